/-! the Book's maker -/
theorem zarr_ext {cI : ClassId} {N : Nat} {f g : Nat → Value} (h : ∀ j, j < N → f j = g j) : arrV cI N f = arrV cI N g := by
  unfold arrV
  congr 2
  funext j
  exact h j.val j.isLt
theorem zNp_cell {G : zG} {z x : Nat} {E : Nat → Option va_E} {e1 e2 : ClassId × vp_A} {H : Heap} (h : zNp G z E H) (h1 : E x = some (.inl e1)) (h2 : vp_cell e1.1 e1.2 = vp_cell e2.1 e2.2) : zNp G z (zEu E x (.inl e2)) H := by
  refine ⟨h.1, fun q e he => ?_⟩
  by_cases hq : q = x
  · subst hq
    rw [zEu_e] at he
    cases he
    have h3 : H[q]? = some (vp_cell e1.1 e1.2) := h.2 q _ h1
    show H[q]? = some (vp_cell e2.1 e2.2)
    rw [← h2]
    exact h3
  · rw [zEu_n hq] at he
    exact h.2 q e he
/-- the row of claims, of which i are made -/
def zBf (a i : Nat) : Nat → Option Nat := fun j => if j < i ∨ 16 ≤ j then some (a + 11 + 7 * j) else none
def zBk (G : zG) (a i : Nat) (fs : List Value) (m : zM) : Nat → Option va_E := zEu (zEc G 0 a (11 + 7 * i) fs m) (a + 10) (.inl (zcy G 5, 16, .inr (.inr (.inr (.inr (zBf a i))))))
theorem zBk_a {G : zG} {a i : Nat} {fs : List Value} {m : zM} : zBk G a i fs m a = some (.inr (0, fs)) := (zEu_n (by omega)).trans zEc_a
theorem zBk_b {G : zG} {a i : Nat} {fs : List Value} {m : zM} : zBk G a i fs m (a + 10) = some (.inl (zcy G 5, 16, .inr (.inr (.inr (.inr (zBf a i)))))) := zEu_e
theorem zBk_0 {G : zG} {a : Nat} {fs fs' : List Value} {m : zM} {H : Heap} (h : zNp G (a + 10 + 1) (zEu (zEu (zEc G 0 a 10 fs m) (a + 10) (.inl (zcy G 5, 16, .inr (.inr (.inr (.inr (fun _ => none))))))) a (.inr (0, fs'))) H) : zNp G (a + (11 + 7 * 0)) (zBk G a 0 fs' m) H := by
  have h2 := zNp_cell (x := a + 10) (e2 := (zcy G 5, 16, .inr (.inr (.inr (.inr (zBf a 0)))))) h ((zEu_n (by omega)).trans zEu_e) (by
    rw [vp_cell_q, vp_cell_q]
    refine zarr_ext fun j hj => ?_
    unfold zBf
    rw [if_neg (by omega)])
  refine zNp_mo h2 rfl fun q e he => ?_
  unfold zBk at he
  by_cases hq : q = a + 10
  · rw [hq, zEu_e] at he ⊢
    exact he
  · rw [zEu_n hq] at he ⊢
    unfold zEc at he
    by_cases hq2 : q = a
    · rw [if_pos hq2] at he
      rw [hq2, zEu_e]
      exact he
    · rw [if_neg hq2] at he
      rw [zEu_n hq2, zEu_n hq]
      unfold zEc
      rw [if_neg hq2]
      split at he
      · rw [if_pos (by omega)]
        exact he
      · cases he
theorem zBk_s {G : zG} {a i : Nat} {fs : List Value} {m : zM} {H : Heap} {E1 : Nat → Option va_E} (hi : i < 16) (hE : ∀ q, q < a + (11 + 7 * i) → q ≠ a + 10 → E1 q = zEc G 0 a (11 + 7 * i) fs m q) (h : zNp G (a + (11 + 7 * i) + zln 1) (zEu (fun q => if a + (11 + 7 * i) ≤ q then zEl G 1 (a + (11 + 7 * i)) m q else E1 q) (a + 10) (.inl (zcy G 5, 16, .inr (.inr (.inr (.inr (va_up (zBf a i) (nI i).toNatClampNeg (some (a + (11 + 7 * i))))))))) ) H) : zNp G (a + (11 + 7 * (i + 1))) (zBk G a (i + 1) fs m) H := by
  have e1 : va_up (zBf a i) (nI i).toNatClampNeg (some (a + (11 + 7 * i))) = zBf a (i + 1) := by
    funext j
    rw [nI_clamp (by omega)]
    unfold va_up zBf
    by_cases hj : j = i
    · subst hj
      rw [if_pos rfl, if_pos (by omega)]
      congr 1
      omega
    · rw [if_neg hj]
      by_cases hj2 : j < i ∨ 16 ≤ j
      · rw [if_pos hj2, if_pos (by omega)]
      · rw [if_neg hj2, if_neg (by omega)]
  rw [e1] at h
  refine zNp_mo h (by show a + (11 + 7 * i) + 7 = _; omega) fun q e he => ?_
  unfold zBk at he
  by_cases hq : q = a + 10
  · rw [hq, zEu_e] at he ⊢
    exact he
  · rw [zEu_n hq] at he ⊢
    unfold zEc at he
    by_cases hq2 : q = a
    · rw [if_pos hq2] at he
      rw [if_neg (by omega), hE q (by omega) hq]
      unfold zEc
      rw [if_pos hq2]
      exact he
    · rw [if_neg hq2] at he
      split at he
      · rename_i h1
        by_cases h2 : a + (11 + 7 * i) ≤ q
        · rw [if_pos h2]
          obtain ⟨r, rfl⟩ : ∃ r, q = a + (11 + 7 * i) + r := ⟨q - (a + (11 + 7 * i)), by omega⟩
          have hl := (by decide +kernel : ∀ i, i < 16 → ∀ r, r < 7 → (zlo 0)[11 + 7 * i + r]? = ((zlo 1)[r]?).map (fun k => (k.1, k.2 + (11 + 7 * i)))) i hi r (by omega)
          unfold zEl at he ⊢
          rw [zLy_o]
          rw [show a + (11 + 7 * i) + r = a + (11 + 7 * i + r) by omega, zLy_o, hl] at he
          cases hr : (zlo 1)[r]? with
          | none => rw [hr] at he; cases he
          | some k =>
            rw [hr] at he
            have e2 : some (zcell G k.1 (a + (k.2 + (11 + 7 * i))) m) = some e := he
            rw [← e2, show a + (k.2 + (11 + 7 * i)) = a + (11 + 7 * i) + k.2 by omega]
            rfl
        · rw [if_neg h2, hE q (by omega) hq]
          unfold zEc
          rw [if_neg hq2, if_pos (by omega)]
          exact he
      · cases he
theorem zBk_e {G : zG} {a : Nat} {fs : List Value} {m : zM} {H : Heap} (hf : fs = zfs 0 a m) (h : zNp G (a + (11 + 7 * 16)) (zBk G a 16 fs m) H) : zNp G (a + zln 0) (zEl G 0 a m) H := by
  refine zEc_end (fs := fs) (by decide) rfl hf (zNp_mo h rfl fun q e he => ?_)
  unfold zBk
  by_cases hq : q = a + 10
  · subst hq
    rw [zEu_e]
    rw [zEc_i (c := 0) (i := 10) (kd := 1006) (by decide) (by decide) rfl] at he
    rw [← he]
    show _ = some (Sum.inl (zcy G 5, 16, Sum.inr (Sum.inr (Sum.inr (Sum.inr (fun j => some (a + 11 + 7 * j)))))))
    have e9 : zBf a 16 = fun j => some (a + 11 + 7 * j) := funext fun j => by
      unfold zBf
      rw [if_pos (by omega)]
    rw [e9]
  · rw [zEu_n hq]
    exact he
def rm_X0_init : Room := { frames := 3, cells := 122, slots := 1368, locals := 60 }
set_option maxRecDepth 100000 in
set_option maxHeartbeats 4000000 in
theorem C_X0_init {l : Launch} {G : zG} : Con_ini l G yX0_init wsX0_init rm_X0_init 0 122 1368 (fun m _ => m) := by
  intro a m hb hm
  refine zMetN (P := zNp G (a + 1) (zEc G 0 a 1 (zdf 0) m)) (G := G) (cc := cX0_init) (maxL := 2) (ret := none) (by decide +kernel) rfl (Nat.le_of_ble_eq_true rfl) (fun q h => Nat.le_trans hb h) (fun U h => ⟨zEc_0 h.1, h.2⟩) (fun C hF hQ hA hR hl hnm => ?_)
  have hin1 : ∀ w ∈ u_ws RX1 TX1 9, w ∈ wsX0_init := fun w h => List.mem_cons_of_mem _ (List.mem_append_left _ (List.mem_append_right _ h))
  have hin2 : ∀ w ∈ u_ws RX2 TX2 8, w ∈ wsX0_init := fun w h => List.mem_cons_of_mem _ (List.mem_append_left _ (List.mem_append_left _ (List.mem_append_right _ h)))
  have hin0 : ∀ w ∈ u_ws RX0 TX0 10, w ∈ wsX0_init := fun w h => List.mem_cons_of_mem _ (List.mem_append_left _ (List.mem_append_left _ (List.mem_append_left _ (List.mem_append_right _ h))))
  have hAa : zA C a := by rw [hA]; exact Nat.le_refl a
  have hAq : ∀ d q, a + d ≤ q → zA C q := fun d q h => by rw [hA]; exact Nat.le_trans (Nat.le_add_right _ _) h
  have hts := hF.1.2.2.2.2
  have key : ∀ d i, i + d = 16 → zX C 2 (10 + 7 * i) (728 + 40 * i) 47 [(1, .int (nI i)), (0, .ref a)] [] (zNp G (a + (11 + 7 * i)) (zBk G a i [.long 1000, .ref (a + 1), .int 0, .ref (a + 2), .int 0, .int (-1), .ref (a + 10), .int 0, .int 0, .int 0] m)) := by
    intro d
    induction d with
    | zero =>
      intro i hi
      have hi : i = 16 := hi
      subst hi
      refine zx_iload_n hF.1 0 dX0_init_47 rfl ?_
      refine zx_bipush hF.1 dX0_init_48 (v := 16) (by decide) ?_
      refine zx_icmp_ge hF.1 dX0_init_50 (tgt := 72) (by decide) (fun _ => ?_) (fun q => absurd (by decide) q)
      exact zx_vretN hF.1 hQ dX0_init_72 (fun t hP hFr hW => ⟨⟨(), rfl, trivial, zBk_e (by
        show _ = zfs0 a m
        unfold zfs0
        have h0 := (hm a (Nat.le_refl a))
        rw [(h0.1 0 0).2.1, (h0.1 2 0).1, h0.2.1, (h0.1 4 0).1, (h0.1 5 0).1, (h0.1 7 0).1, (h0.1 8 0).1, (h0.1 9 0).1]
        rfl) hP⟩, by rw [← hA]; exact hFr⟩)
    | succ d ih =>
      intro i hi
      have hi2 : i < 16 := by omega
      refine zx_iload_n hF.1 0 dX0_init_47 rfl ?_
      refine zx_bipush hF.1 dX0_init_48 (v := nI 16) (by decide) ?_
      refine zx_icmp_ge hF.1 dX0_init_50 (tgt := 72) (by decide) (fun q => absurd q (nI_ge hi2 (by decide))) (fun _ => ?_)
      refine zx_aload_n hF.1 1 dX0_init_53 rfl ?_
      refine zn_get hF zBk_a rfl hin0 6 (by decide) (List.mem_of_getElem? (i := 14) rfl) rfl (v := .ref (a + 10)) rfl dX0_init_54 ?_
      refine zx_iload_n hF.1 0 dX0_init_57 rfl ?_
      refine zn_new (ci := 1) (fs := zdf 1) hF rfl hin1 tyX1_ok (List.mem_of_getElem? (i := 13) rfl) (List.mem_of_getElem? (i := 15) rfl) (List.mem_of_getElem? (i := 16) rfl) zdf_1 (by rw [hR]; show 10 + 7 * i + 1 ≤ 122; omega) (by rw [hR]; show 728 + 40 * i + 9 ≤ 1368; omega) dX0_init_58 ?_
      refine zx_dup hF.1 dX0_init_61 rfl ?_
      refine zn_callN (host := "ClaimsFund") (bytes := cX1_init) (maxL := 1) (m := m) hF C_X1_init ⟨va_cnB 0 hts gX0_init_X1_init_n38 rfl rfl rfl hF.2.2.2.2.1 (hts _ (List.mem_of_getElem? (i := 16) rfl)) (by decide +kernel) (by rw [hR]; exact ⟨Nat.le_of_ble_eq_true rfl, Nat.le_of_ble_eq_true rfl⟩), rfl, hts _ (List.mem_of_getElem? (i := 29) rfl)⟩ (Nat.le_trans hb (Nat.le_add_right _ _)) (zIni_mo hm (Nat.le_add_right _ _)) (fun q h => hAq _ q h) zEu_e dX0_init_62 (Nat.le_of_ble_eq_true rfl) (by rw [hR]; exact ⟨by show 10 + 7 * i + 1 + 6 ≤ 122; omega, by show 728 + 40 * i + 9 + 31 ≤ 1368; omega⟩) ?_
      refine zn_aast (t := 5) (ci := 1) (N := 16) (f := zBf a i) (r := (RX1, TX1, 9)) (vs := zfs 1 (a + (11 + 7 * i)) m) hF (by
        show (if a + (11 + 7 * i) ≤ a + 10 then _ else _) = _
        rw [if_neg (by omega), zEu_n (by omega)]
        exact zBk_b) (hAq 10 _ (Nat.le_refl _)) (by
        show (if a + (11 + 7 * i) ≤ a + (11 + 7 * i) then _ else _) = _
        rw [if_pos (Nat.le_refl _)]
        unfold zEl
        rw [show zLy 1 (a + (11 + 7 * i)) (a + (11 + 7 * i)) = zLy 1 (a + (11 + 7 * i)) (a + (11 + 7 * i) + 0) from rfl, zLy_o]
        rfl) rfl rfl (vp_in_nI (by omega) (by omega)) dX0_init_65 ?_
      refine zX_mo ?_ (fun H h => zBk_s hi2 (fun q hq hq2 => (zEu_n (by omega)).trans (zEu_n hq2)) h)
      refine zx_iinc hF.1 0 dX0_init_66 rfl (v := nI (i + 1)) (nI_add i 1) (by decide) rfl ?_
      refine zx_goto hF.1 dX0_init_69 (tgt := 47) (by decide) ?_
      exact ih (i + 1) (by omega)
  show zX C 2 0 0 0 [(0, .ref a)] [] _
  refine zx_aload_n hF.1 0 dX0_init_0 rfl ?_
  refine zx_obj hF.1 (List.mem_of_getElem? (i := 1) rfl) (List.mem_of_getElem? (i := 2) rfl) (List.mem_of_getElem? (i := 3) rfl) (by rw [hR]; exact Nat.le_of_ble_eq_true rfl) (by rw [hR]; exact Nat.le_of_ble_eq_true rfl) dX0_init_1 ?_
  refine zx_aload_n hF.1 0 dX0_init_4 rfl ?_
  refine zx_ldc2 hF.1 (v := 1000) (List.mem_of_getElem? (i := 4) rfl) dX0_init_5 ?_
  refine zn_put (ty := .long) hF zEc_a hAa rfl hin0 tyX0_ok nmX0 0 (by decide) (List.mem_of_getElem? (i := 5) rfl) rfl rfl (by decide +kernel) rfl rfl (Nat.le_of_ble_eq_true rfl) dX0_init_8 ?_
  refine zX_mo (P' := zNp G (a + 1) (zEc G 0 a 1 [.long 1000, .null, .int 0, .null, .int 0, .int 0, .null, .int 0, .int 0, .int 0] m)) ?_ (fun H h => zEc_put h)
  refine zx_aload_n hF.1 0 dX0_init_11 rfl ?_
  refine zx_sipush hF.1 dX0_init_12 (v := 400) (by decide) ?_
  refine zn_row (atype := .byte) (t := 0) (d := 1) (kd := 1001) (N := 400) hF rfl (by decide) (by decide) rfl rfl rfl (List.mem_of_getElem? (i := 6) rfl) (zhe_i hm (by decide) rfl) (by decide) (by decide) (Nat.le_of_ble_eq_true rfl) (by rw [hR]; exact Nat.le_of_ble_eq_true rfl) (by rw [hR]; exact Nat.le_of_ble_eq_true rfl) dX0_init_15 ?_
  refine zn_putF (ty := .array .byte) hF zEc_a hAa rfl hin0 tyX0_ok nmX0 1 (by decide) (List.mem_of_getElem? (i := 7) rfl) rfl rfl hnm rfl (by decide +kernel) rfl rfl (Nat.le_of_ble_eq_true rfl) dX0_init_17 ?_
  refine zX_mo (P' := zNp G (a + 2) (zEc G 0 a 2 [.long 1000, .ref (a + 1), .int 0, .null, .int 0, .int 0, .null, .int 0, .int 0, .int 0] m)) ?_ (fun H h => zEc_put h)
  refine zx_aload_n hF.1 0 dX0_init_20 rfl ?_
  refine zn_new (ci := 2) (fs := zdf 2) hF rfl hin2 tyX2_ok (List.mem_of_getElem? (i := 8) rfl) (List.mem_of_getElem? (i := 9) rfl) (List.mem_of_getElem? (i := 10) rfl) zdf_2 (by rw [hR]; exact Nat.le_of_ble_eq_true rfl) (by rw [hR]; exact Nat.le_of_ble_eq_true rfl) dX0_init_21 ?_
  refine zx_dup hF.1 dX0_init_24 rfl ?_
  refine zn_callN (host := "ClaimsFund") (bytes := cX2_init) (maxL := 1) (m := m) hF C_X2_init ⟨va_cnB 0 hts gX0_init_X2_init_n23 rfl rfl rfl hF.2.2.2.1 (hts _ (List.mem_of_getElem? (i := 10) rfl)) (by decide +kernel) (by rw [hR]; exact ⟨Nat.le_of_ble_eq_true rfl, Nat.le_of_ble_eq_true rfl⟩), rfl, hts _ (List.mem_of_getElem? (i := 17) rfl)⟩ (Nat.le_trans hb (Nat.le_add_right _ _)) (zIni_mo hm (Nat.le_add_right _ _)) (fun q h => hAq _ q h) zEu_e dX0_init_25 (Nat.le_of_ble_eq_true rfl) (by rw [hR]; exact ⟨Nat.le_of_ble_eq_true rfl, Nat.le_of_ble_eq_true rfl⟩) ?_
  refine zX_mo (P' := zNp G (a + 10) (zEc G 0 a 10 [.long 1000, .ref (a + 1), .int 0, .null, .int 0, .int 0, .null, .int 0, .int 0, .int 0] m)) ?_ (fun H h => zEc_sub (c2 := 2) (d := 2) (by decide) (by decide) (by decide +kernel) (fun q hq => zEu_n (by omega)) h)
  refine zn_put (ty := .object "ClaimsFund$Grid") hF zEc_a hAa rfl hin0 tyX0_ok nmX0 3 (by decide) (List.mem_of_getElem? (i := 11) rfl) rfl rfl (by decide +kernel) rfl rfl (Nat.le_of_ble_eq_true rfl) dX0_init_28 ?_
  refine zX_mo (P' := zNp G (a + 10) (zEc G 0 a 10 [.long 1000, .ref (a + 1), .int 0, .ref (a + 2), .int 0, .int 0, .null, .int 0, .int 0, .int 0] m)) ?_ (fun H h => zEc_put h)
  refine zx_aload_n hF.1 0 dX0_init_31 rfl ?_
  refine zx_iconst hF.1 dX0_init_32 (v := -1) (by decide) ?_
  refine zn_put (ty := .int) hF zEc_a hAa rfl hin0 tyX0_ok nmX0 5 (by decide) (List.mem_of_getElem? (i := 12) rfl) rfl rfl (by decide +kernel) rfl rfl (Nat.le_of_ble_eq_true rfl) dX0_init_33 ?_
  refine zX_mo (P' := zNp G (a + 10) (zEc G 0 a 10 [.long 1000, .ref (a + 1), .int 0, .ref (a + 2), .int 0, .int (-1), .null, .int 0, .int 0, .int 0] m)) ?_ (fun H h => zEc_put h)
  refine zx_aload_n hF.1 0 dX0_init_36 rfl ?_
  refine zx_bipush hF.1 dX0_init_37 (v := 16) (by decide) ?_
  refine zn_newq (t := 5) (N := 16) hF (List.mem_of_getElem? (i := 13) rfl) hF.2.2.2.2.2.2.2.1 rfl (by decide) (by decide) (Nat.le_of_ble_eq_true rfl) (by rw [hR]; exact Nat.le_of_ble_eq_true rfl) (by rw [hR]; exact Nat.le_of_ble_eq_true rfl) dX0_init_39 ?_
  refine zn_putF (ty := .array (.object "ClaimsFund$Claim")) hF ((zEu_n (by omega)).trans zEc_a) hAa rfl hin0 tyX0_ok nmX0 6 (by decide) (List.mem_of_getElem? (i := 14) rfl) rfl rfl hnm rfl (by decide +kernel) rfl rfl (Nat.le_of_ble_eq_true rfl) dX0_init_42 ?_
  refine zX_mo (P' := zNp G (a + (11 + 7 * 0)) (zBk G a 0 [.long 1000, .ref (a + 1), .int 0, .ref (a + 2), .int 0, .int (-1), .ref (a + 10), .int 0, .int 0, .int 0] m)) ?_ (fun H h => zBk_0 h)
  refine zx_iconst hF.1 dX0_init_45 (v := nI 0) (by decide) ?_
  refine zx_istore_n hF.1 dX0_init_46 (by decide) rfl ?_
  exact key 16 0 rfl
