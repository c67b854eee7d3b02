/-! makers: what they begin with, what they end with -/
def zi0 (f : Nat) : Int32 := if f = 5 then -1 else if f = 105 then 3 else 0
def zj0 (f : Nat) : Int64 := if f = 0 then 1000 else 0
/-- from owner z on, the memory is as the makers leave it -/
def zIni (m : zM) (z : Nat) : Prop := ∀ o, z ≤ o → (∀ f j, zI m f o j = zi0 f ∧ zJ m f o j = zj0 f ∧ zQ m f o j = none) ∧ zR m 3 o = o + 2 ∧ zR m 502 o = o + 125
theorem zIni_mo {m : zM} {z z' : Nat} (h : zIni m z) (hz : z ≤ z') : zIni m z' := fun o ho => h o (Nat.le_trans hz ho)
def zdf (c : Nat) : List Value := if c = 0 then [.long 0, .null, .int 0, .null, .int 0, .int 0, .null, .int 0, .int 0, .int 0] else if c = 1 then [.int 0, .int 0, .int 0, .int 0, .int 0, .int 0, .int 0, .int 0, .null] else if c = 2 then .int 0 :: List.replicate 7 .null else if c = 3 then [.int 0, .int 0, .int 0, .long 0, .long 0, .long 0, .null, .null, .null, .null, .null] else if c = 4 then [.null, .int 0, .null, .int 0, .int 0, .int 0, .int 0, .int 0] else if c = 5 then [.null, .null, .null] else
  (.int 0 :: List.replicate 24 .null) ++ [.int 0, .int 0, .int 0, .int 0, .int 0, .long 0, .int 0, .int 0, .int 0, .int 0, .null, .null, .null, .null, .null, .null, .int 0] ++ List.replicate 8 .null
def zEl (G : zG) (c a : Nat) (m : zM) (q : Nat) : Option va_E := (zLy c a q).map (fun k => zcell G k.1 k.2 m)
def zNi (G : zG) (c a : Nat) (U : State) : Prop := zNp G (a + 1) (fun q => if q = a then some (.inr (c, zdf c)) else none) U.heap ∧ zKs G U ∧ zNs U
def Con_ini (l : Launch) (G : zG) (y : MethodName) (ws : List Cond) (rm : Room) (c mc ms : Nat) (F : zM → Nat → zM) : Prop := ∀ (a : Nat) (m : zM), zbs G ≤ a → zIni m a → Met l y ws rm (va_Pc [.ref a] (fun U => zNi G c a U)) (va_Qv (fun _ : Unit => True) (fun _ t => zNp G (a + zln c) (zEl G c a (F m a)) t.heap) (fun q => a ≤ q)) mc ms (fun q => a ≤ q)
theorem zNp_mo {G : zG} {z z' : Nat} {E E' : Nat → Option va_E} {H : Heap} (h : zNp G z E H) (hz : z = z') (hE : ∀ q e, E' q = some e → E q = some e) : zNp G z' E' H := by
  subst hz
  exact ⟨h.1, fun q e he => h.2 q e (hE q e he)⟩
theorem zdf_0 : ∀ j, j < 10 → defaultValue (tyX0 j) = vp_V (zdf 0) j := by decide +kernel
theorem zdf_1 : ∀ j, j < 9 → defaultValue (tyX1 j) = vp_V (zdf 1) j := by decide +kernel
theorem zdf_2 : ∀ j, j < 8 → defaultValue (tyX2 j) = vp_V (zdf 2) j := by decide +kernel
theorem zdf_3 : ∀ j, j < 11 → defaultValue (tyX3 j) = vp_V (zdf 3) j := by decide +kernel
theorem zdf_4 : ∀ j, j < 8 → defaultValue (tyX4 j) = vp_V (zdf 4) j := by decide +kernel
theorem zdf_5 : ∀ j, j < 3 → defaultValue (tyX5 j) = vp_V (zdf 5) j := by decide +kernel
theorem zdf_6 : ∀ j, j < 50 → defaultValue (tyX6 j) = vp_V (zdf 6) j := by decide +kernel
/-- an object in the making: its fields so far, and of its cells the first d -/
def zEc (G : zG) (c a d : Nat) (fs : List Value) (m : zM) (q : Nat) : Option va_E := if q = a then some (.inr (c, fs)) else if a < q ∧ q < a + d then zEl G c a m q else none
theorem zEc_a {G : zG} {c a d : Nat} {fs : List Value} {m : zM} : zEc G c a d fs m a = some (.inr (c, fs)) := if_pos rfl
theorem zEc_0 {G : zG} {c a : Nat} {m : zM} {H : Heap} {fs : List Value} (h : zNp G (a + 1) (fun q => if q = a then some (.inr (c, fs)) else none) H) : zNp G (a + 1) (zEc G c a 1 fs m) H := zNp_mo h rfl fun q e he => by
  unfold zEc at he
  by_cases hq : q = a
  · rw [if_pos hq] at he ⊢
    exact he
  · rw [if_neg hq, if_neg (by omega)] at he
    cases he
theorem zEc_put {G : zG} {c a d z : Nat} {fs fs' : List Value} {m : zM} {H : Heap} (h : zNp G z (zEu (zEc G c a d fs m) a (.inr (c, fs'))) H) : zNp G z (zEc G c a d fs' m) H := zNp_mo h rfl fun q e he => by
  unfold zEc at he
  by_cases hq : q = a
  · rw [if_pos hq] at he
    rw [hq, zEu_e]
    exact he
  · rw [if_neg hq] at he
    rw [zEu_n hq]
    unfold zEc
    rw [if_neg hq]
    exact he
theorem zEc_row {G : zG} {c a d kd : Nat} {fs : List Value} {m : zM} {H : Heap} (hd : 0 < d) (hl : (zlo c)[d]? = some (kd, 0)) (h : zNp G (a + d + 1) (zEu (zEc G c a d fs m) (a + d) (zcell G kd a m)) H) : zNp G (a + (d + 1)) (zEc G c a (d + 1) fs m) H := zNp_mo h rfl fun q e he => by
  unfold zEc at he
  by_cases hq : q = a
  · rw [if_pos hq] at he
    rw [zEu_n (by omega)]
    unfold zEc
    rw [if_pos hq]
    exact he
  · rw [if_neg hq] at he
    split at he
    · rename_i h1
      by_cases h2 : q = a + d
      · rw [h2, zEu_e]
        rw [h2] at he
        unfold zEl at he
        rw [zLy_o, hl] at he
        exact he
      · rw [zEu_n h2]
        unfold zEc
        rw [if_neg hq, if_pos (by omega)]
        exact he
    · cases he
theorem zEc_sub {G : zG} {c c2 a d : Nat} {fs : List Value} {m : zM} {H : Heap} {E : Nat → Option va_E} (hd : 0 < d) (hc : c2 < 7) (hl : ∀ i, i < zln c2 → (zlo c)[d + i]? = ((zlo c2)[i]?).map (fun k => (k.1, k.2 + d))) (hE : ∀ q, q < a + d → E q = zEc G c a d fs m q) (h : zNp G (a + d + zln c2) (fun q => if a + d ≤ q then zEl G c2 (a + d) m q else E q) H) : zNp G (a + (d + zln c2)) (zEc G c a (d + zln c2) fs m) H := zNp_mo h (by omega) fun q e he => by
  unfold zEc at he
  by_cases hq : q = a
  · rw [if_pos hq] at he
    rw [if_neg (by omega), hE q (by omega)]
    unfold zEc
    rw [if_pos hq]
    exact he
  · rw [if_neg hq] at he
    split at he
    · rename_i h1
      by_cases h2 : a + d ≤ q
      · rw [if_pos h2]
        obtain ⟨i, rfl⟩ : ∃ i, q = a + d + i := ⟨q - (a + d), by omega⟩
        unfold zEl at he ⊢
        rw [zLy_o]
        rw [show a + d + i = a + (d + i) by omega, zLy_o, hl i (by omega)] at he
        cases hi : (zlo c2)[i]? with
        | none => rw [hi] at he; cases he
        | some k =>
          rw [hi] at he
          have e1 : some (zcell G k.1 (a + (k.2 + d)) m) = some e := he
          rw [← e1, show a + (k.2 + d) = a + d + k.2 by omega]
          rfl
      · rw [if_neg h2, hE q (by omega)]
        unfold zEc
        rw [if_neg hq, if_pos (by omega)]
        exact he
    · cases he
theorem zEc_end {G : zG} {c a : Nat} {fs : List Value} {m : zM} {H : Heap} (hc : c < 7) (hl : (zlo c)[0]? = some (c, 0)) (hf : fs = zfs c a m) (h : zNp G (a + zln c) (zEc G c a (zln c) fs m) H) : zNp G (a + zln c) (zEl G c a m) H := zNp_mo h rfl fun q e he => by
  have he2 := he
  unfold zEl at he
  cases hk : zLy c a q with
  | none => rw [hk] at he; cases he
  | some k =>
    have h1 := zLy_lt hc hk
    unfold zEc
    by_cases hq : q = a
    · subst hq
      rw [if_pos rfl]
      rw [show zLy c q q = zLy c q (q + 0) from rfl, zLy_o, hl] at he
      have e1 : some (zcell G c q m) = some e := he
      rw [← e1, hf]
      unfold zcell
      rw [if_pos (by omega), Nat.mod_eq_of_lt (by omega)]
    · rw [if_neg hq, if_pos (by omega)]
      exact he2
section ZN2
variable {C : zC} {G : zG} {cc : ByteArray} {nL : Nat} {Ts : List Cond} {own : String} {k n pc : Nat} {L : List (Nat × Value)} {rest : List Value} {P : Heap → Prop} {z : Nat} {E : Nat → Option va_E}
theorem z_blindN {G : zG} {c a : Nat} {av : List Value} : FrameBlind (va_Pc av (fun U => zNi G c a U)) := fun _ U _ _ h => ⟨h.1, h.2.1, ⟨va_K.moved (u := U) (Vm.Alike.refl U.vm) h.2.2.1.1, vk_S.moved (u := U) (Vm.Alike.refl U.vm) h.2.2.1.2.1, fun i hi => (h.2.2.1.2.2.1 i hi).same rfl, va_Z.moved (u := U) (Vm.Alike.refl U.vm) h.2.2.1.2.2.2.1, va_Zq.moved (u := U) (Vm.Alike.refl U.vm) h.2.2.1.2.2.2.2⟩, h.2.2.2⟩
theorem zKs_N (hF : zN C G cc nL Ts own) {H : Heap} {locs : List Loc} (hS : va_S (zA C) (zs C).heap H locs) {U : State} (hU : U.heap = H) (hW : (zs C).WarmedH U.vm) : zKs G U ∧ zNs U := ⟨zKs_moved (A := zA C) hF.2.1 hF.2.2.1 hS hU hW, zNs_moved hF.2.2.2 hW⟩
theorem zn_callI (hF : zN C G cc nL Ts own) {y : MethodName} {ws : List Cond} {rm : Room} {bytes : ByteArray} {idx maxL c mc ms a : Nat} {F : zM → Nat → zM} {m : zM} (hM : Con_ini (zl C) G y ws rm c mc ms F) (cw : CallB (zRm C) (zs C) (zar C) own idx y bytes maxL none ws rm mc ms 0 ∧ y.name = "<init>" ∧ (Cond.instanceMethod y).before (zar C) (zs C) = true) (hb : zbs G ≤ a) (hm : zIni m a) (hA : ∀ q, a ≤ q → zA C q) (hE : E a = some (.inr (c, zdf c))) (hdg : decode cc pc = .ok (.invokespecial idx, 3)) (hW : (rest.map fun v => v.category).sum ≤ 8) (hk : k + mc ≤ (zRm C).cells ∧ n + ms ≤ (zRm C).slots)
    (K : zX C nL (k + mc) (n + ms) (pc + 3) L rest (zNp G (a + zln c) (fun q => if a ≤ q then zEl G c a (F m a) q else E q))) : zX C nL k n pc L (.ref a :: rest) (zNp G (a + 1) E) := fun H locs ls hP hS hl =>
  va_callv (va_runI (As := []) (rest := rest) hF.1 (hM a m hb hm) cw ⟨z_blindN, fun U hU hW => ⟨rfl, ⟨by rw [hU]; exact hP.1, fun q e he => by
      dsimp only at he
      by_cases hq : q = a
      · rw [if_pos hq] at he
        cases he
        rw [hU, hq]
        exact hP.2 a _ hE
      · rw [if_neg hq] at he
        cases he⟩, zKs_N hF hS hU hW⟩⟩ rfl rfl hl.1 rfl (lv_room hW) hdg hk) hS (fun q _ h => hA q h) hA (fun u t H1 locs1 ht hvm hp hB hz hk1 hS1 => K H1 locs1 ls ⟨by rw [← ht]; exact hB.1, fun q e he => by
      dsimp only at he
      by_cases hq : a ≤ q
      · rw [if_pos hq] at he
        rw [← ht]
        exact hB.2 q e he
      · rw [if_neg hq] at he
        have h3 := hP.2 q e he
        exact h3.kept (hk1 q h3.lt hq)⟩ hS1 hl)
theorem zn_callN (hF : zN C G cc nL Ts own) {y : MethodName} {ws : List Cond} {rm : Room} {host : String} {bytes : ByteArray} {idx maxL c mc ms a : Nat} {F : zM → Nat → zM} {m : zM} (hM : Con_ini (zl C) G y ws rm c mc ms F) (cw : va_CN (zRm C) (zs C) (zar C) own idx y host bytes maxL none ws rm mc ms 0 ∧ y.name = "<init>" ∧ (Cond.instanceMethod y).before (zar C) (zs C) = true) (hb : zbs G ≤ a) (hm : zIni m a) (hA : ∀ q, a ≤ q → zA C q) (hE : E a = some (.inr (c, zdf c))) (hdg : decode cc pc = .ok (.invokespecial idx, 3)) (hW : (rest.map fun v => v.category).sum ≤ 8) (hk : k + mc ≤ (zRm C).cells ∧ n + ms ≤ (zRm C).slots)
    (K : zX C nL (k + mc) (n + ms) (pc + 3) L rest (zNp G (a + zln c) (fun q => if a ≤ q then zEl G c a (F m a) q else E q))) : zX C nL k n pc L (.ref a :: rest) (zNp G (a + 1) E) := fun H locs ls hP hS hl =>
  va_callv (va_runIN (As := []) (rest := rest) hF.1 (hM a m hb hm) cw ⟨z_blindN, fun U hU hW => ⟨rfl, ⟨by rw [hU]; exact hP.1, fun q e he => by
      dsimp only at he
      by_cases hq : q = a
      · rw [if_pos hq] at he
        cases he
        rw [hU, hq]
        exact hP.2 a _ hE
      · rw [if_neg hq] at he
        cases he⟩, zKs_N hF hS hU hW⟩⟩ rfl rfl hl.1 rfl (lv_room hW) hdg hk) hS (fun q _ h => hA q h) hA (fun u t H1 locs1 ht hvm hp hB hz hk1 hS1 => K H1 locs1 ls ⟨by rw [← ht]; exact hB.1, fun q e he => by
      dsimp only at he
      by_cases hq : a ≤ q
      · rw [if_pos hq] at he
        rw [← ht]
        exact hB.2 q e he
      · rw [if_neg hq] at he
        have h3 := hP.2 q e he
        exact h3.kept (hk1 q h3.lt hq)⟩ hS1 hl)
/-- a row of numbers more -/
theorem zn_row (hF : zN C G cc nL Ts own) {c a d kd t N : Nat} {atype : ArrayType} {x : Int32} {fs : List Value} {m : zM} (hl : (zlo c)[d]? = some (kd, 0)) (hd : 0 < d) (hk : ¬ kd < 1000) (ht : zty kd = t) (hN : zal kd = N) (hty : (ztys G)[t]? = some (zcy G t, newarray.typeOf atype)) (harr : Cond.arrayClass (newarray.typeOf atype) ∈ Ts) (he : ∀ cA : ClassId, vp_cell cA (N, zad kd a m) = arrV cA N (fun _ => defaultValue (newarray.typeOf atype))) (hx : ¬ x < 0) (hxN : x.toNatClampNeg = N) (hb : N * componentBytes (newarray.typeOf atype) ≤ 536870912) (hc : k + 1 ≤ (zRm C).cells) (hs : n + N ≤ (zRm C).slots) (hdg : decode cc pc = .ok (.newarray atype, 2))
    (K : zX C nL (k + 1) (n + N) (pc + 2) L (.ref (a + d) :: rest) (zNp G (a + (d + 1)) (zEc G c a (d + 1) fs m))) : zX C nL k n pc L (.int x :: rest) (zNp G (a + d) (zEc G c a d fs m)) :=
  zn_newa hF harr hty he hx hxN hb hc hs hdg (zX_mo K fun H h => zEc_row (kd := kd) hd hl (by unfold zcell; rw [if_neg hk, ht, hN]; exact h))
theorem zhe_i {kd a N : Nat} {m : zM} (hm : zIni m a) (h : zty kd = 0 ∨ zty kd = 1 ∨ zty kd = 3) (h2 : zi0 kd = 0) (cA : ClassId) : vp_cell cA (N, zad kd a m) = arrV cA N (fun _ => .int 0) := by
  rw [z_adI h, vp_cell_i]
  congr 1
  funext j
  rw [((hm a (Nat.le_refl a)).1 kd j).1, h2]
theorem zhe_j {kd a N : Nat} {m : zM} (hm : zIni m a) (h : zty kd = 2) (h2 : zj0 kd = 0) (cA : ClassId) : vp_cell cA (N, zad kd a m) = arrV cA N (fun _ => .long 0) := by
  rw [z_adJ h, vp_cell_l]
  congr 1
  funext j
  rw [((hm a (Nat.le_refl a)).1 kd j).2.1, h2]
end ZN2
