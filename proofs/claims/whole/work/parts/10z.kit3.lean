/-! texts: length and charAt, as contracts (proved behind) -/
def zchr (t j : Nat) : Int32 := (zbyts.getD t []).getD j 0
abbrev rm_J0_length_8abf5 : Room := { frames := 1, cells := 0, slots := 0, locals := 20 }
abbrev rm_J0_charAt_5068e : Room := { frames := 3, cells := 0, slots := 0, locals := 64 }
def Con_len (l : Launch) (G : zG) : Prop := ∀ t, t < 13 → ∀ m : zM, Met l yJ0_length_8abf5 wsJ0_length_8abf5 rm_J0_length_8abf5 (va_Pc [.ref (zaK G t)] (fun U => zW G m U)) (va_Qi (fun r m' => m' = m ∧ r = nI (zlens.getD t 0)) (fun m' U => zW G m' U) (zdom G)) 0 0 (zdom G)
def Con_chr (l : Launch) (G : zG) : Prop := ∀ t j, t < 13 → j < zlens.getD t 0 → ∀ m : zM, Met l yJ0_charAt_5068e wsJ0_charAt_5068e rm_J0_charAt_5068e (va_Pc [.ref (zaK G t), .int (nI j)] (fun U => zW G m U)) (va_Qi (fun r m' => m' = m ∧ r = zchr t j) (fun m' U => zW G m' U) (zdom G)) 0 0 (zdom G)
section ZSTR
variable {C : zC} {G : zG} {cc : ByteArray} {nL : Nat} {Ts : List Cond} {own : String} {k n pc : Nat} {L : List (Nat × Value)} {rest : List Value} {m : zM}
theorem z_recvS (hF : zF C G cc nL Ts own) {H : Heap} {locs : List Loc} (hS : va_S (zA C) (zs C).heap H locs) {t : Nat} (ht : t < 13) : ∃ cell : Cell, H[zaK G t]? = some cell ∧ cell.vm.isStatics = false ∧ (zs C).vm.findClass "java/lang/String" = some cell.cls := by
  obtain ⟨cell, h1, h2, h3, h4⟩ := (hF.2.1.2.1.1 t ht).1
  refine ⟨cell, ?_, h2, h3⟩
  rw [hS.2.1 _ (Array.getElem?_eq_some_iff.mp h1).1 (fun z => h4 (hF.2.2.2.2 _ z))]
  exact h1
theorem zx_strlen (hF : zF C G cc nL Ts own) (hc : Con_len (zl C) G) {idx t : Nat} (cw : CallW (zRm C) (zs C) (zar C) own RJ0 idx yJ0_length_8abf5 cJ0_length_8abf5 1 (some .int) wsJ0_length_8abf5 rm_J0_length_8abf5 0 0 0) (ht : t < 13) (hdg : decode cc pc = .ok (.invokevirtual idx, 3)) (hW : (rest.map fun v => v.category).sum ≤ 8) (hk : k + 0 ≤ (zRm C).cells ∧ n + 0 ≤ (zRm C).slots)
    (K : zX C nL k n (pc + 3) L (.int (nI (zlens.getD t 0)) :: rest) (zPic G m)) : zX C nL k n pc L (.ref (zaK G t) :: rest) (zPic G m) := fun H locs ls hP hS hl =>
  va_calli (va_runV (As := []) (rest := rest) hF.1 (hc t ht m) cw ⟨z_blind, z_recvS hF hS ht, z_preV hF hP hS⟩ rfl rfl hl.1 rfl (lv_room hW) hdg hk) hS (fun q _ h => z_A1 hF q h) (z_A1 hF) (fun r m' t H1 locs1 ht hvm hp hB hz hk1 hS1 => by
    obtain ⟨rfl, rfl⟩ := hp
    exact K H1 locs1 ls (by rw [← ht]; exact hB.1) hS1 hl)
theorem zx_strchar (hF : zF C G cc nL Ts own) (hc : Con_chr (zl C) G) {idx t : Nat} {x : Int32} (cw : CallW (zRm C) (zs C) (zar C) own RJ0 idx yJ0_charAt_5068e cJ0_charAt_5068e 2 (some .char) wsJ0_charAt_5068e rm_J0_charAt_5068e 0 0 1) (ht : t < 13) (hx : ∃ j : Nat, j < zlens.getD t 0 ∧ x = nI j) (hdg : decode cc pc = .ok (.invokevirtual idx, 3)) (hW : (rest.map fun v => v.category).sum ≤ 8) (hk : k + 0 ≤ (zRm C).cells ∧ n + 0 ≤ (zRm C).slots)
    (K : zX C nL k n (pc + 3) L (.int (zchr t x.toNatClampNeg) :: rest) (zPic G m)) : zX C nL k n pc L (.int x :: .ref (zaK G t) :: rest) (zPic G m) := by
  obtain ⟨j, hj, rfl⟩ := hx
  have hj2 : zlens.getD t 0 ≤ 6 := by
    have h := (by decide : ∀ i, i < 13 → zlens.getD i 0 ≤ 6)
    exact h t ht
  rw [nI_clamp (by omega)] at K
  exact fun H locs ls hP hS hl =>
    va_calli (va_runV (As := [.int (nI j)]) (rest := rest) hF.1 (hc t j ht hj m) cw ⟨z_blind, z_recvS hF hS ht, z_preV hF hP hS⟩ rfl rfl hl.1 rfl (lv_room hW) hdg hk) hS (fun q _ h => z_A1 hF q h) (z_A1 hF) (fun r m' t H1 locs1 ht hvm hp hB hz hk1 hS1 => by
      obtain ⟨rfl, rfl⟩ := hp
      exact K H1 locs1 ls (by rw [← ht]; exact hB.1) hS1 hl)
end ZSTR
