/-! the memory with new owners, the world with a new object -/
def zM0 (m : zM) (a : Nat) : zM := ((fun f o j => if o < a then m.1 f o j else zi0 f), (fun f o j => if o < a then m.2.1 f o j else zj0 f), (fun f o => if o < a then m.2.2.1 f o else if f = 3 then o + 2 else o + 125), (fun f o j => if o < a then m.2.2.2 f o j else none))
theorem zM0_I {m : zM} {a f o j : Nat} : zI (zM0 m a) f o j = if o < a then zI m f o j else zi0 f := rfl
theorem zM0_J {m : zM} {a f o j : Nat} : zJ (zM0 m a) f o j = if o < a then zJ m f o j else zj0 f := rfl
theorem zM0_R {m : zM} {a f o : Nat} : zR (zM0 m a) f o = if o < a then zR m f o else if f = 3 then o + 2 else o + 125 := rfl
theorem zM0_Q {m : zM} {a f o j : Nat} : zQ (zM0 m a) f o j = if o < a then zQ m f o j else none := rfl
theorem zM0_ag {m : zM} {a c o : Nat} (h : o < a) : zag c o (zM0 m a) m := fun f _ => ⟨fun j => by rw [zM0_I, if_pos h], fun j => by rw [zM0_J, if_pos h], by rw [zM0_R, if_pos h], fun j => by rw [zM0_Q, if_pos h]⟩
theorem zM0_ini {m : zM} {a : Nat} : zIni (zM0 m a) a := fun o ho => ⟨fun f j => ⟨by rw [zM0_I, if_neg (by omega)], by rw [zM0_J, if_neg (by omega)], by rw [zM0_Q, if_neg (by omega)]⟩, by rw [zM0_R, if_neg (by omega), if_pos rfl], by rw [zM0_R, if_neg (by omega), if_neg (by decide)]⟩
def zEg (G : zG) (m : zM) (q : Nat) : Option va_E := (zK G q).map (fun k => zcell G k.1 k.2 m)
theorem zPic_N {G : zG} {m : zM} {H : Heap} (h : zPic G m H) : zNp G (zsz G) (zEg G m) H := ⟨h.1, fun q e he => by
  obtain ⟨k, h1, h2⟩ := Option.map_eq_some_iff.mp he
  rw [← h2]
  exact h.2.1 q k h1⟩
theorem zPic_ext {G : zG} {c : Nat} {m m' : zM} {E : Nat → Option va_E} {H : Heap} (hL : zLay G) (hE : ∀ q, q < zsz G → E q = zEg G m q) (hag : ∀ c' o, o < zsz G → zag c' o m' m) (hw : zWT (zGx2 G c) m') (h : zNp G (zsz G + zln c) (fun q => if zsz G ≤ q then zEl G c (zsz G) m' q else E q) H) : zPic (zGx2 G c) m' H := by
  refine ⟨h.1, fun q k hk => ?_, hw⟩
  have hcell : ∀ c' o, zcell (zGx2 G c) c' o m' = zcell G c' o m' := fun _ _ => rfl
  rw [hcell]
  by_cases hq : zsz G ≤ q
  · rw [zGx2_n hq] at hk
    exact h.2 q _ (by
      show (if zsz G ≤ q then zEl G c (zsz G) m' q else E q) = _
      rw [if_pos hq]
      unfold zEl
      rw [hk]
      rfl)
  · rw [zGx2_o (by omega)] at hk
    have ho := (hL.1.2 q k hk).2.1
    rw [zcell_ag (hag k.1 k.2 (by omega))]
    exact h.2 q _ (by
      show (if zsz G ≤ q then zEl G c (zsz G) m' q else E q) = _
      rw [if_neg hq, hE q (by omega)]
      unfold zEg
      rw [hk]
      rfl)
theorem zfit0 (f : Nat) : zfitv f (zi0 f) := by
  unfold zfitv zi0
  refine ⟨fun h => ?_, fun h => ?_⟩
  · rw [if_neg (by omega), if_neg (by omega)]; rfl
  · rw [if_neg (by omega), if_neg (by omega)]; rfl
def zlw (l : List (Nat × Nat)) : Prop := ∀ i, i < l.length → (l[i]? = some (0, i) → l[i + 2]? = some (2, i + 2)) ∧ ¬ l[i]? = some (4, i) ∧ (l[i]? = some (5, i) → l[i + 125]? = some (2, i + 125))
theorem zlw_0 : zlw zlo0 := by unfold zlw; decide +kernel
theorem zlw_5 : zlw zlo5 := by unfold zlw; decide +kernel
theorem zlw_6 : zlw zlo6 := by unfold zlw; decide +kernel
theorem zGx2_s {G : zG} {c q : Nat} {k : Nat × Nat} (hk : zK (zGx2 G c) q = some k) : (q < zsz G ∧ zK G q = some k) ∨ ∃ i k0, q = zsz G + i ∧ (zlo c)[i]? = some k0 ∧ k = (k0.1, zsz G + k0.2) := by
  by_cases hq : zsz G ≤ q
  · rw [zGx2_n hq] at hk
    exact Or.inr (zLy_s hk)
  · rw [zGx2_o (by omega)] at hk
    exact Or.inl ⟨by omega, hk⟩
theorem zGx2_i {G : zG} {c i : Nat} {k : Nat × Nat} (h : (zlo c)[i]? = some k) : zK (zGx2 G c) (zsz G + i) = some (k.1, zsz G + k.2) := by
  rw [zGx2_n (Nat.le_add_right _ _), zLy_o, h]
  rfl
theorem zGx2_k {G : zG} {c q : Nat} {k : Nat × Nat} (hL : zLay G) (h : zK G q = some k) : zK (zGx2 G c) q = some k := by
  rw [zGx2_o (hL.1.2 q k h).2.2.1]
  exact h
theorem zWT_M0 {G : zG} {c : Nat} {m : zM} (hL : zLay G) (hw : zWT G m) (hl : zlw (zlo c)) : zWT (zGx2 G c) (zM0 m (zsz G)) := by
  have hlt : ∀ q k, zK G q = some k → q < zsz G := fun q k hk => (hL.1.2 q k hk).2.2.1
  refine ⟨fun f o j => ?_, fun o ho => ?_, fun o ho => ?_, fun o ho => ?_⟩
  · rw [zM0_I]
    split
    · exact hw.1 f o j
    · exact zfit0 f
  · rcases zGx2_s ho with ⟨h1, h2⟩ | ⟨i, k0, rfl, h3, h4⟩
    · rw [zM0_R, if_pos h1]
      exact zGx2_k hL (hw.2.1 o h2)
    · obtain ⟨k1, k2⟩ := k0
      have e1 : 0 = k1 := congrArg Prod.fst h4
      have e2 : zsz G + i = zsz G + k2 := congrArg Prod.snd h4
      have e3 : k2 = i := by omega
      subst e3
      subst e1
      rw [zM0_R, if_neg (by omega), if_pos rfl]
      exact zGx2_i (k := (2, k2 + 2)) ((hl k2 (List.getElem?_eq_some_iff.mp h3).1).1 h3)
  · rcases zGx2_s ho with ⟨h1, h2⟩ | ⟨i, k0, rfl, h3, h4⟩
    · rw [zM0_R, if_pos h1, zM0_R, if_pos h1]
      exact ⟨zGx2_k hL (hw.2.2.1 o h2).1, zGx2_k hL (hw.2.2.1 o h2).2⟩
    · obtain ⟨k1, k2⟩ := k0
      have e1 : 4 = k1 := congrArg Prod.fst h4
      have e2 : zsz G + i = zsz G + k2 := congrArg Prod.snd h4
      have e3 : k2 = i := by omega
      subst e3
      subst e1
      exact absurd h3 (hl k2 (List.getElem?_eq_some_iff.mp h3).1).2.1
  · rcases zGx2_s ho with ⟨h1, h2⟩ | ⟨i, k0, rfl, h3, h4⟩
    · rw [zM0_R, if_pos h1]
      refine ⟨zGx2_k hL (hw.2.2.2 o h2).1, fun i b hi hb => ?_⟩
      rw [zM0_Q, if_pos h1] at hb
      exact zGx2_k hL ((hw.2.2.2 o h2).2 i b hi hb)
    · obtain ⟨k1, k2⟩ := k0
      have e1 : 5 = k1 := congrArg Prod.fst h4
      have e2 : zsz G + i = zsz G + k2 := congrArg Prod.snd h4
      have e3 : k2 = i := by omega
      subst e3
      subst e1
      rw [zM0_R, if_neg (by omega), if_neg (by decide)]
      refine ⟨zGx2_i (k := (2, k2 + 125)) ((hl k2 (List.getElem?_eq_some_iff.mp h3).1).2.2 h3), fun i b hi hb => ?_⟩
      rw [zM0_Q, if_neg (by omega)] at hb
      cases hb
/-! ClaimsFund.image -/
def zA1 (G : zG) (q : Nat) : Prop := zdom G q ∨ zsz G ≤ q
theorem zF_N {C : zC} {G : zG} {cc : ByteArray} {nL : Nat} {Ts : List Cond} {own : String} (h : zN C G cc nL Ts own) (hL : zLay G) (hA : zA C = zA1 G) : zF C G cc nL Ts own := ⟨h.1, h.2.1, hL, fun q k hk => by rw [hA]; exact Or.inl ⟨k, hk⟩, h.2.2.1⟩
theorem zF_x {C : zC} {G : zG} {cc : ByteArray} {nL : Nat} {Ts : List Cond} {own : String} {c : Nat} (h : zN C G cc nL Ts own) (hL : zLay (zGx2 G c)) (hA : zA C = zA1 G) : zF C (zGx2 G c) cc nL Ts own := ⟨h.1, h.2.1, hL, fun q k hk => by
  rw [hA]
  rcases zGx2_s hk with ⟨_, h2⟩ | ⟨i, k0, rfl, _, _⟩
  · exact Or.inl ⟨k, h2⟩
  · exact Or.inr (Nat.le_add_right _ _), h.2.2.1⟩
theorem zA1_b {G : zG} (hL : zLay G) : ∀ q, zA1 G q → zbs G ≤ q := fun q h => by
  rcases h with ⟨k, hk⟩ | h
  · exact Nat.le_trans (hL.1.2 q k hk).1 (hL.1.2 q k hk).2.1
  · exact Nat.le_trans hL.1.1 h
/-- the book behind image k: the old one, or a new one; memory and world with it -/
def zImP (G : zG) (m : zM) (f k : Nat) (b2 : Nat) (m1 : zM) (G1 : zG) : Prop := (zQ m 1501 f k = some b2 ∧ m1 = m ∧ G1 = G) ∨ (zQ m 1501 f k = none ∧ b2 = zsz G ∧ m1 = zsQ (zM0 m (zsz G)) 1501 f k (some (zsz G)) ∧ G1 = zGx2 G 0)
def zImQ (G : zG) (m : zM) (f : Nat) (x r : Int32) (m' : zM) (G1 : zG) : Prop := (¬ (∃ k, k < 3 ∧ x = nI k) ∧ r = 0 ∧ m' = m ∧ G1 = G) ∨ ∃ k b2 m1, k < 3 ∧ x = nI k ∧ zImP G m f k b2 m1 G1 ∧ r = 1 ∧ m' = zbCp m1 b2 (f + 1)
def rm_X5_image : Room := { frames := 4, cells := 123, slots := 1378, locals := 120 }
