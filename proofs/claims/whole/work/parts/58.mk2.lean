/-! layouts: an object of a class and all that its maker makes, by offsets -/
def zshf (d : Nat) (l : List (Nat × Nat)) : List (Nat × Nat) := l.map (fun k => (k.1, k.2 + d))
def zlo3 : List (Nat × Nat) := [(3, 0), (1306, 0), (1307, 0), (1308, 0), (1309, 0), (1310, 0)]
def zlo2 : List (Nat × Nat) := [(2, 0), (1201, 0), (1202, 0), (1203, 0), (1204, 0), (1205, 0), (1206, 0), (1207, 0)]
def zlo1 : List (Nat × Nat) := (1, 0) :: zshf 1 zlo3
def zlo0 : List (Nat × Nat) := ((0, 0) :: (1001, 0) :: zshf 2 zlo2) ++ (1006, 0) :: (List.range 16).flatMap (fun i => zshf (11 + 7 * i) zlo1)
def zlo5 : List (Nat × Nat) := (5, 0) :: (zshf 1 zlo0 ++ (1501, 0) :: zshf 125 zlo2)
def zlo6 : List (Nat × Nat) := (6, 0) :: (zsub 6).map (fun q => (q.2, 0))
def zlo (c : Nat) : List (Nat × Nat) := if c = 0 then zlo0 else if c = 1 then zlo1 else if c = 2 then zlo2 else if c = 3 then zlo3 else if c = 4 then [(4, 0)] else if c = 5 then zlo5 else zlo6
def zln (c : Nat) : Nat := if c = 0 then 123 else if c = 1 then 7 else if c = 2 then 8 else if c = 3 then 6 else if c = 4 then 1 else if c = 5 then 133 else 39
def zLy (c a q : Nat) : Option (Nat × Nat) := if a ≤ q then ((zlo c)[q - a]?).map (fun k => (k.1, a + k.2)) else none
/-- a layout's own laws, by counting -/
def zlk (l : List (Nat × Nat)) : Bool := (List.range l.length).all (fun i => let k := l.getD i (0, 0); decide (k.2 ≤ i ∧ (k.1 < 1000 → k.2 = i)) && (!decide (k.1 < 1000) || (zsub k.1).all (fun q => l[i + q.1]? == some (q.2, if q.2 < 1000 then i + q.1 else i))) && (List.range l.length).all (fun j => let k' := l.getD j (0, 0); i == j || !(k.2 == k'.2) || !(zkey k.1 == zkey k'.1)))
theorem zlk_0 : zlk zlo0 = true := by decide +kernel
theorem zlk_2 : zlk zlo2 = true := by decide +kernel
theorem zlk_5 : zlk zlo5 = true := by decide +kernel
theorem zlk_6 : zlk zlo6 = true := by decide +kernel
theorem zlk_4 : zlk [(4, 0)] = true := by decide +kernel
theorem zln_e : ∀ c, c < 7 → (zlo c).length = zln c := by decide +kernel
theorem zLy_o {c a i : Nat} : zLy c a (a + i) = ((zlo c)[i]?).map (fun k => (k.1, a + k.2)) := by
  unfold zLy
  rw [if_pos (Nat.le_add_right _ _), Nat.add_sub_cancel_left]
theorem zLy_s {c a q : Nat} {k : Nat × Nat} (h : zLy c a q = some k) : ∃ i k0, q = a + i ∧ (zlo c)[i]? = some k0 ∧ k = (k0.1, a + k0.2) := by
  unfold zLy at h
  split at h
  · rename_i h1
    obtain ⟨k0, h2, h3⟩ := Option.map_eq_some_iff.mp h
    exact ⟨q - a, k0, by omega, h2, h3.symm⟩
  · cases h
theorem zLy_lt {c a q : Nat} {k : Nat × Nat} (hc : c < 7) (h : zLy c a q = some k) : a ≤ q ∧ q < a + zln c := by
  obtain ⟨i, k0, rfl, h2, -⟩ := zLy_s h
  have := (List.getElem?_eq_some_iff.mp h2).1
  rw [zln_e c hc] at this
  omega
theorem zlk_1 {l : List (Nat × Nat)} (h : zlk l = true) {i : Nat} {k : Nat × Nat} (hk : l[i]? = some k) : k.2 ≤ i ∧ (k.1 < 1000 → k.2 = i) ∧ (k.1 < 1000 → ∀ q ∈ zsub k.1, l[i + q.1]? = some (q.2, if q.2 < 1000 then i + q.1 else i)) ∧ ∀ j k', l[j]? = some k' → k.2 = k'.2 → zkey k.1 = zkey k'.1 → i = j := by
  have hi := (List.getElem?_eq_some_iff.mp hk).1
  have e : l.getD i (0, 0) = k := by rw [List.getD_eq_getElem?_getD, hk]; rfl
  have h1 := List.all_eq_true.mp h i (List.mem_range.mpr hi)
  rw [e] at h1
  simp only [Bool.and_eq_true, decide_eq_true_eq, Bool.or_eq_true, Bool.not_eq_true'] at h1
  obtain ⟨⟨h2, h3⟩, h4⟩ := h1
  refine ⟨h2.1, h2.2, fun hlt q hq => ?_, fun j k' hj e1 e2 => ?_⟩
  · rcases h3 with h3 | h3
    · rw [decide_eq_false_iff_not] at h3
      exact absurd hlt h3
    · have := List.all_eq_true.mp h3 q hq
      exact eq_of_beq this
  · have hj2 := (List.getElem?_eq_some_iff.mp hj).1
    have e3 : l.getD j (0, 0) = k' := by rw [List.getD_eq_getElem?_getD, hj]; rfl
    have h5 := List.all_eq_true.mp h4 j (List.mem_range.mpr hj2)
    rw [e3, e1, e2] at h5
    simpa using h5
/-- the world with an object of class c more, at its end -/
def zGx2 (G : zG) (c : Nat) : zG := (G.1, G.2.1, (fun q => if zsz G ≤ q then zLy c (zsz G) q else zK G q), zsz G + zln c, G.2.2.2.2)
theorem zGx2_o {G : zG} {c q : Nat} (h : q < zsz G) : zK (zGx2 G c) q = zK G q := if_neg (by omega)
theorem zGx2_n {G : zG} {c q : Nat} (h : zsz G ≤ q) : zK (zGx2 G c) q = zLy c (zsz G) q := if_pos h
theorem zGx2_l {G : zG} {c : Nat} (hL : zLay G) (hc : c < 7) (h : zlk (zlo c) = true) : zLay (zGx2 G c) := by
  have hlt : ∀ q k, zK G q = some k → q < zsz G := fun q k hk => (hL.1.2 q k hk).2.2.1
  have hz : zsz (zGx2 G c) = zsz G + zln c := rfl
  have hb : zbs (zGx2 G c) = zbs G := rfl
  have hcase : ∀ q k, zK (zGx2 G c) q = some k → (q < zsz G ∧ zK G q = some k) ∨ (zsz G ≤ q ∧ zLy c (zsz G) q = some k) := fun q k hk => by
    by_cases hq : zsz G ≤ q
    · rw [zGx2_n hq] at hk
      exact Or.inr ⟨hq, hk⟩
    · rw [zGx2_o (by omega)] at hk
      exact Or.inl ⟨by omega, hk⟩
  refine ⟨⟨by rw [hz, hb]; have := hL.1.1; omega, fun a k hk => ?_⟩, fun a b k k' hk hk' e1 e2 => ?_, fun c' o ho q hq => ?_⟩
  · rw [hz, hb]
    rcases hcase a k hk with ⟨h1, h2⟩ | ⟨h1, h2⟩
    · have := hL.1.2 a k h2
      exact ⟨this.1, this.2.1, by omega, this.2.2.2⟩
    · obtain ⟨i, k0, rfl, h3, rfl⟩ := zLy_s h2
      have h4 := zlk_1 h h3
      have h5 := zLy_lt hc h2
      have := hL.1.1
      exact ⟨by show zbs G ≤ zsz G + k0.2; omega, by show zsz G + k0.2 ≤ _; have := h4.1; omega, h5.2, fun z => by show zsz G + k0.2 = _; have := h4.2.1 z; omega⟩
  · rcases hcase a k hk with ⟨h1, h2⟩ | ⟨h1, h2⟩ <;> rcases hcase b k' hk' with ⟨h3, h4⟩ | ⟨h3, h4⟩
    · exact hL.2.1 a b k k' h2 h4 e1 e2
    · obtain ⟨i, k0, rfl, h5, rfl⟩ := zLy_s h4
      have := hL.1.2 a k h2
      have h6 : k.2 = zsz G + k0.2 := e2
      omega
    · obtain ⟨i, k0, rfl, h5, rfl⟩ := zLy_s h2
      have := hL.1.2 b k' h4
      have h6 : zsz G + k0.2 = k'.2 := e2
      omega
    · obtain ⟨i, k0, rfl, h5, rfl⟩ := zLy_s h2
      obtain ⟨j, k1, rfl, h7, rfl⟩ := zLy_s h4
      have h6 : zsz G + k0.2 = zsz G + k1.2 := e2
      have h8 := (zlk_1 h h5).2.2.2 j k1 h7 (by omega) e1
      rw [h8]
  · rcases hcase o (c', o) ho with ⟨h1, h2⟩ | ⟨h1, h2⟩
    · have h3 := hL.2.2 c' o h2 q hq
      rw [zGx2_o (hlt _ _ h3)]
      exact h3
    · obtain ⟨i, k0, e0, h5, e1⟩ := zLy_s h2
      obtain ⟨k1, k2⟩ := k0
      cases e1
      have h9 : k2 = i := by omega
      subst h9
      have h6 := zlk_1 h h5
      by_cases hlt2 : k1 < 1000
      · have h7 := h6.2.2.1 hlt2 q hq
        rw [zGx2_n (by omega), show zsz G + k2 + q.1 = zsz G + (k2 + q.1) by omega, zLy_o, h7]
        show some (q.2, zsz G + (if q.2 < 1000 then k2 + q.1 else k2)) = some (q.2, zow q.2 (zsz G + k2) q.1)
        unfold zow
        split
        · rw [show zsz G + (k2 + q.1) = zsz G + k2 + q.1 by omega]
        · rfl
      · exfalso
        unfold zsub at hq
        rw [if_neg (by omega), if_neg (by omega), if_neg (by omega), if_neg (by omega), if_neg (by omega), if_neg (by omega), if_neg (by omega)] at hq
        cases hq
