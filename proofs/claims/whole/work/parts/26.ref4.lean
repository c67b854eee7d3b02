/-! the reference: what a book is asked and told -/
def zIt {ρ : Type} (r : ρ) (m' : zM) (P : Prop) (r1 : ρ) (m1 : zM) (r0 : ρ) (m0 : zM) : Prop := (P ∧ r = r1 ∧ m' = m1) ∨ (¬ P ∧ r = r0 ∧ m' = m0)
theorem zIt_y {ρ : Type} {P : Prop} {r1 r0 : ρ} {m1 m0 : zM} (h : P) : zIt r1 m1 P r1 m1 r0 m0 := Or.inl ⟨h, rfl, rfl⟩
theorem zIt_n {ρ : Type} {P : Prop} {r1 r0 : ρ} {m1 m0 : zM} (h : ¬ P) : zIt r0 m0 P r1 m1 r0 m0 := Or.inr ⟨h, rfl, rfl⟩
/-- a table of n values, d elsewhere -/
def zsw {α : Type} (n : Nat) (f : Nat → α) (d : α) (x : Int32) : α := if x.toInt < 0 ∨ (n : Int) ≤ x.toInt then d else f x.toNatClampNeg
theorem zsw_o {α : Type} {n : Nat} {f : Nat → α} {d : α} {x : Int32} (h : x.toInt < 0 ∨ (n : Int) ≤ x.toInt) : zsw n f d x = d := if_pos h
theorem zsw_k {α : Type} {n : Nat} {f : Nat → α} {d : α} (k : Nat) (hk : k < n) (hn : n < 2 ^ 31) {x : Int32} (hx : x = nI k) : zsw n f d x = f k := by
  subst hx
  unfold zsw
  rw [nI_toInt (by omega), nI_clamp (by omega), if_neg (by omega)]
theorem zsw_ext {α : Type} {n : Nat} {f g : Nat → α} {d : α} {x : Int32} (h : ∀ k, k < n → f k = g k) : zsw n f d x = zsw n g d x := by
  unfold zsw
  split
  · rfl
  · rename_i q
    refine h _ ?_
    unfold Int32.toNatClampNeg
    omega
def zc0 (m : zM) (o : Nat) : zM := zsI m 600 o 0 0
/-- one byte goes on the reference's tape -/
def zRby (m : zM) (o : Nat) (v : Int32) : zM := zsI (zsI m 1601 o (zI m 1602 o 0).toNatClampNeg v) 1602 o 0 (zI m 1602 o 0 + 1)
def zRfo (m : zM) (o : Nat) (x : Int32) : zM := zRby (zRby (zRby (zRby m o (z8 (z8 (x >>> (24 &&& 31))))) o (z8 (z8 (x >>> (16 &&& 31))))) o (z8 (z8 (x >>> (8 &&& 31))))) o (z8 (z8 (x >>> (0 &&& 31))))
theorem zRby_z {m : zM} {o k : Nat} {v : Int32} (h : zI m 1602 o 0 = nI k) : zI (zRby m o v) 1602 o 0 = nI (k + 1) := by
  unfold zRby
  rw [zI_e, h, nI_1]
theorem zRfo_z {m : zM} {o k : Nat} {x : Int32} (h : zI m 1602 o 0 = nI k) : zI (zRfo m o x) 1602 o 0 = nI (k + 4) := zRby_z (zRby_z (zRby_z (zRby_z h)))
/-- the rows of a new claim in the reference -/
def zRnew (m : zM) (o n : Nat) (x1 x2 x3 x4 x5 : Int32) : zM :=
  zsI (zsJ (zsJ (zsJ (zsI (zsI (zsI (zsI (zsI (zsI (zsI (zsI (zsI (zsI m 1609 o (10 * n) x1) 1609 o (10 * n + 1) x2) 1609 o (10 * n + 2) x3) 1609 o (10 * n + 3) x4) 1609 o (10 * n + 4) x5) 1609 o (10 * n + 5) 0) 1609 o (10 * n + 6) 0) 1609 o (10 * n + 7) 0) 1609 o (10 * n + 8) 0) 1609 o (10 * n + 9) 0) 1610 o n 0) 1611 o n 0) 1612 o n 0) 1606 o 0 (nI n + 1)
def zRcb (x0 x1 x2 x3 : Int32) : Prop := (0 ≤ x0 ∧ x0 ≤ 3) ∧ (0 ≤ x1 ∧ x1 ≤ 60) ∧ (0 ≤ x2 ∧ x2 ≤ 999) ∧ (0 ≤ x3 ∧ x3 ≤ 63)
/-- claim c of state st -/
def zRis (m : zM) (o : Nat) (x st : Int32) (c : Nat) : Prop := c < (zI m 1606 o 0).toNatClampNeg ∧ x = nI c ∧ zI m 1609 o (10 * c + 5) = st
theorem z10 (c k : Nat) (q : Int32) (hq : q = nI k) : 10 * nI c + q = nI (10 * c + k) := by
  subst hq
  rw [show (10 : Int32) = nI 10 from rfl, pk_mul, nI_add]
theorem z4 (c k : Nat) : 4 * nI c + nI k = nI (4 * c + k) := by rw [show (4 : Int32) = nI 4 from rfl, pk_mul, nI_add]
theorem zbit_N : ∀ a, a < 64 → ∀ k, k < 6 → ∃ b, b < 64 ∧ nI a ||| ((1 : Int32) <<< (nI k &&& 31)) = nI b := by decide +kernel
theorem z_in2 {x : Int32} (k : Nat) {c : Int32} (hc : c = nI k) (hk : k < 2 ^ 31) (h : 0 ≤ x ∧ x ≤ c) : ∃ i, i ≤ k ∧ x = nI i := by
  obtain ⟨j, hj, rfl⟩ := nI_of (by rw [Int32.not_lt]; exact h.1)
  have h2 := h.2
  rw [hc, nI_leI hj hk] at h2
  exact ⟨j, h2, rfl⟩
section ZR4
variable {l : Launch} {G : zG}
theorem C_X6_fund (hL : zLay G) : Con_X6_fund l G (fun o _ m => zRN m o) (fun o x m r m' => zIt r m' (¬ x < 1 ∧ ¬ 1000000000000 < x ∧ zI m 1608 o 0 = 0 ∧ zsum (zJ m 1610 o) (zI m 1606 o 0).toNatClampNeg ≤ 0) 1 (zsJ (zc0 m o) 1605 o 0 x) 0 (zc0 m o)) :=
  con_X6_fund hL fun C Qc S hl o x m ko hp hr => sg_X6_fund_0 S (C_X6_paidAll hL) ko ⟨fun h => hr _ _ (zIt_n fun q => q.1 h), fun h1 => ⟨fun h => hr _ _ (zIt_n fun q => q.2.1 h), fun h2 => ⟨fun h => hr _ _ (zIt_n fun q => h q.2.2.1), fun h3 => ⟨hp, fun r e => ⟨fun h => hr _ _ (zIt_y ⟨h1, h2, h3, by rw [e] at h; exact h⟩), fun h => hr _ _ (zIt_n fun q => h (by rw [e]; exact q.2.2.2))⟩⟩⟩⟩⟩
theorem C_X6_four (hL : zLay G) : Con_X6_four l G (fun o _ m => ∃ k, k ≤ 396 ∧ zI m 1602 o 0 = nI k) (fun o x m m' => m' = zRfo m o x) := by
  refine con_X6_four hL fun C Qc S hl o x m ko hp hr => sg_X6_four_0 S ko ?_
  obtain ⟨k, hk, hk2⟩ := hp
  refine sg_X6_four_3 S ko ⟨fun q => absurd q (by decide), fun _ => ⟨by rw [hk2]; exact vp_in_nI (by omega) (by omega), ?_⟩⟩
  show Pt_X6_four_3 C G o x 16 (zRby m o (z8 (z8 (x >>> (24 &&& 31)))))
  have e1 := zRby_z (v := z8 (z8 (x >>> (24 &&& 31)))) hk2
  refine sg_X6_four_3 S ko ⟨fun q => absurd q (by decide), fun _ => ⟨by rw [e1]; exact vp_in_nI (by omega) (by omega), ?_⟩⟩
  show Pt_X6_four_3 C G o x 8 (zRby (zRby m o (z8 (z8 (x >>> (24 &&& 31))))) o (z8 (z8 (x >>> (16 &&& 31)))))
  have e2 := zRby_z (v := z8 (z8 (x >>> (16 &&& 31)))) e1
  refine sg_X6_four_3 S ko ⟨fun q => absurd q (by decide), fun _ => ⟨by rw [e2]; exact vp_in_nI (by omega) (by omega), ?_⟩⟩
  show Pt_X6_four_3 C G o x 0 (zRby (zRby (zRby m o (z8 (z8 (x >>> (24 &&& 31))))) o (z8 (z8 (x >>> (16 &&& 31))))) o (z8 (z8 (x >>> (8 &&& 31)))))
  have e3 := zRby_z (v := z8 (z8 (x >>> (8 &&& 31)))) e2
  refine sg_X6_four_3 S ko ⟨fun q => absurd q (by decide), fun _ => ⟨by rw [e3]; exact vp_in_nI (by omega) (by omega), ?_⟩⟩
  show Pt_X6_four_3 C G o x (-8) (zRfo m o x)
  exact sg_X6_four_3 S ko ⟨fun _ => hr _ rfl, fun q => absurd (by decide) q⟩
theorem C_X6_feed (hL : zLay G) : Con_X6_feed l G (fun o _ _ _ _ _ m => ∃ k, k ≤ 400 ∧ zI m 1602 o 0 = nI k) (fun o a b c d e m r m' => ∀ k, k ≤ 400 → zI m 1602 o 0 = nI k → zIt r m' (k ≤ 380) (nI (k + 20)) (zRfo (zRfo (zRfo (zRfo (zRfo (zc0 m o) o a) o b) o c) o d) o e) (-1) (zc0 m o)) := by
  refine con_X6_feed hL fun C Qc S hl o a b c d e m ko hp hr => ?_
  obtain ⟨k, hk, hk2⟩ := hp
  have hr2 : ∀ r m', zIt r m' (k ≤ 380) (nI (k + 20)) (zRfo (zRfo (zRfo (zRfo (zRfo (zc0 m o) o a) o b) o c) o d) o e) (-1) (zc0 m o) → zRet C G Qc (some (.int r)) m' := by
    intro r m' h
    refine hr r m' (fun k' hk' e => ?_)
    rw [hk2, nI_eq (by omega) (by omega)] at e
    subst e
    exact h
  refine sg_X6_feed_0 S (C_X6_four hL) ko ⟨fun q => ?_, fun q => hr2 _ _ (zIt_n fun z => q ?_)⟩
  · rw [hk2, show (20 : Int32) = nI 20 from rfl, nI_add, show (400 : Int32) = nI 400 from rfl, nI_leI (by omega) (by omega)] at q
    have h0 : zI (zc0 m o) 1602 o 0 = nI k := (zI_n (by decide)).trans hk2
    refine ⟨⟨k, by omega, h0⟩, fun m2 h2 => ?_⟩
    subst h2
    have h1 := zRfo_z (x := a) h0
    refine ⟨⟨_, by omega, h1⟩, fun m2 h2 => ?_⟩
    subst h2
    have h2 := zRfo_z (x := b) h1
    refine ⟨⟨_, by omega, h2⟩, fun m2 h3 => ?_⟩
    subst h3
    have h3 := zRfo_z (x := c) h2
    refine ⟨⟨_, by omega, h3⟩, fun m2 h4 => ?_⟩
    subst h4
    have h4 := zRfo_z (x := d) h3
    refine ⟨⟨_, by omega, h4⟩, fun m2 h5 => ?_⟩
    subst h5
    have h5 := zRfo_z (x := e) h4
    refine hr2 _ _ ?_
    show zIt (zI (zRfo (zRfo (zRfo (zRfo (zRfo (zc0 m o) o a) o b) o c) o d) o e) 1602 o 0) _ _ _ _ _ _
    rw [h5]
    exact zIt_y (by omega)
  · rw [hk2, show (20 : Int32) = nI 20 from rfl, nI_add, show (400 : Int32) = nI 400 from rfl, nI_leI (by omega) (by omega)]
    omega
theorem C_X6_end (hL : zLay G) : Con_X6_end l G (fun _ _ _ => True) (fun o x m r m' => zIt r m' (0 ≤ x ∧ x ≤ zI m 1602 o 0) x (zsI (zc0 m o) 1602 o 0 x) (-1) (zc0 m o)) :=
  con_X6_end hL fun C Qc S hl o x m ko hp hr => sg_X6_end_0 S (C_X6_in hL) ko ⟨trivial, fun r h => ⟨fun q => hr _ _ (zIt_y (zB_t h q)), fun q => hr _ _ (zIt_n (zB_f h q))⟩⟩
theorem C_X6_fault (hL : zLay G) : Con_X6_fault l G (fun _ _ _ => True) (fun o x m r m' => m' = zc0 m o ∧ r = if x = 0 then zI m 1603 o 0 else if x = 1 then zI m 1604 o 0 else -1) :=
  con_X6_fault hL fun C Qc S hl o x m ko hp hr => sg_X6_fault_0 S ko ⟨fun n0 => ⟨fun n1 => hr _ _ ⟨rfl, by rw [if_neg n0, if_neg n1]⟩, fun e1 => hr _ _ ⟨rfl, by rw [if_neg n0, if_pos e1]⟩⟩, fun e0 => hr _ _ ⟨rfl, by rw [if_pos e0]⟩⟩
theorem C_X6_points (hL : zLay G) : Con_X6_points l G (fun o _ _ _ _ m => zRG m o) (fun o k y la p m r m' => m' = zc0 m o ∧ ((zRcb k y la p ∧ r = zrp m o k y la p) ∨ (¬ zRcb k y la p ∧ r = -1))) :=
  con_X6_points hL fun C Qc S hl o k y la p m ko hp hr => sg_X6_points_0 S (C_X6_canBe hL) (C_X6_pointsOf hL) ko ⟨trivial, fun r h => ⟨fun q => hr _ _ ⟨rfl, Or.inr ⟨zB_f h q, rfl⟩⟩, fun q => ⟨⟨hp, by
    obtain ⟨j, hj, e⟩ := z_in2 63 rfl (by omega) (zB_t h q).2.2.2
    exact ⟨j, by omega, e⟩⟩, fun r2 h2 => hr _ _ ⟨rfl, Or.inl ⟨zB_t h q, h2⟩⟩⟩⟩⟩
theorem C_X6_sumOf (hL : zLay G) : Con_X6_sumOf l G (fun o x1 _ m => ∃ c, c < 16 ∧ x1 = nI c ∧ (∃ L, L ≤ 4 ∧ zI m 1609 o (10 * c + 8) = nI L) ∧ ∃ H, H ≤ 4 ∧ zI m 1609 o (10 * c + 9) = nI H) (fun o x1 x2 m r => ∀ c, c < 16 → x1 = nI c → r = if x2 = 3 then zsum (zsh (zJ m 1615 o) c) (zI m 1609 o (10 * c + 8)).toNatClampNeg else zsum (zsh (zJ m 1617 o) c) (zI m 1609 o (10 * c + 9)).toNatClampNeg) := by
  refine con_X6_sumOf hL fun C Qc S hl o x1 x2 m ko hp hr => sg_X6_sumOf_0 S ko ?_
  obtain ⟨c, hc, rfl, ⟨L, hLn, hL2⟩, H, hH, hH2⟩ := hp
  have hr2 : ∀ r, (r = if x2 = 3 then zsum (zsh (zJ m 1615 o) c) L else zsum (zsh (zJ m 1617 o) c) H) → zRet C G Qc (some (.long r)) m := by
    intro r h
    refine hr r (fun c' hc' e => ?_)
    rw [nI_eq (by omega) (by omega)] at e
    subst e
    rw [hL2, hH2, nI_clamp (by omega), nI_clamp (by omega)]
    exact h
  by_cases e3 : x2 = 3
  · rw [if_pos e3] at hr2
    refine z_loop (P := fun i => Pt_X6_sumOf_5 C G o (nI c) x2 (zsum (zsh (zJ m 1615 o) c) i) (nI i) m) L ?_ (fun i hi ih => ?_) 0 (Nat.zero_le _)
    · refine sg_X6_sumOf_5 S (C_X6_of hL) ko ⟨fun q => absurd e3 q, fun _ => ⟨⟨c, 8, hc, by decide, rfl, rfl⟩, fun r h => ?_⟩⟩
      have e8 : r = nI L := (h c 8 hc (by decide) rfl rfl).trans hL2
      exact sg_X6_sumOf_29 S ko ⟨fun _ => hr2 _ rfl, fun q => absurd (by rw [e8]; exact nI_le (Nat.le_refl _) (by omega)) q⟩
    · refine sg_X6_sumOf_5 S (C_X6_of hL) ko ⟨fun q => absurd e3 q, fun _ => ⟨⟨c, 8, hc, by decide, rfl, rfl⟩, fun r h => ?_⟩⟩
      have e8 : r = nI L := (h c 8 hc (by decide) rfl rfl).trans hL2
      refine sg_X6_sumOf_29 S ko ⟨fun q => absurd q (by rw [e8]; exact nI_ge hi (by omega)), fun _ => ⟨fun q => absurd e3 q, fun _ => ?_⟩⟩
      rw [z4, nI_clamp (by omega), ← nI_succ]
      exact ⟨vp_in_nI (by omega) (by omega), ih⟩
  · rw [if_neg e3] at hr2
    refine z_loop (P := fun i => Pt_X6_sumOf_5 C G o (nI c) x2 (zsum (zsh (zJ m 1617 o) c) i) (nI i) m) H ?_ (fun i hi ih => ?_) 0 (Nat.zero_le _)
    · refine sg_X6_sumOf_5 S (C_X6_of hL) ko ⟨fun _ => ⟨⟨c, 9, hc, by decide, rfl, rfl⟩, fun r h => ?_⟩, fun q => absurd q e3⟩
      have e8 : r = nI H := (h c 9 hc (by decide) rfl rfl).trans hH2
      exact sg_X6_sumOf_29 S ko ⟨fun _ => hr2 _ rfl, fun q => absurd (by rw [e8]; exact nI_le (Nat.le_refl _) (by omega)) q⟩
    · refine sg_X6_sumOf_5 S (C_X6_of hL) ko ⟨fun _ => ⟨⟨c, 9, hc, by decide, rfl, rfl⟩, fun r h => ?_⟩, fun q => absurd q e3⟩
      have e8 : r = nI H := (h c 9 hc (by decide) rfl rfl).trans hH2
      refine sg_X6_sumOf_29 S ko ⟨fun q => absurd q (by rw [e8]; exact nI_ge hi (by omega)), fun _ => ⟨fun _ => ?_, fun q => absurd q e3⟩⟩
      rw [z4, nI_clamp (by omega), ← nI_succ]
      exact ⟨vp_in_nI (by omega) (by omega), ih⟩
theorem C_X6_fee (hL : zLay G) : Con_X6_fee l G (fun o _ _ m => zRN m o) (fun o x1 x2 m r m' => (∀ c, c < (zI m 1606 o 0).toNatClampNeg → x1 = nI c → zIt r m' ((0 ≤ x2 ∧ x2 ≤ 40) ∧ zI m 1608 o 0 = 0) 1 (zsI (zc0 m o) 1609 o (10 * c + 7) x2) 0 (zc0 m o)) ∧ (¬ zIsC x1 (zI m 1606 o 0) → r = 0 ∧ m' = zc0 m o)) := by
  refine con_X6_fee hL fun C Qc S hl o x1 x2 m ko hp hr => sg_X6_fee_0 S (C_X6_isClaim hL) (C_X6_in hL) ko ⟨hp, fun r h => ⟨fun q => hr _ _ ⟨fun c hc e => absurd ⟨c, hc, e⟩ (zB_f h q), fun _ => ⟨rfl, rfl⟩⟩, fun q => ⟨trivial, fun r2 h2 => ⟨fun q2 => hr _ _ ⟨fun c hc e => zIt_n fun z => zB_f h2 q2 z.1, fun z => absurd (zB_t h q) z⟩, fun q2 => ⟨fun q3 => ?_, fun q3 => hr _ _ ⟨fun c hc e => zIt_n fun z => q3 z.2, fun z => absurd (zB_t h q) z⟩⟩⟩⟩⟩⟩
  obtain ⟨n, hn, hn2⟩ := hp
  obtain ⟨c, hc, rfl⟩ := zB_t h q
  have hc2 : c < 16 := by
    have : c < n := by have h9 : c < (zI m 1606 o 0).toNatClampNeg := hc; rw [hn2, nI_clamp (by omega)] at h9; exact h9
    omega
  rw [z10 c 7 7 rfl, nI_clamp (by omega)]
  refine ⟨vp_in_nI (by omega) (by omega), hr _ _ ⟨fun c' hc' e => ?_, fun z => absurd (zB_t h q) z⟩⟩
  have hc3 : c' < 16 := by rw [hn2, nI_clamp (by omega)] at hc'; omega
  rw [nI_eq (by omega) (by omega)] at e
  subst e
  exact zIt_y ⟨zB_t h2 q2, q3⟩
end ZR4
