/-! the reference: copies -/
/-- how many places a slot of row f has -/
def zww (f : Nat) : Nat := if f = 1601 then 400 else if f = 1609 then 160 else if f = 1610 ∨ f = 1611 ∨ f = 1612 ∨ f = 1619 ∨ f = 1623 ∨ f = 1624 then 16 else if f = 1613 ∨ f = 1614 ∨ f = 1615 ∨ f = 1616 ∨ f = 1617 ∨ f = 1620 ∨ f = 1621 ∨ f = 1622 then 64 else 1
def zmvr {α : Type} (g : Nat → α) (n s t : Nat) : Nat → α := fun j => if n * t ≤ j ∧ j < n * t + n then g (n * s + (j - n * t)) else g j
def zcpS (F FL : List Nat) (m : zM) (o s t : Nat) : zM := (fun f a => if f ∈ F ∧ a = o then zmvr (m.1 f a) (zww f) s t else m.1 f a, fun f a => if f ∈ FL ∧ a = o then zmvr (m.2.1 f a) (zww f) s t else m.2.1 f a, m.2.2)
theorem zI_cp (F FL : List Nat) (m : zM) (o s t f a : Nat) : zI (zcpS F FL m o s t) f a = if f ∈ F ∧ a = o then zmvr (zI m f a) (zww f) s t else zI m f a := rfl
theorem zJ_cp (F FL : List Nat) (m : zM) (o s t f a : Nat) : zJ (zcpS F FL m o s t) f a = if f ∈ FL ∧ a = o then zmvr (zJ m f a) (zww f) s t else zJ m f a := rfl
theorem zcpS_0 (m : zM) (o s t : Nat) : zcpS [] [] m o s t = m := by
  refine zM_ext (fun f a j => ?_) (fun f a j => ?_) (fun _ _ => rfl) (fun _ _ _ => rfl)
  · rw [zI_cp, if_neg (fun q => by cases q.1)]
  · rw [zJ_cp, if_neg (fun q => by cases q.1)]
theorem zcpS_I {F FL : List Nat} {m : zM} {o s t f : Nat} (h : f ∉ F) : zcI (zcpS F FL m o s t) f o (zmvr (zI (zcpS F FL m o s t) f o) (zww f) s t) = zcpS (f :: F) FL m o s t := by
  refine zM_ext (fun f' a j => ?_) (fun f' a j => rfl) (fun _ _ => rfl) (fun _ _ _ => rfl)
  rw [zI_cI, zI_cp, zI_cp, zI_cp]
  by_cases q : f' = f ∧ a = o
  · obtain ⟨rfl, rfl⟩ := q
    rw [if_pos ⟨rfl, rfl⟩, if_neg (fun z => h z.1), if_pos ⟨List.mem_cons_self, rfl⟩]
  · rw [if_neg q]
    by_cases q2 : f' ∈ F ∧ a = o
    · rw [if_pos q2, if_pos ⟨List.mem_cons_of_mem _ q2.1, q2.2⟩]
    · rw [if_neg q2, if_neg]
      rintro ⟨z1, z2⟩
      rcases List.mem_cons.1 z1 with z1 | z1
      · exact q ⟨z1, z2⟩
      · exact q2 ⟨z1, z2⟩
theorem zcpS_J {F FL : List Nat} {m : zM} {o s t f : Nat} (h : f ∉ FL) : zcJ (zcpS F FL m o s t) f o (zmvr (zJ (zcpS F FL m o s t) f o) (zww f) s t) = zcpS F (f :: FL) m o s t := by
  refine zM_ext (fun f' a j => rfl) (fun f' a j => ?_) (fun _ _ => rfl) (fun _ _ _ => rfl)
  rw [zJ_cJ, zJ_cp, zJ_cp, zJ_cp]
  by_cases q : f' = f ∧ a = o
  · obtain ⟨rfl, rfl⟩ := q
    rw [if_pos ⟨rfl, rfl⟩, if_neg (fun z => h z.1), if_pos ⟨List.mem_cons_self, rfl⟩]
  · rw [if_neg q]
    by_cases q2 : f' ∈ FL ∧ a = o
    · rw [if_pos q2, if_pos ⟨List.mem_cons_of_mem _ q2.1, q2.2⟩]
    · rw [if_neg q2, if_neg]
      rintro ⟨z1, z2⟩
      rcases List.mem_cons.1 z1 with z1 | z1
      · exact q ⟨z1, z2⟩
      · exact q2 ⟨z1, z2⟩
/-- the first k places of the slot -/
def zmvk {α : Type} (g : Nat → α) (n s t k : Nat) : Nat → α := fun j => if n * t ≤ j ∧ j < n * t + k then g (n * s + (j - n * t)) else g j
theorem zmvk_0 {α : Type} (g : Nat → α) (n s t : Nat) : zmvk g n s t 0 = g := by
  funext j
  unfold zmvk
  rw [if_neg (by omega)]
theorem zmvk_at {α : Type} {g : Nat → α} {n s t k : Nat} (hst : s ≠ t) (hk : k < n) : zmvk g n s t k (n * s + k) = g (n * s + k) := by
  unfold zmvk
  split
  · rename_i h
    exfalso
    rcases Nat.lt_or_ge s t with q | q
    · have := Nat.mul_le_mul_left n (show s + 1 ≤ t from q)
      rw [Nat.mul_add, Nat.mul_one] at this
      omega
    · have := Nat.mul_le_mul_left n (show t + 1 ≤ s by omega)
      rw [Nat.mul_add, Nat.mul_one] at this
      omega
  · rfl
theorem zmvk_I {g : Nat → Int32} {n s t k : Nat} (hst : s ≠ t) (hk : k < n) : zupI (zmvk g n s t k) (n * t + k) (zmvk g n s t k (n * s + k)) = zmvk g n s t (k + 1) := by
  rw [zmvk_at hst hk]
  funext j
  unfold zupI zmvk
  by_cases e : j = n * t + k
  · rw [if_pos e, if_pos (by omega), e, Nat.add_sub_cancel_left]
  · rw [if_neg e]
    by_cases q : n * t ≤ j ∧ j < n * t + k
    · rw [if_pos q, if_pos (by omega)]
    · rw [if_neg q, if_neg (by omega)]
theorem zmvk_J {g : Nat → Int64} {n s t k : Nat} (hst : s ≠ t) (hk : k < n) : zupJ (zmvk g n s t k) (n * t + k) (zmvk g n s t k (n * s + k)) = zmvk g n s t (k + 1) := by
  rw [zmvk_at hst hk]
  funext j
  unfold zupJ zmvk
  by_cases e : j = n * t + k
  · rw [if_pos e, if_pos (by omega), e, Nat.add_sub_cancel_left]
  · rw [if_neg e]
    by_cases q : n * t ≤ j ∧ j < n * t + k
    · rw [if_pos q, if_pos (by omega)]
    · rw [if_neg q, if_neg (by omega)]
def zst (x2 x3 : Int32) (s t : Nat) : Prop := s < 4 ∧ t < 4 ∧ s ≠ t ∧ x2 = nI s ∧ x3 = nI t
theorem z4n {n s k L : Nat} (hs : s < 4) (hk : k < n) (hL : n * 4 ≤ L) : n * s + k < L := by
  have := Nat.mul_le_mul_left n (show s + 1 ≤ 4 from hs)
  rw [Nat.mul_add, Nat.mul_one] at this
  omega
theorem z8_byte {x : Int32} (h : x.toInt8.toInt32 = x) : z8 x = x := by
  unfold z8
  exact h
def zFI : List Nat := [1624, 1623, 1622, 1621, 1620, 1619, 1618, 1616, 1613, 1609, 1608, 1607, 1606, 1604, 1603, 1602, 1601]
def zFJ : List Nat := [1617, 1615, 1614, 1612, 1611, 1610, 1605]
def zbyte (m : zM) (o : Nat) : Prop := ∀ j, (zI m 1601 o j).toInt8.toInt32 = zI m 1601 o j
section ZR8
variable {l : Launch} {G : zG}
theorem C_X6_move (hL : zLay G) : Con_X6_move l G (fun _ c0 _ x1 x2 x3 _ => ∃ n s t, zst x2 x3 s t ∧ x1 = nI n ∧ n < 1000 ∧ n * 4 ≤ zal c0 ∧ zal c0 < 10000) (fun _ c0 o0 x1 x2 x3 m m' => ∀ n s t, zst x2 x3 s t → x1 = nI n → n < 1000 → m' = zcI m c0 o0 (zmvr (zI m c0 o0) n s t)) := by
  refine con_X6_move hL fun C Qc S hl a0 c0 o0 x1 x2 x3 m ka0 kc0 ky0 kf0 hp hr => sg_X6_move_0 S ka0 kc0 ky0 kf0 ?_
  obtain ⟨n, s, t, ⟨hs, ht, hst, rfl, rfl⟩, rfl, hn, hL1, hL2⟩ := hp
  have hr2 : zRet C G Qc none (zcI m c0 o0 (zmvr (zI m c0 o0) n s t)) := by
    refine hr _ ?_
    rintro n' s' t' ⟨hs', ht', hst', e1, e2⟩ e3 hn'
    rw [nI_eq (by omega) (by omega)] at e1 e2 e3
    subst e1 e2 e3
    rfl
  have key : ∀ k, k ≤ n → Pt_X6_move_3 C G a0 (nI n) (nI s) (nI t) (nI k) o0 c0 (zcI m c0 o0 (zmvk (zI m c0 o0) n s t k)) := by
    refine z_loop n ?_ (fun k hk ih => ?_)
    · exact sg_X6_move_3 S ka0 kc0 ky0 kf0 ⟨fun _ => hr2, fun q => absurd (nI_le (Nat.le_refl n) (by omega)) q⟩
    · refine sg_X6_move_3 S ka0 kc0 ky0 kf0 ⟨fun q => absurd q (nI_ge hk (by omega)), fun _ => ?_⟩
      have b1 := z4n hs hk hL1
      have b2 := z4n ht hk hL1
      rw [pk_mul, pk_mul, nI_add, nI_add, nI_clamp (by omega), nI_clamp (by omega), ← nI_succ, zI_ce, zsI_cI, zmvk_I hst hk]
      exact ⟨vp_in_nI b1 (by omega), vp_in_nI b2 (by omega), ih⟩
  have k0 := key 0 (Nat.zero_le _)
  rw [zmvk_0, zcI_self] at k0
  exact k0
theorem C_X6_moveLong (hL : zLay G) : Con_X6_moveLong l G (fun _ c0 _ x1 x2 x3 _ => ∃ n s t, zst x2 x3 s t ∧ x1 = nI n ∧ n < 1000 ∧ n * 4 ≤ zal c0 ∧ zal c0 < 10000) (fun _ c0 o0 x1 x2 x3 m m' => ∀ n s t, zst x2 x3 s t → x1 = nI n → n < 1000 → m' = zcJ m c0 o0 (zmvr (zJ m c0 o0) n s t)) := by
  refine con_X6_moveLong hL fun C Qc S hl a0 c0 o0 x1 x2 x3 m ka0 kc0 ky0 kf0 hp hr => sg_X6_moveLong_0 S ka0 kc0 ky0 kf0 ?_
  obtain ⟨n, s, t, ⟨hs, ht, hst, rfl, rfl⟩, rfl, hn, hL1, hL2⟩ := hp
  have hr2 : zRet C G Qc none (zcJ m c0 o0 (zmvr (zJ m c0 o0) n s t)) := by
    refine hr _ ?_
    rintro n' s' t' ⟨hs', ht', hst', e1, e2⟩ e3 hn'
    rw [nI_eq (by omega) (by omega)] at e1 e2 e3
    subst e1 e2 e3
    rfl
  have key : ∀ k, k ≤ n → Pt_X6_moveLong_3 C G a0 (nI n) (nI s) (nI t) (nI k) o0 c0 (zcJ m c0 o0 (zmvk (zJ m c0 o0) n s t k)) := by
    refine z_loop n ?_ (fun k hk ih => ?_)
    · exact sg_X6_moveLong_3 S ka0 kc0 ky0 kf0 ⟨fun _ => hr2, fun q => absurd (nI_le (Nat.le_refl n) (by omega)) q⟩
    · refine sg_X6_moveLong_3 S ka0 kc0 ky0 kf0 ⟨fun q => absurd q (nI_ge hk (by omega)), fun _ => ?_⟩
      have b1 := z4n hs hk hL1
      have b2 := z4n ht hk hL1
      rw [pk_mul, pk_mul, nI_add, nI_add, nI_clamp (by omega), nI_clamp (by omega), ← nI_succ, zJ_ce, zsJ_cJ, zmvk_J hst hk]
      exact ⟨vp_in_nI b1 (by omega), vp_in_nI b2 (by omega), ih⟩
  have k0 := key 0 (Nat.zero_le _)
  rw [zmvk_0, zcJ_self] at k0
  exact k0
theorem zcpS_mI {x2 x3 : Int32} {F FL : List Nat} {m m' : zM} {o s t f : Nat} (hst : zst x2 x3 s t) {x1 : Int32} (hx : x1 = nI (zww f)) (hw : zww f < 1000) (hF : f ∉ F) (h : ∀ n s t, zst x2 x3 s t → x1 = nI n → n < 1000 → m' = zcI (zcpS F FL m o s t) f o (zmvr (zI (zcpS F FL m o s t) f o) n s t)) : m' = zcpS (f :: F) FL m o s t :=
  (h _ s t hst hx hw).trans (zcpS_I hF)
theorem zcpS_mI' (f : Nat) {x2 x3 : Int32} {F FL : List Nat} {m M m' : zM} {o s t : Nat} (hM : M = zcpS F FL m o s t) (hst : zst x2 x3 s t) {x1 : Int32} (hx : x1 = nI (zww f)) (hw : zww f < 1000) (hF : f ∉ F) (h : ∀ n s t, zst x2 x3 s t → x1 = nI n → n < 1000 → m' = zcI M f o (zmvr (zI M f o) n s t)) : m' = zcpS (f :: F) FL m o s t := by
  rw [h _ s t hst hx hw, hM]
  exact zcpS_I hF
theorem zcpS_mJ' (f : Nat) {x2 x3 : Int32} {F FL : List Nat} {m M m' : zM} {o s t : Nat} (hM : M = zcpS F FL m o s t) (hst : zst x2 x3 s t) {x1 : Int32} (hx : x1 = nI (zww f)) (hw : zww f < 1000) (hF : f ∉ FL) (h : ∀ n s t, zst x2 x3 s t → x1 = nI n → n < 1000 → m' = zcJ M f o (zmvr (zJ M f o) n s t)) : m' = zcpS F (f :: FL) m o s t := by
  rw [h _ s t hst hx hw, hM]
  exact zcpS_J hF
/-- one place by hand -/
theorem zcpS_s1 {F FL : List Nat} {m : zM} {o s t f : Nat} (hw : zww f = 1) (hF : f ∉ F) : zsI (zcpS F FL m o s t) f o t (zI (zcpS F FL m o s t) f o s) = zcpS (f :: F) FL m o s t := by
  rw [← zcpS_I hF, zsI_self]
  congr 1
  funext j
  unfold zupI zmvr
  rw [hw]
  by_cases e : j = t
  · rw [if_pos e, if_pos (by omega), e]
    congr 1
    omega
  · rw [if_neg e, if_neg (by omega)]
/-- one place once more -/
theorem zcpS_s2 {F FL : List Nat} {m : zM} {o s t f : Nat} (hst : s ≠ t) (hw : zww f = 1) (hF : f ∈ F) : zsI (zcpS F FL m o s t) f o t (zI (zcpS F FL m o s t) f o s) = zcpS F FL m o s t := by
  refine zM_ext (fun f' a j => ?_) (fun f' a j => rfl) (fun _ _ => rfl) (fun _ _ _ => rfl)
  rw [zI_sI]
  split
  · rename_i q
    obtain ⟨rfl, rfl, rfl⟩ := q
    rw [zI_cp, if_pos ⟨hF, rfl⟩]
    unfold zmvr
    rw [hw, if_neg (by omega), if_pos (by omega)]
    congr 1
    omega
  · rfl
theorem zst_P {x2 x3 : Int32} {s t : Nat} (h : zst x2 x3 s t) (f : Nat) {x1 : Int32} (hx : x1 = nI (zww f)) (hw : zww f < 1000) (h4 : zww f * 4 ≤ zal f) (hz : zal f < 10000) : ∃ n s t, zst x2 x3 s t ∧ x1 = nI n ∧ n < 1000 ∧ n * 4 ≤ zal f ∧ zal f < 10000 := ⟨_, s, t, h, hx, hw, h4, hz⟩
theorem C_X6_copyGrid (hL : zLay G) : Con_X6_copyGrid l G (fun _ x1 x2 _ => ∃ s t, zst x1 x2 s t) (fun o x1 x2 m m' => ∀ s t (F FL : List Nat) (m0 : zM), zst x1 x2 s t → m = zcpS F FL m0 o s t → 1618 ∈ F → (∀ f, 1619 ≤ f → f ≤ 1624 → f ∉ F) → m' = zcpS (1624 :: 1623 :: 1622 :: 1621 :: 1620 :: 1619 :: F) FL m0 o s t) := by
  refine con_X6_copyGrid hL fun C Qc S hl o x1 x2 m ko hp hr => ?_
  obtain ⟨s, t, hst⟩ := hp
  obtain ⟨hs, ht, hne, e1, e2⟩ := id hst
  have P := fun f x1 hx hw h4 hz => zst_P hst f (x1 := x1) hx hw h4 hz
  refine sg_X6_copyGrid_0 S (C_X6_move hL) ko ⟨by rw [e1]; exact vp_in_nI hs (by omega), by rw [e2]; exact vp_in_nI ht (by omega), P 1619 _ rfl (by decide) (by decide) (by decide), fun m4 h4 => ⟨P 1620 _ rfl (by decide) (by decide) (by decide), fun m6 h6 => ⟨P 1621 _ rfl (by decide) (by decide) (by decide), fun m8 h8 => ⟨P 1622 _ rfl (by decide) (by decide) (by decide), fun m10 h10 => ⟨P 1623 _ rfl (by decide) (by decide) (by decide), fun m12 h12 => ⟨P 1624 _ rfl (by decide) (by decide) (by decide), fun m14 h14 => hr _ ?_⟩⟩⟩⟩⟩⟩
  intro s' t' F FL m0 hst' hm hF hN
  obtain ⟨hs', ht', hne', e1', e2'⟩ := id hst'
  rw [e1, nI_eq (by omega) (by omega)] at e1'
  rw [e2, nI_eq (by omega) (by omega)] at e2'
  subst e1' e2'
  have hm0 : zsI m 1618 o x2.toNatClampNeg (zI m 1618 o x1.toNatClampNeg) = zcpS F FL m0 o s t := by
    rw [e1, e2, nI_clamp (by omega), nI_clamp (by omega), hm]
    exact zcpS_s2 hne rfl hF
  have a1 := zcpS_mI' 1619 hm0 hst (by rfl) (by decide) (hN _ (by omega) (by omega)) h4
  have nm : ∀ {f g : Nat} {L : List Nat}, f ≠ g → f ∉ L → f ∉ g :: L := fun h1 h2 h3 => (List.mem_cons.1 h3).elim h1 h2
  have a2 := zcpS_mI' 1620 a1 hst (by rfl) (by decide) (nm (by decide) (hN _ (by omega) (by omega))) h6
  have a3 := zcpS_mI' 1621 a2 hst (by rfl) (by decide) (nm (by decide) (nm (by decide) (hN _ (by omega) (by omega)))) h8
  have a4 := zcpS_mI' 1622 a3 hst (by rfl) (by decide) (nm (by decide) (nm (by decide) (nm (by decide) (hN _ (by omega) (by omega))))) h10
  have a5 := zcpS_mI' 1623 a4 hst (by rfl) (by decide) (nm (by decide) (nm (by decide) (nm (by decide) (nm (by decide) (hN _ (by omega) (by omega)))))) h12
  exact zcpS_mI' 1624 a5 hst (by rfl) (by decide) (nm (by decide) (nm (by decide) (nm (by decide) (nm (by decide) (nm (by decide) (hN _ (by omega) (by omega))))))) h14
theorem C_X6_copy (hL : zLay G) : Con_X6_copy l G (fun o x1 x2 m => (∃ s t, zst x1 x2 s t) ∧ zbyte m o ∧ ∀ j, zI m 1608 o j = 0 ∨ zI m 1608 o j = 1) (fun o x1 x2 m m' => ∀ s t, zst x1 x2 s t → m' = zcpS zFI zFJ m o s t) := by
  refine con_X6_copy hL fun C Qc S hl o x1 x2 m ko hp hr => sg_X6_copy_0 S ko ?_
  obtain ⟨⟨s, t, hst⟩, hby, hbo⟩ := hp
  obtain ⟨hs, ht, hne, e1, e2⟩ := id hst
  have hr2 : zRet C G Qc none (zcpS zFI zFJ m o s t) := by
    refine hr _ ?_
    intro s' t' hst'
    obtain ⟨hs', ht', hne', e1', e2'⟩ := id hst'
    rw [e1, nI_eq (by omega) (by omega)] at e1'
    rw [e2, nI_eq (by omega) (by omega)] at e2'
    subst e1' e2'
    rfl
  have P := fun f x1 hx hw h4 hz => zst_P hst f (x1 := x1) hx hw h4 hz
  have key : ∀ k, k ≤ 400 → Pt_X6_copy_2 C G o x1 x2 (nI k) (zcI m 1601 o (zmvk (zI m 1601 o) 400 s t k)) := by
    refine z_loop 400 ?_ (fun k hk ih => ?_)
    · have hm0 : zcI m 1601 o (zmvk (zI m 1601 o) 400 s t 400) = zcpS [1601] [] m o s t := by
        have := zcpS_I (F := []) (FL := []) (m := m) (o := o) (s := s) (t := t) (f := 1601) (fun h => by cases h)
        rw [zcpS_0] at this
        exact this
      rw [hm0]
      refine sg_X6_copy_2 S (C_X6_move hL) (C_X6_moveLong hL) (C_X6_copyGrid hL) ko ⟨fun _ => ⟨P 1602 _ rfl (by decide) (by decide) (by decide), fun m2 h2 => ?_⟩, fun q => absurd (by decide) q⟩
      have a2 := zcpS_mI' 1602 rfl hst (by rfl) (by decide) (by decide) h2
      refine ⟨P 1603 _ rfl (by decide) (by decide) (by decide), fun m3 h3 => ?_⟩
      have a3 := zcpS_mI' 1603 a2 hst (by rfl) (by decide) (by decide) h3
      refine ⟨P 1604 _ rfl (by decide) (by decide) (by decide), fun m4 h4 => ?_⟩
      have a4 := zcpS_mI' 1604 a3 hst (by rfl) (by decide) (by decide) h4
      refine ⟨P 1605 _ rfl (by decide) (by decide) (by decide), fun m5 h5 => ?_⟩
      have a5 := zcpS_mJ' 1605 a4 hst (by rfl) (by decide) (by decide) h5
      refine ⟨P 1606 _ rfl (by decide) (by decide) (by decide), fun m6 h6 => ?_⟩
      have a6 := zcpS_mI' 1606 a5 hst (by rfl) (by decide) (by decide) h6
      refine ⟨P 1607 _ rfl (by decide) (by decide) (by decide), fun m7 h7 => ?_⟩
      have a7 := zcpS_mI' 1607 a6 hst (by rfl) (by decide) (by decide) h7
      refine ⟨by rw [e1]; exact vp_in_nI hs (by omega), by rw [e2]; exact vp_in_nI ht (by omega), ?_, P 1609 _ rfl (by decide) (by decide) (by decide), fun m9 h9 => ?_⟩
      · rw [a7, zI_cp, if_neg (fun q => absurd q.1 (by decide))]
        exact hbo _
      have a8 : zsI m7 1608 o x2.toNatClampNeg (zI m7 1608 o x1.toNatClampNeg) = zcpS (1608 :: [1607, 1606, 1604, 1603, 1602, 1601]) [1605] m o s t := by
        rw [e1, e2, nI_clamp (by omega), nI_clamp (by omega), a7]
        exact zcpS_s1 rfl (by decide)
      have a9 := zcpS_mI' 1609 a8 hst (by rfl) (by decide) (by decide) h9
      refine ⟨P 1610 _ rfl (by decide) (by decide) (by decide), fun m10 h10 => ?_⟩
      have a10 := zcpS_mJ' 1610 a9 hst (by rfl) (by decide) (by decide) h10
      refine ⟨P 1611 _ rfl (by decide) (by decide) (by decide), fun m11 h11 => ?_⟩
      have a11 := zcpS_mJ' 1611 a10 hst (by rfl) (by decide) (by decide) h11
      refine ⟨P 1612 _ rfl (by decide) (by decide) (by decide), fun m12 h12 => ?_⟩
      have a12 := zcpS_mJ' 1612 a11 hst (by rfl) (by decide) (by decide) h12
      refine ⟨P 1613 _ rfl (by decide) (by decide) (by decide), fun m13 h13 => ?_⟩
      have a13 := zcpS_mI' 1613 a12 hst (by rfl) (by decide) (by decide) h13
      refine ⟨P 1614 _ rfl (by decide) (by decide) (by decide), fun m14 h14 => ?_⟩
      have a14 := zcpS_mJ' 1614 a13 hst (by rfl) (by decide) (by decide) h14
      refine ⟨P 1615 _ rfl (by decide) (by decide) (by decide), fun m15 h15 => ?_⟩
      have a15 := zcpS_mJ' 1615 a14 hst (by rfl) (by decide) (by decide) h15
      refine ⟨P 1616 _ rfl (by decide) (by decide) (by decide), fun m16 h16 => ?_⟩
      have a16 := zcpS_mI' 1616 a15 hst (by rfl) (by decide) (by decide) h16
      refine ⟨P 1617 _ rfl (by decide) (by decide) (by decide), fun m17 h17 => ?_⟩
      have a17 := zcpS_mJ' 1617 a16 hst (by rfl) (by decide) (by decide) h17
      refine ⟨P 1618 _ rfl (by decide) (by decide) (by decide), fun m18 h18 => ?_⟩
      have a18 := zcpS_mI' 1618 a17 hst (by rfl) (by decide) (by decide) h18
      refine ⟨⟨s, t, hst⟩, fun m19 h19 => ?_⟩
      have a19 := h19 s t _ _ m hst a18 (by decide) (by intro f h1 h2 q; simp only [List.mem_cons, List.not_mem_nil, or_false] at q; omega)
      rw [a19]
      exact hr2
    · refine sg_X6_copy_2 S (C_X6_move hL) (C_X6_moveLong hL) (C_X6_copyGrid hL) ko ⟨fun q => absurd q (zge 400 hk), fun _ => ?_⟩
      have b1 := z4n hs hk (show 400 * 4 ≤ 1600 by decide)
      have b2 := z4n ht hk (show 400 * 4 ≤ 1600 by decide)
      rw [e1, e2, show (400 : Int32) = nI 400 from rfl, pk_mul, pk_mul, nI_add, nI_add, nI_clamp (by omega), nI_clamp (by omega), ← nI_succ, zI_ce, z8_byte (by unfold zmvk; split <;> exact hby _), zsI_cI, zmvk_I hne hk]
      refine ⟨vp_in_nI b1 (by omega), vp_in_nI b2 (by omega), ?_⟩
      rw [← e1, ← e2]
      exact ih
  have k0 := key 0 (Nat.zero_le _)
  rw [zmvk_0, zcI_self] at k0
  exact k0
def zk3 (x : Int32) : Prop := 0 ≤ x ∧ x ≤ 2
theorem C_X6_image (hL : zLay G) : Con_X6_image l G (fun o _ m => zbyte m o ∧ ∀ j, zI m 1608 o j = 0 ∨ zI m 1608 o j = 1) (fun o x m r m' => (∃ k, k < 3 ∧ x = nI k ∧ r = 1 ∧ m' = zsI (zcpS zFI zFJ (zc0 m o) o 0 (k + 1)) 1649 o k 1) ∨ (¬ zk3 x ∧ r = 0 ∧ m' = zc0 m o)) := by
  refine con_X6_image hL fun C Qc S hl o x m ko hp hr => sg_X6_image_0 S (C_X6_in hL) (C_X6_copy hL) ko ⟨trivial, fun r h => ⟨fun q => ?_, fun q => hr _ _ (Or.inr ⟨zB_f h q, rfl, rfl⟩)⟩⟩
  obtain ⟨k, hk, rfl⟩ := z_in2 2 rfl (by omega) (zB_t h q)
  have hst : zst 0 (nI k + 1) 0 (k + 1) := ⟨by omega, by omega, by omega, rfl, (nI_succ k).symm⟩
  refine ⟨⟨⟨0, k + 1, hst⟩, hp.1, hp.2⟩, fun m4 h4 => ⟨vp_in_nI (by omega) (by omega), hr _ _ (Or.inl ⟨k, by omega, rfl, rfl, ?_⟩)⟩⟩
  rw [h4 0 (k + 1) hst, nI_clamp (by omega)]
  rfl
theorem C_X6_again (hL : zLay G) : Con_X6_again l G (fun o _ m => zbyte m o ∧ ∀ j, zI m 1608 o j = 0 ∨ zI m 1608 o j = 1) (fun o x m r m' => (∃ k, k < 3 ∧ x = nI k ∧ zIt r m' (¬ zI m 1649 o k = 0) 1 (zcpS zFI zFJ (zc0 m o) o (k + 1) 0) 0 (zc0 m o)) ∨ (¬ zk3 x ∧ r = 0 ∧ m' = zc0 m o)) := by
  refine con_X6_again hL fun C Qc S hl o x m ko hp hr => sg_X6_again_0 S (C_X6_in hL) (C_X6_copy hL) ko ⟨trivial, fun r h => ⟨fun q => hr _ _ (Or.inr ⟨zB_f h q, rfl, rfl⟩), fun q => ?_⟩⟩
  obtain ⟨k, hk, rfl⟩ := z_in2 2 rfl (by omega) (zB_t h q)
  have hst : zst (nI k + 1) 0 (k + 1) 0 := ⟨by omega, by omega, by omega, (nI_succ k).symm, rfl⟩
  rw [nI_clamp (by omega)]
  refine ⟨vp_in_nI (by omega) (by omega), fun q0 => ⟨⟨⟨k + 1, 0, hst⟩, hp.1, hp.2⟩, fun m4 h4 => hr _ _ (Or.inl ⟨k, by omega, rfl, ?_⟩)⟩, fun q0 => hr _ _ (Or.inl ⟨k, by omega, rfl, zIt_n (fun z => z q0)⟩)⟩
  rw [h4 (k + 1) 0 hst]
  exact zIt_y q0
end ZR8
