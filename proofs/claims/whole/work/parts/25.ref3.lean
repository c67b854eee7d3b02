/-! the reference: pay -/
def zsh {α : Type} (g : Nat → α) (c : Nat) : Nat → α := fun k => g (4 * c + k)
def zpat (g : Nat → Int64) (c : Nat) (h : Nat → Int64) : Nat → Int64 := fun j => if 4 * c ≤ j ∧ j < 4 * c + 4 then h (j - 4 * c) else g j
theorem zpat_at {g h : Nat → Int64} {c k : Nat} (hk : k < 4) : zpat g c h (4 * c + k) = h k := by
  unfold zpat
  rw [if_pos (by omega), Nat.add_sub_cancel_left]
theorem zpat_self (g : Nat → Int64) (c : Nat) : zpat g c (zsh g c) = g := by
  funext j
  unfold zpat zsh
  split
  · congr 1
    omega
  · rfl
theorem zpat_up {g h : Nat → Int64} {c k : Nat} (hk : k < 4) (v : Int64) : zupJ (zpat g c h) (4 * c + k) v = zpat g c (zupJ h k v) := by
  funext j
  show (if j = 4 * c + k then v else if 4 * c ≤ j ∧ j < 4 * c + 4 then h (j - 4 * c) else g j) = (if 4 * c ≤ j ∧ j < 4 * c + 4 then (if j - 4 * c = k then v else h (j - 4 * c)) else g j)
  by_cases e : j = 4 * c + k
  · rw [if_pos e, if_pos (by omega), if_pos (by omega)]
  · rw [if_neg e]
    split
    · rw [if_neg (by omega)]
    · rfl
theorem zsumI_N {f : Nat → Int32} : ∀ {n : Nat}, (∀ k, k < n → ∃ q, 1 ≤ q ∧ q ≤ 9 ∧ f k = nI q) → ∃ S, n ≤ S ∧ S ≤ 9 * n ∧ zsumI f n = nI S
  | 0, _ => ⟨0, by omega, by omega, rfl⟩
  | n + 1, h => by
    obtain ⟨S, h1, h2, h3⟩ := zsumI_N (n := n) (fun k hk => h k (by omega))
    obtain ⟨q, h4, h5, h6⟩ := h n (by omega)
    refine ⟨S + q, by omega, by omega, ?_⟩
    rw [zsumI, h3, h6, nI_add]
/-- claim c can be paid -/
def zRPy (m : zM) (o c : Nat) : Prop := (∃ L, L ≤ 4 ∧ zI m 1609 o (10 * c + 8) = nI L) ∧ ∃ H, H ≤ 4 ∧ zI m 1609 o (10 * c + 9) = nI H ∧ ∀ k, k < H → ∃ q, 1 ≤ q ∧ q ≤ 9 ∧ zI m 1616 o (4 * c + k) = nI q
def zRpl (m : zM) (o c : Nat) (coins : Int64) : Int64 × (Nat → Int64) := zpl (zsh (zI m 1613 o) c) (zsh (zJ m 1614 o) c) (zI m 1609 o (10 * c + 8)).toNatClampNeg 10 (coins, zsh (zJ m 1615 o) c)
def zRps (m : zM) (o c : Nat) : Int32 := zsumI (zsh (zI m 1616 o) c) (zI m 1609 o (10 * c + 9)).toNatClampNeg
def zRph (m : zM) (o c : Nat) (coins : Int64) : Int64 × (Nat → Int64) := zph (zsh (zI m 1616 o) c) coins (zRps m o c).toInt64 (zI m 1609 o (10 * c + 9)).toNatClampNeg (coins, zsh (zJ m 1617 o) c)
def zRpH (m : zM) (o c : Nat) (coins : Int64) : zM :=
  if zRps m o c = 0 then zsJ m 1612 o c (zJ m 1612 o c + coins)
  else zcJ m 1617 o (zpat (zJ m 1617 o) c (zupJ (zRph m o c coins).2 0 ((zRph m o c coins).2 0 + (zRph m o c coins).1)))
def zRpA (m : zM) (o c : Nat) (coins : Int64) : zM :=
  zRpH (zcJ (zsJ (zsJ m 1610 o c (zJ m 1610 o c + coins)) 1611 o c (zJ m 1611 o c + coins * (zI m 1609 o (10 * c + 7)).toInt64 / 100)) 1615 o (zpat (zJ m 1615 o) c (zRpl m o c (coins - coins * (zI m 1609 o (10 * c + 7)).toInt64 / 100)).2)) o c (zRpl m o c (coins - coins * (zI m 1609 o (10 * c + 7)).toInt64 / 100)).1
def zRpy (m : zM) (o c : Nat) (coins : Int64) : zM := if 0 < coins then zRpA m o c coins else m
section ZR3
variable {l : Launch} {G : zG}
theorem C_X6_pay (hL : zLay G) : Con_X6_pay l G (fun o x1 _ m => ∃ c, c < 16 ∧ x1 = nI c ∧ zRPy m o c) (fun o x1 coins m m' => ∀ c, c < 16 → x1 = nI c → m' = zRpy m o c coins) := by
  refine con_X6_pay hL fun C Qc S hl o x1 coins m ko hp hr => ?_
  obtain ⟨c, hc, rfl, ⟨L, hLn, hL2⟩, H, hH, hH2, hpt⟩ := hp
  have hr2 : ∀ m', m' = zRpy m o c coins → zRet C G Qc none m' := by
    intro m' h
    refine hr m' ?_
    intro c' hc' e
    rw [nI_eq (by omega) (by omega)] at e
    subst e
    exact h
  unfold zRpy at hr2
  have e4 : ∀ k, 4 * nI c + nI k = nI (4 * c + k) := fun k => by rw [show (4 : Int32) = nI 4 from rfl, pk_mul, nI_add]
  refine sg_X6_pay_0 S (C_X6_of hL) ko ⟨fun q => ⟨vp_in_nI (by omega) (by omega), ⟨c, 7, hc, by decide, rfl, rfl⟩, fun r h => ?_⟩, fun q => hr2 _ (by rw [if_neg q])⟩
  have e7 := h c 7 hc (by decide) rfl rfl
  rw [if_pos q] at hr2
  have e7' : r = zI m 1609 o (10 * c + 7) := e7
  unfold zRpA at hr2
  rw [← e7'] at hr2
  rw [nI_clamp (by omega)]
  generalize coins * r.toInt64 / 100 = fe at hr2 ⊢
  -- the heirs: from the memory behind the liens
  have heirs : ∀ left, ∀ m1 : zM, zI m1 1609 o (10 * c + 9) = nI H → (∀ k, k < H → ∃ q, 1 ≤ q ∧ q ≤ 9 ∧ zI m1 1616 o (4 * c + k) = nI q) → (∀ m', m' = zRpH m1 o c left → zRet C G Qc none m') → Pt_X6_pay_175 C G o (nI c) left 0 0 m1 := by
    intro left m1 h9 hq hr3
    obtain ⟨T, hS1, hS2, hS3⟩ := zsumI_N (f := zsh (zI m1 1616 o) c) (n := H) hq
    unfold zRpH zRph zRps at hr3
    rw [h9, nI_clamp (by omega), hS3] at hr3
    have k216 : Pt_X6_pay_216 C G o (nI c) left (nI T) left (nI 0) m1 := by
      by_cases z : H = 0
      · refine sg_X6_pay_216 S (C_X6_of hL) ko ⟨⟨c, 9, hc, by decide, rfl, rfl⟩, fun r2 h2 => ?_⟩
        have e9 := h2 c 9 hc (by decide) rfl rfl
        rw [h9] at e9
        have hS0 : T = 0 := by omega
        subst e9
        refine ⟨fun _ => ⟨fun _ => ⟨vp_in_nI (by omega) (by omega), hr3 _ ?_⟩, fun y => absurd (by rw [hS0]; decide) y⟩, fun y => absurd (by rw [z]; decide) y⟩
        rw [hS0, nI_0, if_pos rfl, nI_clamp (by omega)]
      · have hS0 : 0 < T := by omega
        rw [if_neg (nI_ne0 hS0 (by omega))] at hr3
        have n64 : ¬ (nI T).toInt64 = 0 := by
          rw [nI_l (by omega), show (0 : Int64) = lN 0 from rfl, lN_eq (by omega) (by omega)]
          omega
        generalize hs : (fun i => zph (zsh (zI m1 1616 o) c) left (nI T).toInt64 i (left, zsh (zJ m1 1617 o) c)) = s
        have hs' : ∀ i, zph (zsh (zI m1 1616 o) c) left (nI T).toInt64 i (left, zsh (zJ m1 1617 o) c) = s i := fun i => by rw [← hs]
        have key : ∀ i, i ≤ H → Pt_X6_pay_216 C G o (nI c) left (nI T) (s i).1 (nI i) (zcJ m1 1617 o (zpat (zJ m1 1617 o) c (s i).2)) := by
          refine z_loop H ?_ (fun i hi ih => ?_)
          · refine sg_X6_pay_216 S (C_X6_of hL) ko ⟨⟨c, 9, hc, by decide, rfl, rfl⟩, fun r2 h2 => ?_⟩
            have e9 : r2 = nI H := (h2 c 9 hc (by decide) rfl rfl).trans h9
            subst e9
            refine ⟨fun _ => ⟨fun y => absurd y (nI_nle hS0 (by omega)), fun _ => ?_⟩, fun y => absurd (nI_le (Nat.le_refl H) (by omega)) y⟩
            have e40 := e4 0
            rw [nI_0, Int32.add_zero] at e40
            rw [e40]
            refine ⟨vp_in_nI (by omega) (by omega), hr3 _ ?_⟩
            rw [nI_clamp (by omega), zsJ_cJ, zJ_ce, zpat_up (by omega), zpat_at (by omega), hs']
          · refine sg_X6_pay_216 S (C_X6_of hL) ko ⟨⟨c, 9, hc, by decide, rfl, rfl⟩, fun r2 h2 => ?_⟩
            have e9 : r2 = nI H := (h2 c 9 hc (by decide) rfl rfl).trans h9
            subst e9
            refine ⟨fun y => absurd y (nI_ge hi (by omega)), fun _ => ?_⟩
            rw [e4, nI_clamp (by omega), ← nI_succ]
            refine ⟨vp_in_nI (by omega) (by omega), n64, ?_⟩
            rw [zsJ_cJ, zJ_ce, zpat_up (by omega), zpat_at (by omega), zI_CJ]
            rw [← hs', zph, hs'] at ih
            exact ih
        have k0 := key 0 (Nat.zero_le _)
        rw [← hs'] at k0
        have e0 : zcJ m1 1617 o (zpat (zJ m1 1617 o) c (zph (zsh (zI m1 1616 o) c) left (nI T).toInt64 0 (left, zsh (zJ m1 1617 o) c)).2) = m1 := by
          show zcJ m1 1617 o (zpat (zJ m1 1617 o) c (zsh (zJ m1 1617 o) c)) = m1
          rw [zpat_self, zcJ_self]
        rw [e0] at k0
        exact k0
    refine z_loop (P := fun i => Pt_X6_pay_175 C G o (nI c) left (zsumI (zsh (zI m1 1616 o) c) i) (nI i) m1) H ?_ (fun i hi ih => ?_) 0 (Nat.zero_le _)
    · refine sg_X6_pay_175 S (C_X6_of hL) ko ⟨⟨c, 9, hc, by decide, rfl, rfl⟩, fun r2 h2 => ?_⟩
      have e9 : r2 = nI H := (h2 c 9 hc (by decide) rfl rfl).trans h9
      subst e9
      refine ⟨fun _ => ?_, fun y => absurd (nI_le (Nat.le_refl H) (by omega)) y⟩
      rw [hS3]
      exact k216
    · refine sg_X6_pay_175 S (C_X6_of hL) ko ⟨⟨c, 9, hc, by decide, rfl, rfl⟩, fun r2 h2 => ?_⟩
      have e9 : r2 = nI H := (h2 c 9 hc (by decide) rfl rfl).trans h9
      subst e9
      refine ⟨fun y => absurd y (nI_ge hi (by omega)), fun _ => ?_⟩
      rw [e4, nI_clamp (by omega), ← nI_succ]
      exact ⟨vp_in_nI (by omega) (by omega), ih⟩
  -- the liens
  generalize hm0 : zsJ (zsJ m 1610 o c (zJ m 1610 o c + coins)) 1611 o c (zJ m 1611 o c + fe) = m0 at hr2 ⊢
  have hI : ∀ f a j, zI m0 f a j = zI m f a j := fun f a j => by rw [← hm0]; rfl
  have hJ2 : ∀ f, f ≠ 1610 → f ≠ 1611 → ∀ a j, zJ m0 f a j = zJ m f a j := fun f h1 h2 a j => by rw [← hm0]; exact (zJ_n h2).trans (zJ_n h1)
  unfold zRpl at hr2
  rw [hL2, nI_clamp (by omega)] at hr2
  generalize hs : (fun t => zpl (zsh (zI m 1613 o) c) (zsh (zJ m 1614 o) c) L t (coins - fe, zsh (zJ m 1615 o) c)) = s at hr2
  have hs' : ∀ t, zpl (zsh (zI m 1613 o) c) (zsh (zJ m 1614 o) c) L t (coins - fe, zsh (zJ m 1615 o) c) = s t := fun t => by rw [← hs]
  rw [hs'] at hr2
  have key : ∀ t, t ≤ 10 → Pt_X6_pay_53 C G o (nI c) (s t).1 (nI t) (zcJ m0 1615 o (zpat (zJ m 1615 o) c (s t).2)) := by
    refine z_loop 10 ?_ (fun t ht ih => ?_)
    · refine sg_X6_pay_53 S ko ⟨fun _ => ?_, fun q => absurd (by decide) q⟩
      refine heirs _ _ ?_ ?_ hr2
      · rw [zI_CJ, hI]; exact hH2
      · intro k hk
        rw [zI_CJ, hI]; exact hpt k hk
    · refine sg_X6_pay_53 S ko ⟨fun q => absurd q (zge 10 ht), fun _ => ?_⟩
      rw [← hs', zpl, hs', nI_succ] at ih
      generalize s t = u at ih ⊢
      have inner : ∀ i, i ≤ L → Pt_X6_pay_63 C G o (nI c) (zpl1 (zsh (zI m 1613 o) c) (zsh (zJ m 1614 o) c) (nI t) i u).1 (nI t) (nI i) (zcJ m0 1615 o (zpat (zJ m 1615 o) c (zpl1 (zsh (zI m 1613 o) c) (zsh (zJ m 1614 o) c) (nI t) i u).2)) := by
        refine z_loop L ?_ (fun i hi ih2 => ?_)
        · refine sg_X6_pay_63 S (C_X6_of hL) ko ⟨⟨c, 8, hc, by decide, rfl, rfl⟩, fun r2 h2 => ?_⟩
          have e8 : r2 = nI L := ((h2 c 8 hc (by decide) rfl rfl).trans (hI _ _ _)).trans hL2
          subst e8
          exact ⟨fun _ => ih, fun y => absurd (nI_le (Nat.le_refl L) (by omega)) y⟩
        · refine sg_X6_pay_63 S (C_X6_of hL) ko ⟨⟨c, 8, hc, by decide, rfl, rfl⟩, fun r2 h2 => ?_⟩
          have e8 : r2 = nI L := ((h2 c 8 hc (by decide) rfl rfl).trans (hI _ _ _)).trans hL2
          subst e8
          refine ⟨fun y => absurd y (nI_ge hi (by omega)), fun _ => ?_⟩
          rw [e4, nI_clamp (by omega), ← nI_succ]
          rw [zI_CJ, hI, zJ_cn (by decide), hJ2 1614 (by decide) (by decide), zJ_ce, zpat_at (by omega)]
          refine ⟨vp_in_nI (by omega) (by omega), fun q => ?_, fun q => ?_⟩
          · rw [zpl1, if_neg (show ¬ zsh (zI m 1613 o) c i = nI t from q)] at ih2
            exact ih2
          · rw [zpl1, if_pos (show zsh (zI m 1613 o) c i = nI t from q)] at ih2
            generalize zpl1 (zsh (zI m 1613 o) c) (zsh (zJ m 1614 o) c) (nI t) i u = w at ih2 ⊢
            have k136 : ∀ s0, s0 = (if zsh (zJ m 1614 o) c i - w.2 i < w.1 then zsh (zJ m 1614 o) c i - w.2 i else w.1) → Pt_X6_pay_136 C G o (nI c) w.1 (nI t) (nI i) (nI (4 * c + i)) s0 (zcJ m0 1615 o (zpat (zJ m 1615 o) c w.2)) := by
              intro s0 h0
              refine sg_X6_pay_136 S ko ⟨vp_in_nI (by omega) (by omega), ?_⟩
              rw [nI_clamp (by omega), zsJ_cJ, zJ_ce, zpat_up (by omega), zpat_at (by omega), h0, ← nI_succ]
              exact ih2
            refine ⟨fun z => k136 _ ?_, fun z => k136 _ ?_⟩
            · exact (if_neg (by rw [Int64.not_lt]; exact z)).symm
            · exact (if_pos (by rw [← Int64.not_le]; exact z)).symm
      exact inner 0 (Nat.zero_le _)
  have k0 := key 0 (Nat.zero_le _)
  rw [← hs'] at k0
  have e0 : zcJ m0 1615 o (zpat (zJ m 1615 o) c (zpl (zsh (zI m 1613 o) c) (zsh (zJ m 1614 o) c) L 0 (coins - fe, zsh (zJ m 1615 o) c)).2) = m0 := by
    show zcJ m0 1615 o (zpat (zJ m 1615 o) c (zsh (zJ m 1615 o) c)) = m0
    rw [zpat_self]
    have : zJ m 1615 o = zJ m0 1615 o := funext fun j => (hJ2 1615 (by decide) (by decide) o j).symm
    rw [this, zcJ_self]
  rw [e0] at k0
  exact k0
end ZR3
