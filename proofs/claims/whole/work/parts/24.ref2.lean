/-! the reference: points, least, most, all, what holds -/
theorem z64_lt {a b : Int32} : a.toInt64 < b.toInt64 ↔ a < b := by
  rw [Int64.lt_iff_toInt_lt, Int32.lt_iff_toInt_lt, Int32.toInt_toInt64, Int32.toInt_toInt64]
theorem z64_le {a b : Int32} : a.toInt64 ≤ b.toInt64 ↔ a ≤ b := by
  rw [Int64.le_iff_toInt_le, Int32.le_iff_toInt_le, Int32.toInt_toInt64, Int32.toInt_toInt64]
theorem z64_eq {a b : Int32} : a.toInt64 = b.toInt64 ↔ a = b := ⟨z_toInt64_inj, fun h => by rw [h]⟩
theorem z_and1 (x : Int32) : (x &&& 1) = 1 ↔ ¬ (x &&& 1) = 0 := by
  have h := pk_and x (m := 1) 1 (by decide)
  rw [h]
  have h2 : x.toBitVec.toNat % 2 ^ 1 < 2 := Nat.mod_lt _ (by decide)
  generalize x.toBitVec.toNat % 2 ^ 1 = q at h2
  rw [show (1 : Int32) = nI 1 from rfl, show (0 : Int32) = nI 0 from rfl, nI_eq (by omega) (by omega), nI_eq (by omega) (by omega)]
  omega
def zon : Nat → Int32 → Int32 → Int32
  | 0, c, _ => c
  | f + 1, c, b => if b = 0 then c else zon f (c + 1) (b &&& (b - 1))
def zit : Nat → Int32 → Int32
  | 0, b => b
  | f + 1, b => zit f (b &&& (b - 1))
theorem z_ones : ∀ a, a < 64 → zon 7 0 (nI a) = zbc (nI a) ∧ zit 6 (nI a) = 0 := by decide +kernel
theorem zhold_no {su sg num no : Nat → Int32} {base : Nat} {k y l p pts : Int32} {i t : Nat} (h : zhold su sg num no base k y l p pts i = false) (hit : i ≤ t) : zhold su sg num no base k y l p pts t = false := by
  have hno : ∀ d, zhold su sg num no base k y l p pts (i + d) = false := by
    intro d
    induction d with
    | zero => exact h
    | succ d ihd => show (zhold _ _ _ _ _ _ _ _ _ _ (i + d) && _) = false; rw [ihd]; rfl
  have := hno (t - i)
  rw [show i + (t - i) = t by omega] at this
  exact this
def zaN (a q k : Nat) : Nat := if a = 1 then min (k + q) 1000000 else if a = 2 then min (k * q / 100) 1000000 else min q 1000000
theorem zaN_le (a q k : Nat) : zaN a q k ≤ 1000000 := by
  unfold zaN
  split
  · exact Nat.min_le_right _ _
  · split
    · exact Nat.min_le_right _ _
    · exact Nat.min_le_right _ _
theorem zcut_N {v : Nat} (hv : v < 2 ^ 63) : zcut (lN v) = nI (min v 1000000) := by
  unfold zcut
  rw [show (1000000 : Int64) = lN 1000000 from rfl]
  split
  · rename_i h
    rw [pk_lLT (by omega) hv] at h
    rw [lN_i, Nat.min_eq_right (by omega)]
  · rename_i h
    rw [pk_lLT (by omega) hv] at h
    rw [lN_i, Nat.min_eq_left (by omega)]
theorem zmul_lt {k q : Nat} (hk : k ≤ 1000000) (hq : q ≤ 9999) : k * q ≤ 9999000000 := Nat.le_trans (Nat.mul_le_mul hk hq) (by decide)
theorem zafter_N {a q k : Nat} (ha : a < 4) (hq : q ≤ 9999) (hk : k ≤ 1000000) : zafter (nI a) (nI q) (nI k) = nI (zaN a q k) := by
  have hm := zmul_lt hk hq
  unfold zafter zaN
  rw [nI_l (by omega), nI_l (by omega), lN_add, lN_mul, show (100 : Int64) = lN 100 from rfl, pk_lDiv (by omega) (by omega) (by omega)]
  by_cases h1 : a = 1
  · rw [if_pos h1, if_pos (by rw [h1]; rfl)]
    exact zcut_N (by omega)
  · rw [if_neg h1, if_neg (by rw [show (1 : Int32) = nI 1 from rfl, nI_eq (by omega) (by omega)]; exact h1)]
    by_cases h2 : a = 2
    · rw [if_pos h2, if_pos (by rw [h2]; rfl)]
      exact zcut_N (Nat.lt_of_le_of_lt (Nat.div_le_self _ _) (by omega))
    · rw [if_neg h2, if_neg (by rw [show (2 : Int32) = nI 2 from rfl, nI_eq (by omega) (by omega)]; exact h2)]
      exact zcut_N (by omega)
/-- what the lines of a grid keep to -/
def zGok (act am te : Nat → Int32) (L : Nat) : Prop := ∀ l, l < L → ∃ t a q, t ≤ 4 ∧ a < 4 ∧ q ≤ 9999 ∧ te l = nI t ∧ act l = nI a ∧ am l = nI q
theorem zpf_N {act am te su sg num no : Nat → Int32} {L : Nat} (hg : zGok act am te L) (k y l p : Int32) : ∀ d i v, i + d = L → v ≤ 1000000 → ∃ w, w ≤ 1000000 ∧ zpf act am te su sg num no k y l p d i (nI v) = nI w := by
  intro d
  induction d with
  | zero => intro i v _ hv; exact ⟨v, hv, rfl⟩
  | succ d ih =>
    intro i v hi hv
    obtain ⟨t, a, q, ht, ha, hq, e1, e2, e3⟩ := hg i (by omega)
    rw [zpf]
    split
    · split
      · exact ⟨0, by omega, rfl⟩
      · rw [e2, e3, zafter_N ha hq hv]
        exact ih (i + 1) _ (by omega) (zaN_le _ _ _)
    · exact ih (i + 1) v (by omega) hv
def zRG (m : zM) (o : Nat) : Prop := ∃ L, L ≤ 16 ∧ zI m 1618 o 0 = nI L ∧ zGok (zI m 1623 o) (zI m 1624 o) (zI m 1619 o) L
def zwS (m : zM) (o : Nat) (x : Nat) : Int32 := zI m 1620 o x &&& 7
def zwN (m : zM) (o : Nat) (x : Nat) : Int32 := if 7 < zI m 1620 o x then 1 else 0
def zrp (m : zM) (o : Nat) (k y l p : Int32) : Int32 := zpf (zI m 1623 o) (zI m 1624 o) (zI m 1619 o) (zwS m o) (zI m 1621 o) (zI m 1622 o) (zwN m o) k y l p (zI m 1618 o 0).toNatClampNeg 0 0
def zrw (m : zM) (o c : Nat) (p : Int32) : Int32 := zrp m o (zI m 1609 o (10 * c + 1)) (zI m 1609 o (10 * c + 2)) (zI m 1609 o (10 * c + 3)) p
def zRle (m : zM) (o c : Nat) : Int32 := if zI m 1609 o (10 * c + 5) = 0 then zml (zrw m o c) (zI m 1609 o (10 * c + 4)) 64 else if zI m 1609 o (10 * c + 5) = 1 then zI m 1609 o (10 * c + 6) else 0
def zRmo (m : zM) (o c : Nat) : Int32 := if zI m 1609 o (10 * c + 5) = 0 then zmm (zrw m o c) (zI m 1609 o (10 * c + 4)) 64 else if zI m 1609 o (10 * c + 5) = 1 then zI m 1609 o (10 * c + 6) else 0
def zRa (m : zM) (o : Nat) : Int64 := zsum (fun c => (zRmo m o c).toInt64) (zI m 1606 o 0).toNatClampNeg
def zRw (m : zM) (o c : Nat) (all : Int64) : Int64 := if all = 0 then 0 else zJ m 1605 o 0 * (zRle m o c).toInt64 / all
def zRH (m : zM) (o : Nat) : Prop := ∀ c, c < (zI m 1606 o 0).toNatClampNeg → ¬ zJ m 1610 o c ≤ 0 → zJ m 1610 o c ≤ zRw m o c (zRa m o)
section ZR2
variable {l : Launch} {G : zG}
theorem C_X6_ones (hL : zLay G) : Con_X6_ones l G (fun x _ => ∃ a, a < 64 ∧ x = nI a) (fun x _ r => r = zbc x) := by
  refine con_X6_ones hL fun C Qc S hl x m hp hr => sg_X6_ones_0 S ?_
  obtain ⟨a, ha, rfl⟩ := hp
  have key : ∀ f c b, zit f b = 0 → zRet C G Qc (some (.int (zon (f + 1) c b))) m → Pt_X6_ones_4 C G c b m := by
    intro f
    induction f with
    | zero =>
      intro c b hz hq
      have hz2 : b = 0 := hz
      refine sg_X6_ones_4 S ⟨fun _ => ?_, fun q => absurd hz2 q⟩
      rw [zon, if_pos hz2] at hq
      exact hq
    | succ f ih =>
      intro c b hz hq
      refine sg_X6_ones_4 S ⟨fun q => ?_, fun q => ?_⟩
      · rw [zon, if_pos q] at hq
        exact hq
      · rw [zon, if_neg q] at hq
        exact ih _ _ hz hq
  exact key 6 0 (nI a) (z_ones a ha).2 (by rw [(z_ones a ha).1]; exact hr _ rfl)
theorem C_X6_lineHolds (hL : zLay G) : Con_X6_lineHolds l G (fun o x1 _ _ _ x5 l6 m => (∃ a, a < 64 ∧ x5 = nI a) ∧ ∃ li t, li < 16 ∧ x1 = nI li ∧ t ≤ 4 ∧ zI m 1619 o li = nI t ∧ ∃ pts : Int32, l6 = pts.toInt64) (fun o x1 k y la p l6 m r => ∀ (li : Nat) (pts : Int32), li < 16 → x1 = nI li → l6 = pts.toInt64 → r = if zhold (zwS m o) (zI m 1621 o) (zI m 1622 o) (zwN m o) (4 * li) k y la p pts (zI m 1619 o li).toNatClampNeg = true then 1 else 0) := by
  refine con_X6_lineHolds hL fun C Qc S hl o x1 k y la p l6 m ko hp hr => sg_X6_lineHolds_0 S ko ?_
  obtain ⟨hpa, li, t, hli, rfl, ht, ht2, pts, rfl⟩ := hp
  have hr2 : ∀ r, (r = if zhold (zwS m o) (zI m 1621 o) (zI m 1622 o) (zwN m o) (4 * li) k y la p pts t = true then 1 else 0) → zRet C G Qc (some (.int r)) m := by
    intro r h
    refine hr r ?_
    intro li' pts' hli' e e2
    rw [nI_eq (by omega) (by omega)] at e
    subst e
    have e3 := z_toInt64_inj e2
    subst e3
    rw [ht2, nI_clamp (by omega)]
    exact h
  have e4 : 4 * nI li = nI (4 * li) := by rw [show (4 : Int32) = nI 4 from rfl, pk_mul]
  rw [e4]
  refine z_loop (P := fun i => zhold (zwS m o) (zI m 1621 o) (zI m 1622 o) (zwN m o) (4 * li) k y la p pts i = true → Pt_X6_lineHolds_5 C G o (nI li) k y la p pts.toInt64 (nI (4 * li + i)) m) t (fun hz => ?_) (fun i hi ih hz => ?_) 0 (Nat.zero_le t) rfl
  · refine sg_X6_lineHolds_5 S (C_X6_ones hL) ko ⟨vp_in_nI (by omega) (by omega), ?_, ?_⟩
    · intro _; exact hr2 _ (by rw [hz]; rfl)
    · intro q; rw [nI_clamp (by omega), ht2, e4, nI_add] at q; exact absurd (nI_le (Nat.le_refl _) (by omega)) q
  · have h193 : ∀ x11 : Int32, x11 = zmet (zwS m o (4 * li + i)) (zI m 1621 o (4 * li + i)) (zI m 1622 o (4 * li + i)) k y la p pts → Pt_X6_lineHolds_193 C G o (nI li) k y la p pts.toInt64 (nI (4 * li + i)) x11 m := by
      intro x11 hx
      have next : ¬ x11 = zwN m o (4 * li + i) → Pt_X6_lineHolds_5 C G o (nI li) k y la p pts.toInt64 (nI (4 * li + i) + 1) m := by
        intro q
        rw [← nI_succ]
        refine ih ?_
        show (zhold _ _ _ _ _ _ _ _ _ _ i && _) = true
        rw [hz, ← hx]
        simp [q]
      have stop : x11 = zwN m o (4 * li + i) → zRet C G Qc (some (.int 0)) m := by
        intro q
        refine hr2 _ ?_
        rw [zhold_no (i := i + 1) (t := t) (by show (zhold _ _ _ _ _ _ _ _ _ _ i && _) = false; rw [← hx]; simp [q]) (by omega)]
        rfl
      unfold zwN at next stop
      refine sg_X6_lineHolds_193 S ko ⟨vp_in_nI (by omega) (by omega), ?_, ?_⟩
      · intro q
        rw [nI_clamp (by omega)] at q
        rw [if_neg (by rw [Int32.not_lt]; exact q)] at next stop
        exact ⟨next, stop⟩
      · intro q
        rw [nI_clamp (by omega)] at q
        rw [if_pos (by rw [← Int32.not_le]; exact q)] at next stop
        exact ⟨next, stop⟩
    have h117 : ¬ zwS m o (4 * li + i) = 5 → ∀ s : Int64, s = (zseen (zwS m o (4 * li + i)) k y la p pts).toInt64 → Pt_X6_lineHolds_117 C G o (nI li) k y la p pts.toInt64 (nI (4 * li + i)) (zI m 1622 o (4 * li + i)) s m := by
      intro n5 s hs
      rw [zmet, if_neg n5] at h193
      unfold zcmp at h193
      subst hs
      refine sg_X6_lineHolds_117 S ko ⟨vp_in_nI (by omega) (by omega), ?_, ?_⟩
      · intro q
        rw [nI_clamp (by omega)] at q
        rw [if_neg q] at h193
        refine ⟨fun q2 => ?_, fun q2 => ?_⟩
        · rw [nI_clamp (by omega)] at q2
          rw [if_neg q2] at h193
          refine ⟨fun q3 => h193 _ ?_, fun q3 => h193 _ ?_⟩
          · rw [z64_eq] at q3
            rw [if_neg q3]
          · rw [z64_eq] at q3
            rw [if_pos q3]
        · rw [nI_clamp (by omega)] at q2
          rw [if_pos q2] at h193
          refine ⟨fun q3 => h193 _ ?_, fun q3 => h193 _ ?_⟩
          · rw [z64_le, ← Int32.not_lt] at q3
            rw [if_neg q3]
          · rw [z64_le, Int32.not_le] at q3
            rw [if_pos q3]
      · intro q
        rw [nI_clamp (by omega)] at q
        rw [if_pos q] at h193
        refine ⟨fun q3 => h193 _ ?_, fun q3 => h193 _ ?_⟩
        · rw [z64_le, ← Int32.not_lt] at q3
          rw [if_neg q3]
        · rw [z64_le, Int32.not_le] at q3
          rw [if_pos q3]
    refine sg_X6_lineHolds_5 S (C_X6_ones hL) ko ⟨vp_in_nI (by omega) (by omega), ?_, ?_⟩
    · intro q; rw [nI_clamp (by omega), ht2, e4, nI_add] at q; exact absurd q (nI_ge (by omega) (by omega))
    · intro _
      rw [nI_clamp (n := 4 * li + i) (by omega)]
      refine ⟨vp_in_nI (by omega) (by omega), ?_, ?_⟩
      · intro n5
        refine ⟨fun n0 => ⟨fun n1 => ⟨fun n2 => ⟨fun n3 => h117 n5 _ ?_, fun e3 => ⟨hpa, fun r h => h117 n5 _ ?_⟩⟩, fun e2 => h117 n5 _ ?_⟩, fun e1 => h117 n5 _ ?_⟩, fun e0 => h117 n5 _ ?_⟩
        · unfold zseen zwS; rw [if_neg n0, if_neg n1, if_neg n2, if_neg n3]
        · unfold zseen zwS; rw [if_neg n0, if_neg n1, if_neg n2, if_pos e3, h]
        · unfold zseen zwS; rw [if_neg n0, if_neg n1, if_pos e2]
        · unfold zseen zwS; rw [if_neg n0, if_pos e1]
        · unfold zseen zwS; rw [if_pos e0]
      · intro e5
        refine ⟨fun q => h193 _ ?_, fun q => h193 _ ?_⟩
        · unfold zmet
          rw [show zwS m o (4 * li + i) = 5 from e5, if_pos rfl, if_neg (by rw [z_and1]; exact fun z => z q)]
        · unfold zmet
          rw [show zwS m o (4 * li + i) = 5 from e5, if_pos rfl, if_pos (by rw [z_and1]; exact q)]
theorem C_X6_pointsOf (hL : zLay G) : Con_X6_pointsOf l G (fun o _ _ _ x4 m => zRG m o ∧ ∃ a, a < 64 ∧ x4 = nI a) (fun o k y la p m r => r = zrp m o k y la p) := by
  refine con_X6_pointsOf hL fun C Qc S hl o k y la p m ko hp hr => sg_X6_pointsOf_0 S ko ?_
  obtain ⟨⟨L, hLn, hL2, hg⟩, hpa⟩ := hp
  unfold zrp at hr
  rw [hL2, nI_clamp (by omega)] at hr
  generalize hE : zpf (zI m 1623 o) (zI m 1624 o) (zI m 1619 o) (zwS m o) (zI m 1621 o) (zI m 1622 o) (zwN m o) k y la p L 0 0 = E at hr
  have key : ∀ i, i ≤ L → ∀ v, v ≤ 1000000 → E = zpf (zI m 1623 o) (zI m 1624 o) (zI m 1619 o) (zwS m o) (zI m 1621 o) (zI m 1622 o) (zwN m o) k y la p (L - i) i (nI v) → Pt_X6_pointsOf_6 C G o k y la p (lN v) (nI i) m := by
    refine z_loop L (fun v hv he => ?_) (fun i hi ih v hv he => ?_)
    · refine sg_X6_pointsOf_6 S (C_X6_lineHolds hL) ko ⟨fun _ => hr _ ?_, fun q => ?_⟩
      · rw [he, Nat.sub_self, lN_i]; rfl
      · rw [hL2] at q; exact absurd (nI_le (Nat.le_refl L) (by omega)) q
    · obtain ⟨t, a, q, ht, ha, hq, e1, e2, e3⟩ := hg i hi
      have hm := zmul_lt hv hq
      rw [show L - i = (L - (i + 1)) + 1 by omega, zpf, e2, e3, zafter_N ha hq hv] at he
      refine sg_X6_pointsOf_6 S (C_X6_lineHolds hL) ko ⟨fun z => ?_, fun _ => ⟨⟨hpa, i, t, by omega, rfl, ht, e1, nI v, (nI_l (by omega)).symm⟩, fun r h => ?_⟩⟩
      · rw [hL2] at z; exact absurd z (nI_ge hi (by omega))
      have h2 := h i (nI v) (by omega) rfl (nI_l (by omega)).symm
      rw [nI_clamp (by omega), e2, e3, nI_l (by omega), ← nI_succ]
      refine ⟨fun z => ⟨vp_in_nI (by omega) (by omega), ?_⟩, fun z => ih v hv ?_⟩
      · have hz : zhold (zwS m o) (zI m 1621 o) (zI m 1622 o) (zwN m o) (4 * i) k y la p (nI v) (zI m 1619 o i).toNatClampNeg = true := by
          by_cases hz : zhold (zwS m o) (zI m 1621 o) (zI m 1622 o) (zwN m o) (4 * i) k y la p (nI v) (zI m 1619 o i).toNatClampNeg = true
          · exact hz
          · rw [if_neg hz] at h2; exact absurd h2 z
        rw [if_pos hz] at he
        have h104 : ∀ w, w < 2 ^ 63 → zaN a q v = min w 1000000 → ¬ nI a = 3 → Pt_X6_pointsOf_104 C G o k y la p (nI i) (lN w) m := by
          intro w hw ew n3
          rw [if_neg n3, ew] at he
          refine sg_X6_pointsOf_104 S ko ⟨fun y1 => ?_, fun y1 => ?_⟩
          · rw [show (1000000 : Int64) = lN 1000000 from rfl, pk_lLE hw (by omega)] at y1
            rw [Nat.min_eq_left y1] at he
            rw [← nI_succ]
            exact ih w y1 he
          · rw [show (1000000 : Int64) = lN 1000000 from rfl, pk_lLE hw (by omega)] at y1
            rw [Nat.min_eq_right (by omega)] at he
            rw [← nI_succ]
            exact ih 1000000 (by omega) he
        refine ⟨fun n3 => ⟨fun n0 => ⟨fun n1 => ?_, fun y1 => ?_⟩, fun y0 => ?_⟩, fun y3 => hr _ ?_⟩
        · rw [lN_mul, show (100 : Int64) = lN 100 from rfl, pk_lDiv (by omega) (by omega) (by omega)]
          refine h104 _ (Nat.lt_of_le_of_lt (Nat.div_le_self _ _) (by omega)) ?_ n3
          unfold zaN
          have a1 : a ≠ 1 := fun z => n1 (by rw [z]; rfl)
          have a0 : a ≠ 0 := fun z => n0 (by rw [z]; rfl)
          have a3 : a ≠ 3 := fun z => n3 (by rw [z]; rfl)
          rw [if_neg a1, if_pos (by omega)]
        · rw [lN_add]
          refine h104 _ (by omega) ?_ n3
          rw [show (1 : Int32) = nI 1 from rfl, nI_eq (by omega) (by omega)] at y1
          unfold zaN
          rw [if_pos y1]
        · refine h104 _ (by omega) ?_ n3
          rw [show (0 : Int32) = nI 0 from rfl, nI_eq (by omega) (by omega)] at y0
          unfold zaN
          rw [if_neg (by omega), if_neg (by omega)]
        · rw [he, if_pos y3]
      · have hz : ¬ zhold (zwS m o) (zI m 1621 o) (zI m 1622 o) (zwN m o) (4 * i) k y la p (nI v) (zI m 1619 o i).toNatClampNeg = true := by
          intro hz
          rw [if_pos hz, z] at h2
          revert h2; decide
        rw [if_neg hz] at he
        exact he
  exact key 0 (Nat.zero_le L) 0 (by omega) (by rw [Nat.sub_zero]; exact hE.symm)
theorem C_X6_pointsNow (hL : zLay G) : Con_X6_pointsNow l G (fun o x1 x2 m => zRG m o ∧ (∃ c, c < 16 ∧ x1 = nI c) ∧ ∃ a, a < 64 ∧ x2 = nI a) (fun o x1 x2 m r => ∀ c, c < 16 → x1 = nI c → r = zrw m o c x2) := by
  refine con_X6_pointsNow hL fun C Qc S hl o x1 x2 m ko hp hr => ?_
  obtain ⟨hg, ⟨c, hc, rfl⟩, hpa⟩ := hp
  refine sg_X6_pointsNow_0 S (C_X6_of hL) (C_X6_pointsOf hL) ko ⟨⟨c, 1, hc, by decide, rfl, rfl⟩, fun r h => ⟨⟨c, 2, hc, by decide, rfl, rfl⟩, fun r2 h2 => ⟨⟨c, 3, hc, by decide, rfl, rfl⟩, fun r3 h3 => ⟨⟨hg, hpa⟩, fun r4 h4 => hr _ ?_⟩⟩⟩⟩
  intro c' hc' e
  rw [nI_eq (by omega) (by omega)] at e
  subst e
  rw [h4, h c 1 hc (by decide) rfl rfl, h2 c 2 hc (by decide) rfl rfl, h3 c 3 hc (by decide) rfl rfl]
  rfl
/-- the papers of claim c are a set of papers -/
def zRP (m : zM) (o c : Nat) : Prop := ∃ a, a < 64 ∧ zI m 1609 o (10 * c + 4) = nI a
theorem C_X6_mostOf (hL : zLay G) : Con_X6_mostOf l G (fun o x1 m => zRG m o ∧ ∃ c, c < 16 ∧ x1 = nI c ∧ zRP m o c) (fun o x1 m r => ∀ c, c < 16 → x1 = nI c → r = zRmo m o c) := by
  refine con_X6_mostOf hL fun C Qc S hl o x1 m ko hp hr => ?_
  obtain ⟨hg, c, hc, rfl, a, ha, ha2⟩ := hp
  have hr2 : ∀ r, r = zRmo m o c → zRet C G Qc (some (.int r)) m := by
    intro r h
    refine hr r ?_
    intro c' hc' e
    rw [nI_eq (by omega) (by omega)] at e
    subst e
    exact h
  unfold zRmo at hr2
  refine sg_X6_mostOf_0 S (C_X6_of hL) ko ⟨⟨c, 5, hc, by decide, rfl, rfl⟩, fun r h => ⟨fun q => ?_, fun q r2 h2 => ⟨fun q2 => hr2 _ ?_, fun q2 => ⟨⟨c, 6, hc, by decide, rfl, rfl⟩, fun r3 h3 => hr2 _ ?_⟩⟩⟩⟩
  · have e5 := h c 5 hc (by decide) rfl rfl
    rw [← e5, if_pos q, ha2] at hr2
    refine z_loop (P := fun i => Pt_X6_mostOf_35 C G o (nI c) (zmm (zrw m o c) (nI a) i) (nI i) m) 64 ?_ (fun i hi ih => ?_) 0 (Nat.zero_le _)
    · exact sg_X6_mostOf_35 S (C_X6_of hL) (C_X6_pointsNow hL) ko ⟨fun _ => hr2 _ rfl, fun z => absurd (by decide) z⟩
    · refine sg_X6_mostOf_35 S (C_X6_of hL) (C_X6_pointsNow hL) ko ⟨fun z => absurd z (zge 64 hi), fun _ => ⟨⟨c, 4, hc, by decide, rfl, rfl⟩, fun r2 h2 r3 h3 => ?_⟩⟩
      have e2 := h2 c 4 hc (by decide) rfl rfl
      have e3 := h3 c 4 hc (by decide) rfl rfl
      rw [e2, e3, ha2, ← nI_succ]
      rw [zmm] at ih
      refine ⟨fun z => ?_, fun z => ⟨⟨hg, ⟨c, hc, rfl⟩, i, hi, rfl⟩, fun r5 h5 => ?_⟩⟩
      · rw [if_neg z] at ih
        exact ih
      · have e5 := h5 c hc rfl
        rw [if_pos z, ← e5] at ih
        refine ⟨fun y => ?_, fun y => ?_⟩
        · rw [if_neg (by rw [Int32.not_lt]; exact y)] at ih
          exact ih
        · rw [if_pos (by rw [← Int32.not_le]; exact y)] at ih
          exact ih
  · rw [← h c 5 hc (by decide) rfl rfl, if_neg q, h c 5 hc (by decide) rfl rfl, ← h2 c 5 hc (by decide) rfl rfl, if_neg q2]
  · rw [← h c 5 hc (by decide) rfl rfl, if_neg q, h c 5 hc (by decide) rfl rfl, ← h2 c 5 hc (by decide) rfl rfl, if_pos q2, h3 c 6 hc (by decide) rfl rfl]
theorem C_X6_leastOf (hL : zLay G) : Con_X6_leastOf l G (fun o x1 m => zRG m o ∧ ∃ c, c < 16 ∧ x1 = nI c ∧ zRP m o c) (fun o x1 m r => ∀ c, c < 16 → x1 = nI c → r = zRle m o c) := by
  refine con_X6_leastOf hL fun C Qc S hl o x1 m ko hp hr => ?_
  obtain ⟨hg, c, hc, rfl, a, ha, ha2⟩ := hp
  have hr2 : ∀ r, r = zRle m o c → zRet C G Qc (some (.int r)) m := by
    intro r h
    refine hr r ?_
    intro c' hc' e
    rw [nI_eq (by omega) (by omega)] at e
    subst e
    exact h
  unfold zRle at hr2
  refine sg_X6_leastOf_0 S (C_X6_of hL) ko ⟨⟨c, 5, hc, by decide, rfl, rfl⟩, fun r h => ⟨fun q => ?_, fun q r2 h2 => ⟨fun q2 => hr2 _ ?_, fun q2 => ⟨⟨c, 6, hc, by decide, rfl, rfl⟩, fun r3 h3 => hr2 _ ?_⟩⟩⟩⟩
  · have e5 := h c 5 hc (by decide) rfl rfl
    rw [← e5, if_pos q, ha2] at hr2
    refine z_loop (P := fun i => Pt_X6_leastOf_37 C G o (nI c) (zml (zrw m o c) (nI a) i) (nI i) m) 64 ?_ (fun i hi ih => ?_) 0 (Nat.zero_le _)
    · exact sg_X6_leastOf_37 S (C_X6_of hL) (C_X6_pointsNow hL) ko ⟨fun _ => hr2 _ rfl, fun z => absurd (by decide) z⟩
    · refine sg_X6_leastOf_37 S (C_X6_of hL) (C_X6_pointsNow hL) ko ⟨fun z => absurd z (zge 64 hi), fun _ => ⟨⟨c, 4, hc, by decide, rfl, rfl⟩, fun r2 h2 r3 h3 => ?_⟩⟩
      have e2 := h2 c 4 hc (by decide) rfl rfl
      have e3 := h3 c 4 hc (by decide) rfl rfl
      rw [e2, e3, ha2, ← nI_succ]
      rw [zml] at ih
      refine ⟨fun z => ?_, fun z => ⟨⟨hg, ⟨c, hc, rfl⟩, i, hi, rfl⟩, fun r5 h5 => ?_⟩⟩
      · rw [if_neg z] at ih
        exact ih
      · have e5 := h5 c hc rfl
        rw [if_pos z, ← e5] at ih
        refine ⟨fun y => ?_, fun y => ?_⟩
        · rw [if_neg (by rw [Int32.not_lt]; exact y)] at ih
          exact ih
        · rw [if_pos (by rw [← Int32.not_le]; exact y)] at ih
          exact ih
  · rw [← h c 5 hc (by decide) rfl rfl, if_neg q, h c 5 hc (by decide) rfl rfl, ← h2 c 5 hc (by decide) rfl rfl, if_neg q2]
  · rw [← h c 5 hc (by decide) rfl rfl, if_neg q, h c 5 hc (by decide) rfl rfl, ← h2 c 5 hc (by decide) rfl rfl, if_pos q2, h3 c 6 hc (by decide) rfl rfl]
/-- many claims, each with a set of papers, and a sound grid -/
def zRC (m : zM) (o : Nat) : Prop := zRG m o ∧ ∃ n, n ≤ 16 ∧ zI m 1606 o 0 = nI n ∧ ∀ c, c < n → zRP m o c
theorem zRC_N {m : zM} {o : Nat} (h : zRC m o) : zRN m o := by
  obtain ⟨-, n, hn, hn2, -⟩ := h
  exact ⟨n, hn, hn2⟩
theorem C_X6_all (hL : zLay G) : Con_X6_all l G (fun o m => zRC m o) (fun o m r => r = zRa m o) := by
  refine con_X6_all hL fun C Qc S hl o m ko hp hr => sg_X6_all_0 S ko ?_
  obtain ⟨hg, n, hn, hn2, hpa⟩ := hp
  unfold zRa at hr
  rw [hn2, nI_clamp (by omega)] at hr
  refine z_loop (P := fun i => Pt_X6_all_4 C G o (zsum (fun c => (zRmo m o c).toInt64) i) (nI i) m) n ?_ (fun i hi ih => ?_) 0 (Nat.zero_le n)
  · exact sg_X6_all_4 S (C_X6_mostOf hL) ko ⟨fun _ => hr _ rfl, fun q => by rw [hn2] at q; exact absurd (nI_le (Nat.le_refl n) (by omega)) q⟩
  · refine sg_X6_all_4 S (C_X6_mostOf hL) ko ⟨fun q => by rw [hn2] at q; exact absurd q (nI_ge hi (by omega)), fun _ => ⟨⟨hg, i, by omega, rfl, hpa i hi⟩, fun r h => ?_⟩⟩
    rw [h i (by omega) rfl, ← nI_succ]
    exact ih
theorem C_X6_worst (hL : zLay G) : Con_X6_worst l G (fun o x1 _ m => zRG m o ∧ ∃ c, c < 16 ∧ x1 = nI c ∧ zRP m o c) (fun o x1 all m r => ∀ c, c < 16 → x1 = nI c → r = zRw m o c all) := by
  refine con_X6_worst hL fun C Qc S hl o x1 all m ko hp hr => ?_
  obtain ⟨hg, c, hc, rfl, hpa⟩ := hp
  refine sg_X6_worst_0 S (C_X6_leastOf hL) ko ⟨fun q => ⟨⟨hg, c, hc, rfl, hpa⟩, fun r h => ⟨q, hr _ ?_⟩⟩, fun q => hr _ ?_⟩
  · intro c' hc' e
    rw [nI_eq (by omega) (by omega)] at e
    subst e
    unfold zRw
    rw [if_neg q, h c hc rfl]
  · intro c' hc' e
    unfold zRw
    rw [if_pos q]
theorem C_X6_holds (hL : zLay G) : Con_X6_holds l G (fun o m => zRC m o) (fun o m r => zB r (zRH m o)) := by
  refine con_X6_holds hL fun C Qc S hl o m ko hp hr => sg_X6_holds_0 S (C_X6_all hL) ko ⟨hp, fun all hall => ?_⟩
  obtain ⟨hg, n, hn, hn2, hpa⟩ := hp
  unfold zRH at hr
  rw [hn2, nI_clamp (by omega), ← hall] at hr
  refine z_loop (P := fun i => (∀ c, c < i → ¬ zJ m 1610 o c ≤ 0 → zJ m 1610 o c ≤ zRw m o c all) → Pt_X6_holds_7 C G o all (nI i) m) n (fun hz => ?_) (fun i hi ih hz => ?_) 0 (Nat.zero_le n) (fun c hc => absurd hc (Nat.not_lt_zero c))
  · exact sg_X6_holds_7 S (C_X6_worst hL) ko ⟨fun _ => hr _ (zB_1 hz), fun q => by rw [hn2] at q; exact absurd (nI_le (Nat.le_refl n) (by omega)) q⟩
  · refine sg_X6_holds_7 S (C_X6_worst hL) ko ⟨fun q => by rw [hn2] at q; exact absurd q (nI_ge hi (by omega)), fun _ => ?_⟩
    rw [nI_clamp (by omega), ← nI_succ]
    refine ⟨vp_in_nI (by omega) (by omega), fun q => ih (fun c hc => ?_), fun q => ⟨⟨hg, i, by omega, rfl, hpa i hi⟩, fun r h => ?_⟩⟩
    · by_cases e : c = i
      · intro z; rw [e] at z; exact absurd q z
      · exact hz c (by omega)
    · have h2 := h i (by omega) rfl
      rw [h2]
      refine ⟨fun z => ih (fun c hc => ?_), fun z => hr _ (zB_0 fun y => z (y i hi q))⟩
      by_cases e : c = i
      · intro _; rw [e]; exact z
      · exact hz c (by omega)
end ZR2
