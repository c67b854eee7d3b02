/-! the grid's points: pure functions over rows, and the class's Grid -/
def zbc (x0 : Int32) : Int32 := (((((((x0 - ((zushr x0 1) &&& 1431655765)) &&& 858993459) + ((zushr (x0 - ((zushr x0 1) &&& 1431655765)) 2) &&& 858993459)) + (zushr (((x0 - ((zushr x0 1) &&& 1431655765)) &&& 858993459) + ((zushr (x0 - ((zushr x0 1) &&& 1431655765)) 2) &&& 858993459)) 4)) &&& 252645135) + (zushr (((((x0 - ((zushr x0 1) &&& 1431655765)) &&& 858993459) + ((zushr (x0 - ((zushr x0 1) &&& 1431655765)) 2) &&& 858993459)) + (zushr (((x0 - ((zushr x0 1) &&& 1431655765)) &&& 858993459) + ((zushr (x0 - ((zushr x0 1) &&& 1431655765)) 2) &&& 858993459)) 4)) &&& 252645135) 8)) + (zushr ((((((x0 - ((zushr x0 1) &&& 1431655765)) &&& 858993459) + ((zushr (x0 - ((zushr x0 1) &&& 1431655765)) 2) &&& 858993459)) + (zushr (((x0 - ((zushr x0 1) &&& 1431655765)) &&& 858993459) + ((zushr (x0 - ((zushr x0 1) &&& 1431655765)) 2) &&& 858993459)) 4)) &&& 252645135) + (zushr (((((x0 - ((zushr x0 1) &&& 1431655765)) &&& 858993459) + ((zushr (x0 - ((zushr x0 1) &&& 1431655765)) 2) &&& 858993459)) + (zushr (((x0 - ((zushr x0 1) &&& 1431655765)) &&& 858993459) + ((zushr (x0 - ((zushr x0 1) &&& 1431655765)) 2) &&& 858993459)) 4)) &&& 252645135) 8)) 16)) &&& 63
def zseen (s k y l p pts : Int32) : Int32 := if s = 0 then k else if s = 1 then y else if s = 2 then l else if s = 3 then zbc p else pts
def zcmp (seen sg num : Int32) : Int32 := if sg = 60 then (if seen < num then 1 else 0) else if sg = 62 then (if num < seen then 1 else 0) else if seen = num then 1 else 0
/-- one test of a line: 1 if it is met (before 'not') -/
def zmet (su sg num k y l p pts : Int32) : Int32 := if su = 5 then (if ((p >>> (num &&& 31)) &&& 1) = 1 then 1 else 0) else zcmp (zseen su k y l p pts) sg num
/-- the first i tests of the line at base hold -/
def zhold (su sg num no : Nat → Int32) (base : Nat) (k y l p pts : Int32) : Nat → Bool
  | 0 => true
  | i + 1 => zhold su sg num no base k y l p pts i && !decide (zmet (su (base + i)) (sg (base + i)) (num (base + i)) k y l p pts = no (base + i))
def zcut (x : Int64) : Int32 := ((if 1000000 < x then 1000000 else x) : Int64).toInt32
def zafter (act am pts : Int32) : Int32 := if act = 1 then zcut (pts.toInt64 + am.toInt64) else if act = 2 then zcut (pts.toInt64 * am.toInt64 / 100) else zcut am.toInt64
/-- points from line on, over d lines -/
def zpf (act am te su sg num no : Nat → Int32) (k y l p : Int32) : Nat → Nat → Int32 → Int32
  | 0, _, pts => pts
  | d + 1, line, pts => if zhold su sg num no (4 * line) k y l p pts (te line).toNatClampNeg = true then (if act line = 3 then 0 else zpf act am te su sg num no k y l p d (line + 1) (zafter (act line) (am line) pts)) else zpf act am te su sg num no k y l p d (line + 1) pts
def zWG (m : zM) (g : Nat) : Prop := (∃ n, n ≤ 16 ∧ zI m 200 g 0 = nI n) ∧ ∀ l, l < 16 → ∃ t, t ≤ 4 ∧ zI m 1203 g l = nI t
def zpg (m : zM) (g : Nat) (k y l p : Int32) : Int32 := zpf (zI m 1201 g) (zI m 1202 g) (zI m 1203 g) (zI m 1204 g) (zI m 1205 g) (zI m 1206 g) (zI m 1207 g) k y l p (zI m 200 g 0).toNatClampNeg 0 0
section ZG
variable {l : Launch} {G : zG}
theorem C_J6_bitCount (hL : zLay G) : Con_J6_bitCount_0f7a4 l G (fun _ _ => True) (fun x _ r => r = zbc x) :=
  con_J6_bitCount_0f7a4 hL fun C Qc S hl x0 m _ hr => sg_J6_bitCount_0f7a4_0 S (hr _ rfl)
theorem C_X2_compares (hL : zLay G) : Con_X2_compares l G (fun _ _ _ _ => True) (fun x0 x1 x2 _ r => r = zcmp x0 x1 x2) :=
  con_X2_compares hL fun C Qc S hl x0 x1 x2 m _ hr => sg_X2_compares_0 S (by
    (repeat' (first | with_reducible apply hr | apply And.intro | intro _)) <;> simp_all [zcmp, Int32.not_le])
theorem C_X2_seenBy (hL : zLay G) : Con_X2_seenBy l G (fun _ _ _ _ _ _ _ => True) (fun s k y l p pts _ r => r = zseen s k y l p pts) :=
  con_X2_seenBy hL fun C Qc S hl x0 x1 x2 x3 x4 x5 m _ hr => sg_X2_seenBy_0 S (C_J6_bitCount hL) (by
    refine ⟨fun h => hr _ ?_, fun h => hr _ ?_, fun h => hr _ ?_, fun h => hr _ ?_, fun h => ⟨trivial, fun r hq => hr _ ?_⟩⟩
    · have n0 : ¬ x0 = 0 := fun q => by rw [q] at h; revert h; decide
      have n1 : ¬ x0 = 1 := fun q => by rw [q] at h; revert h; decide
      have n2 : ¬ x0 = 2 := fun q => by rw [q] at h; revert h; decide
      have n3 : ¬ x0 = 3 := fun q => by rw [q] at h; revert h; decide
      simp [zseen, n0, n1, n2, n3]
    all_goals subst h
    · rfl
    · rfl
    · rfl
    · exact hq)
theorem zmet_b (su sg num k y l p pts : Int32) : zmet su sg num k y l p pts = 0 ∨ zmet su sg num k y l p pts = 1 := by
  unfold zmet zcmp
  repeat' split
  all_goals first | exact Or.inl rfl | exact Or.inr rfl
theorem C_X2_lineHolds (hL : zLay G) : Con_X2_lineHolds l G (fun g x1 _ _ _ _ _ m => ∃ li t, li < 16 ∧ x1 = nI li ∧ t ≤ 4 ∧ zI m 1203 g li = nI t) (fun g x1 k y l p pts m r => r = if zhold (zI m 1204 g) (zI m 1205 g) (zI m 1206 g) (zI m 1207 g) (4 * x1.toNatClampNeg) k y l p pts (zI m 1203 g x1.toNatClampNeg).toNatClampNeg = true then 1 else 0) := by
  refine con_X2_lineHolds hL fun C Qc S hl g x1 k y l p pts m kg hp hr => sg_X2_lineHolds_0 S kg ?_
  obtain ⟨li, t, hli, rfl, ht, ht2⟩ := hp
  rw [nI_clamp (by omega), ht2, nI_clamp (by omega)] at hr
  have key : ∀ i, i ≤ t → zhold (zI m 1204 g) (zI m 1205 g) (zI m 1206 g) (zI m 1207 g) (4 * li) k y l p pts i = true → Pt_X2_lineHolds_3 C G g (nI li) k y l p pts (nI i) m := by
    refine z_loop (P := fun i => zhold (zI m 1204 g) (zI m 1205 g) (zI m 1206 g) (zI m 1207 g) (4 * li) k y l p pts i = true → Pt_X2_lineHolds_3 C G g (nI li) k y l p pts (nI i) m) t (fun hz => ?_) (fun i hi ih hz => ?_)
    · refine sg_X2_lineHolds_3 S (C_X2_seenBy hL) (C_X2_compares hL) kg ⟨vp_in_nI hli (by omega), ?_, ?_⟩
      · intro _; exact hr _ (by rw [hz]; rfl)
      · intro q; rw [nI_clamp (by omega), ht2] at q; exact absurd (nI_le (Nat.le_refl t) (by omega)) q
    · have hidx : nI li * 4 + nI i = nI (4 * li + i) := by
        rw [show (4 : Int32) = nI 4 from rfl, pk_mul, nI_add, Nat.mul_comm]
      have hend : ∀ s0 : Int32, s0 = zmet (zI m 1204 g (4 * li + i)) (zI m 1205 g (4 * li + i)) (zI m 1206 g (4 * li + i)) k y l p pts → Pt_X2_lineHolds_102 C G g (nI li) k y l p pts (nI i) (nI (4 * li + i)) s0 m := by
        intro s0 hs
        refine sg_X2_lineHolds_102 S kg ⟨vp_in_nI (by omega) (by omega), ?_, ?_⟩
        · intro q
          rw [nI_clamp (by omega)] at q
          rw [← nI_succ]
          refine ih ?_
          show (zhold _ _ _ _ _ _ _ _ _ _ i && _) = true
          rw [hz, ← hs]
          simp [q]
        · intro q
          rw [nI_clamp (by omega)] at q
          refine hr _ ?_
          have hno : ∀ d, zhold (zI m 1204 g) (zI m 1205 g) (zI m 1206 g) (zI m 1207 g) (4 * li) k y l p pts (i + 1 + d) = false := by
            intro d
            induction d with
            | zero => show (zhold _ _ _ _ _ _ _ _ _ _ i && _) = false; rw [← hs]; simp [q]
            | succ d ihd => show (zhold _ _ _ _ _ _ _ _ _ _ (i + 1 + d) && _) = false; rw [ihd]; rfl
          have := hno (t - (i + 1))
          rw [show i + 1 + (t - (i + 1)) = t by omega] at this
          rw [this]
          rfl
      refine sg_X2_lineHolds_3 S (C_X2_seenBy hL) (C_X2_compares hL) kg ⟨vp_in_nI hli (by omega), ?_, ?_⟩
      · intro q; rw [nI_clamp (by omega), ht2] at q; exact absurd q (nI_ge hi (by omega))
      · intro _
        refine ⟨fun q => absurd q (zge 4 (by omega)), fun _ => ?_⟩
        rw [hidx, nI_clamp (by omega)]
        refine ⟨vp_in_nI (by omega) (by omega), trivial, ?_⟩
        intro r4 h4
        refine ⟨fun n5 => ⟨trivial, fun r6 h6 => hend r6 ?_⟩, fun e5 => ⟨fun q => hend 0 ?_, fun q => hend 1 ?_⟩⟩
        · rw [h6, h4, zmet, if_neg n5]
        · rw [zmet, if_pos e5, if_neg q]
        · rw [zmet, if_pos e5, if_pos q]
  exact key 0 (Nat.zero_le t) rfl
theorem C_X2_pointsAfter (hL : zLay G) : Con_X2_pointsAfter l G (fun _ x1 _ _ => vp_in x1 16) (fun g x1 pts m r => r = zafter (zI m 1201 g x1.toNatClampNeg) (zI m 1202 g x1.toNatClampNeg) pts) := by
  refine con_X2_pointsAfter hL fun C Qc S hl g x1 pts m kg hp hr => sg_X2_pointsAfter_0 S kg ⟨hp, ?_, ?_⟩
  · intro n1
    refine ⟨fun n2 => hr _ ?_, fun e2 => hr _ ?_⟩
    · rw [zafter, if_neg n1, if_neg n2]; rfl
    · rw [zafter, if_neg n1, if_pos e2]; rfl
  · intro e1
    refine hr _ ?_
    rw [zafter, if_pos e1]; rfl
theorem C_X2_pointsFor (hL : zLay G) : Con_X2_pointsFor l G (fun g _ _ _ _ m => zWG m g) (fun g k y l p m r => r = zpg m g k y l p) := by
  refine con_X2_pointsFor hL fun C Qc S hl g k y la p m kg hp hr => sg_X2_pointsFor_0 S kg ?_
  obtain ⟨⟨n, hn, hn2⟩, ht⟩ := hp
  unfold zpg at hr
  rw [hn2, nI_clamp (by omega)] at hr
  have key : ∀ i, i ≤ n → ∀ pts, zpf (zI m 1201 g) (zI m 1202 g) (zI m 1203 g) (zI m 1204 g) (zI m 1205 g) (zI m 1206 g) (zI m 1207 g) k y la p n 0 0 = zpf (zI m 1201 g) (zI m 1202 g) (zI m 1203 g) (zI m 1204 g) (zI m 1205 g) (zI m 1206 g) (zI m 1207 g) k y la p (n - i) i pts → Pt_X2_pointsFor_6 C G g k y la p pts (nI i) m := by
    refine z_loop (P := fun i => ∀ pts, zpf (zI m 1201 g) (zI m 1202 g) (zI m 1203 g) (zI m 1204 g) (zI m 1205 g) (zI m 1206 g) (zI m 1207 g) k y la p n 0 0 = zpf (zI m 1201 g) (zI m 1202 g) (zI m 1203 g) (zI m 1204 g) (zI m 1205 g) (zI m 1206 g) (zI m 1207 g) k y la p (n - i) i pts → Pt_X2_pointsFor_6 C G g k y la p pts (nI i) m) n (fun pts he => ?_) (fun i hi ih pts he => ?_)
    · refine sg_X2_pointsFor_6 S (C_X2_lineHolds hL) (C_X2_pointsAfter hL) kg ⟨fun _ => hr _ ?_, fun q => ?_⟩
      · rw [he, Nat.sub_self]; rfl
      · rw [hn2] at q; exact absurd (nI_le (Nat.le_refl n) (by omega)) q
    · rw [show n - i = (n - (i + 1)) + 1 by omega, zpf] at he
      refine sg_X2_pointsFor_6 S (C_X2_lineHolds hL) (C_X2_pointsAfter hL) kg ⟨fun q => ?_, fun _ => ⟨fun q => absurd q (zge 16 (by omega)), fun _ => ⟨?_, fun r2 h2 => ⟨fun q => ⟨vp_in_nI (by omega) (by omega), fun q3 => ⟨vp_in_nI (by omega) (by omega), fun r5 h5 => ?_⟩, fun q3 => hr _ ?_⟩, fun q => ?_⟩⟩⟩⟩
      · rw [hn2] at q; exact absurd q (nI_ge hi (by omega))
      · obtain ⟨t, t1, t2⟩ := ht i (by omega)
        exact ⟨i, t, by omega, rfl, t1, t2⟩
      · rw [nI_clamp (by omega)] at h2 q3 h5
        have hz : zhold (zI m 1204 g) (zI m 1205 g) (zI m 1206 g) (zI m 1207 g) (4 * i) k y la p pts (zI m 1203 g i).toNatClampNeg = true := by
          by_cases hz : zhold (zI m 1204 g) (zI m 1205 g) (zI m 1206 g) (zI m 1207 g) (4 * i) k y la p pts (zI m 1203 g i).toNatClampNeg = true
          · exact hz
          · rw [if_neg hz] at h2; exact absurd h2 q
        rw [if_pos hz, if_neg q3] at he
        rw [← nI_succ]
        exact ih r5 (by rw [h5]; exact he)
      · rw [nI_clamp (by omega)] at h2 q3
        have hz : zhold (zI m 1204 g) (zI m 1205 g) (zI m 1206 g) (zI m 1207 g) (4 * i) k y la p pts (zI m 1203 g i).toNatClampNeg = true := by
          by_cases hz : zhold (zI m 1204 g) (zI m 1205 g) (zI m 1206 g) (zI m 1207 g) (4 * i) k y la p pts (zI m 1203 g i).toNatClampNeg = true
          · exact hz
          · rw [if_neg hz] at h2; exact absurd h2 q
        rw [he, if_pos hz, if_pos q3]
      · rw [nI_clamp (by omega)] at h2
        have hz : ¬ zhold (zI m 1204 g) (zI m 1205 g) (zI m 1206 g) (zI m 1207 g) (4 * i) k y la p pts (zI m 1203 g i).toNatClampNeg = true := by
          intro hz
          rw [if_pos hz, q] at h2
          revert h2; decide
        rw [if_neg hz] at he
        rw [← nI_succ]
        exact ih pts he
  exact key 0 (Nat.zero_le n) 0 (by rw [Nat.sub_zero])
end ZG
