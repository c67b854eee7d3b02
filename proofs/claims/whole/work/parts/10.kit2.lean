def z8 (x : Int32) : Int32 := x.toInt8.toInt32
def zushr (x y : Int32) : Int32 := (x.toUInt32 >>> (y.toUInt32 &&& Int32.toUInt32 31)).toInt32
theorem z_fit {f : Nat} {v : Int32} (h : decide (f = 1001 ∨ f = 1601 ∨ f = 9 ∨ f = 1207 ∨ f = 1608 ∨ f = 1649) = false) : zfitv f v := by
  have h2 := of_decide_eq_false h
  exact ⟨fun q => absurd (by omega) h2, fun q => absurd (by omega) h2⟩
theorem z_fit1001 {x : Int32} : zfitv 1001 (z8 x) := ⟨fun _ => by unfold z8; exact pk_fb _, fun h => absurd h (by omega)⟩
theorem z_fit1601 {x : Int32} : zfitv 1601 (z8 x) := ⟨fun _ => by unfold z8; exact pk_fb _, fun h => absurd h (by omega)⟩
theorem z_fitz {f : Nat} {x : Int32} (hf : f = 9 ∨ f = 1207 ∨ f = 1608 ∨ f = 1649 := by decide) (h : x = 0 ∨ x = 1) : zfitv f x := ⟨fun q => absurd q (by omega), fun _ => by rcases h with rfl | rfl <;> rfl⟩
theorem z_nz {x : Int32} (h : x = 0 ∨ x = 1) : vp_nar .boolean x = x := by rcases h with rfl | rfl <;> rfl
theorem z_nb {x : Int32} (h : x = 0 ∨ x = 1) : narrow .boolean (.int x) = .int x := by rcases h with rfl | rfl <;> rfl
theorem z_inlt {x : Int32} {n : Nat} (h : vp_in x n) : x.toNatClampNeg < n := Nat.not_le.mp fun q => h (Or.inr q)
theorem z_out3 {x : Int32} (q0 : ¬ x = 0) (q1 : ¬ x = 1) (q2 : ¬ x = 2) (q3 : ¬ x = 3) : x.toInt < 0 ∨ 3 < x.toInt := by
  have e0 := lv_neT (a := 0) q0 (by decide)
  have e1 := lv_neT (a := 1) q1 (by decide)
  have e2 := lv_neT (a := 2) q2 (by decide)
  have e3 := lv_neT (a := 3) q3 (by decide)
  omega
theorem z_out5 {x : Int32} (q0 : ¬ x = 0) (q1 : ¬ x = 1) (q2 : ¬ x = 2) (q3 : ¬ x = 3) (q4 : ¬ x = 4) (q5 : ¬ x = 5) : x.toInt < 0 ∨ 5 < x.toInt := by
  have e0 := lv_neT (a := 0) q0 (by decide)
  have e1 := lv_neT (a := 1) q1 (by decide)
  have e2 := lv_neT (a := 2) q2 (by decide)
  have e3 := lv_neT (a := 3) q3 (by decide)
  have e4 := lv_neT (a := 4) q4 (by decide)
  have e5 := lv_neT (a := 5) q5 (by decide)
  omega
theorem z_out6 {x : Int32} (q0 : ¬ x = 0) (q1 : ¬ x = 1) (q2 : ¬ x = 2) (q3 : ¬ x = 3) (q4 : ¬ x = 4) (q5 : ¬ x = 5) (q6 : ¬ x = 6) : x.toInt < 0 ∨ 6 < x.toInt := by
  have e0 := lv_neT (a := 0) q0 (by decide)
  have e1 := lv_neT (a := 1) q1 (by decide)
  have e2 := lv_neT (a := 2) q2 (by decide)
  have e3 := lv_neT (a := 3) q3 (by decide)
  have e4 := lv_neT (a := 4) q4 (by decide)
  have e5 := lv_neT (a := 5) q5 (by decide)
  have e6 := lv_neT (a := 6) q6 (by decide)
  omega
theorem z_out11 {x : Int32} (q0 : ¬ x = 0) (q1 : ¬ x = 1) (q2 : ¬ x = 2) (q3 : ¬ x = 3) (q4 : ¬ x = 4) (q5 : ¬ x = 5) (q6 : ¬ x = 6) (q7 : ¬ x = 7) (q8 : ¬ x = 8) (q9 : ¬ x = 9) (q10 : ¬ x = 10) (q11 : ¬ x = 11) : x.toInt < 0 ∨ 11 < x.toInt := by
  have e0 := lv_neT (a := 0) q0 (by decide)
  have e1 := lv_neT (a := 1) q1 (by decide)
  have e2 := lv_neT (a := 2) q2 (by decide)
  have e3 := lv_neT (a := 3) q3 (by decide)
  have e4 := lv_neT (a := 4) q4 (by decide)
  have e5 := lv_neT (a := 5) q5 (by decide)
  have e6 := lv_neT (a := 6) q6 (by decide)
  have e7 := lv_neT (a := 7) q7 (by decide)
  have e8 := lv_neT (a := 8) q8 (by decide)
  have e9 := lv_neT (a := 9) q9 (by decide)
  have e10 := lv_neT (a := 10) q10 (by decide)
  have e11 := lv_neT (a := 11) q11 (by decide)
  omega
theorem z_out22 {x : Int32} (q0 : ¬ x = 0) (q1 : ¬ x = 1) (q2 : ¬ x = 2) (q3 : ¬ x = 3) (q4 : ¬ x = 4) (q5 : ¬ x = 5) (q6 : ¬ x = 6) (q7 : ¬ x = 7) (q8 : ¬ x = 8) (q9 : ¬ x = 9) (q10 : ¬ x = 10) (q11 : ¬ x = 11) (q12 : ¬ x = 12) (q13 : ¬ x = 13) (q14 : ¬ x = 14) (q15 : ¬ x = 15) (q16 : ¬ x = 16) (q17 : ¬ x = 17) (q18 : ¬ x = 18) (q19 : ¬ x = 19) (q20 : ¬ x = 20) (q21 : ¬ x = 21) (q22 : ¬ x = 22) : x.toInt < 0 ∨ 22 < x.toInt := by
  have e0 := lv_neT (a := 0) q0 (by decide)
  have e1 := lv_neT (a := 1) q1 (by decide)
  have e2 := lv_neT (a := 2) q2 (by decide)
  have e3 := lv_neT (a := 3) q3 (by decide)
  have e4 := lv_neT (a := 4) q4 (by decide)
  have e5 := lv_neT (a := 5) q5 (by decide)
  have e6 := lv_neT (a := 6) q6 (by decide)
  have e7 := lv_neT (a := 7) q7 (by decide)
  have e8 := lv_neT (a := 8) q8 (by decide)
  have e9 := lv_neT (a := 9) q9 (by decide)
  have e10 := lv_neT (a := 10) q10 (by decide)
  have e11 := lv_neT (a := 11) q11 (by decide)
  have e12 := lv_neT (a := 12) q12 (by decide)
  have e13 := lv_neT (a := 13) q13 (by decide)
  have e14 := lv_neT (a := 14) q14 (by decide)
  have e15 := lv_neT (a := 15) q15 (by decide)
  have e16 := lv_neT (a := 16) q16 (by decide)
  have e17 := lv_neT (a := 17) q17 (by decide)
  have e18 := lv_neT (a := 18) q18 (by decide)
  have e19 := lv_neT (a := 19) q19 (by decide)
  have e20 := lv_neT (a := 20) q20 (by decide)
  have e21 := lv_neT (a := 21) q21 (by decide)
  have e22 := lv_neT (a := 22) q22 (by decide)
  omega
theorem zL_0_1 {G : zG} (hL : zLay G) {o : Nat} (h : zK G o = some (0, o)) : zK G (o + 1) = some (1001, o) := hL.2.2 0 o h (1, 1001) (by decide)
theorem zL_0_10 {G : zG} (hL : zLay G) {o : Nat} (h : zK G o = some (0, o)) : zK G (o + 10) = some (1006, o) := hL.2.2 0 o h (10, 1006) (by decide)
theorem zL_1_1 {G : zG} (hL : zLay G) {o : Nat} (h : zK G o = some (1, o)) : zK G (o + 1) = some (3, o + 1) := hL.2.2 1 o h (1, 3) (by decide)
theorem zL_2_1 {G : zG} (hL : zLay G) {o : Nat} (h : zK G o = some (2, o)) : zK G (o + 1) = some (1201, o) := hL.2.2 2 o h (1, 1201) (by decide)
theorem zL_2_2 {G : zG} (hL : zLay G) {o : Nat} (h : zK G o = some (2, o)) : zK G (o + 2) = some (1202, o) := hL.2.2 2 o h (2, 1202) (by decide)
theorem zL_2_3 {G : zG} (hL : zLay G) {o : Nat} (h : zK G o = some (2, o)) : zK G (o + 3) = some (1203, o) := hL.2.2 2 o h (3, 1203) (by decide)
theorem zL_2_4 {G : zG} (hL : zLay G) {o : Nat} (h : zK G o = some (2, o)) : zK G (o + 4) = some (1204, o) := hL.2.2 2 o h (4, 1204) (by decide)
theorem zL_2_5 {G : zG} (hL : zLay G) {o : Nat} (h : zK G o = some (2, o)) : zK G (o + 5) = some (1205, o) := hL.2.2 2 o h (5, 1205) (by decide)
theorem zL_2_6 {G : zG} (hL : zLay G) {o : Nat} (h : zK G o = some (2, o)) : zK G (o + 6) = some (1206, o) := hL.2.2 2 o h (6, 1206) (by decide)
theorem zL_2_7 {G : zG} (hL : zLay G) {o : Nat} (h : zK G o = some (2, o)) : zK G (o + 7) = some (1207, o) := hL.2.2 2 o h (7, 1207) (by decide)
theorem zL_3_1 {G : zG} (hL : zLay G) {o : Nat} (h : zK G o = some (3, o)) : zK G (o + 1) = some (1306, o) := hL.2.2 3 o h (1, 1306) (by decide)
theorem zL_3_2 {G : zG} (hL : zLay G) {o : Nat} (h : zK G o = some (3, o)) : zK G (o + 2) = some (1307, o) := hL.2.2 3 o h (2, 1307) (by decide)
theorem zL_3_3 {G : zG} (hL : zLay G) {o : Nat} (h : zK G o = some (3, o)) : zK G (o + 3) = some (1308, o) := hL.2.2 3 o h (3, 1308) (by decide)
theorem zL_3_4 {G : zG} (hL : zLay G) {o : Nat} (h : zK G o = some (3, o)) : zK G (o + 4) = some (1309, o) := hL.2.2 3 o h (4, 1309) (by decide)
theorem zL_3_5 {G : zG} (hL : zLay G) {o : Nat} (h : zK G o = some (3, o)) : zK G (o + 5) = some (1310, o) := hL.2.2 3 o h (5, 1310) (by decide)
theorem zL_5_1 {G : zG} (hL : zLay G) {o : Nat} (h : zK G o = some (5, o)) : zK G (o + 1) = some (0, o + 1) := hL.2.2 5 o h (1, 0) (by decide)
theorem zL_5_124 {G : zG} (hL : zLay G) {o : Nat} (h : zK G o = some (5, o)) : zK G (o + 124) = some (1501, o) := hL.2.2 5 o h (124, 1501) (by decide)
theorem zL_6_1 {G : zG} (hL : zLay G) {o : Nat} (h : zK G o = some (6, o)) : zK G (o + 1) = some (1601, o) := hL.2.2 6 o h (1, 1601) (by decide)
theorem zL_6_2 {G : zG} (hL : zLay G) {o : Nat} (h : zK G o = some (6, o)) : zK G (o + 2) = some (1602, o) := hL.2.2 6 o h (2, 1602) (by decide)
theorem zL_6_3 {G : zG} (hL : zLay G) {o : Nat} (h : zK G o = some (6, o)) : zK G (o + 3) = some (1603, o) := hL.2.2 6 o h (3, 1603) (by decide)
theorem zL_6_4 {G : zG} (hL : zLay G) {o : Nat} (h : zK G o = some (6, o)) : zK G (o + 4) = some (1604, o) := hL.2.2 6 o h (4, 1604) (by decide)
theorem zL_6_5 {G : zG} (hL : zLay G) {o : Nat} (h : zK G o = some (6, o)) : zK G (o + 5) = some (1605, o) := hL.2.2 6 o h (5, 1605) (by decide)
theorem zL_6_6 {G : zG} (hL : zLay G) {o : Nat} (h : zK G o = some (6, o)) : zK G (o + 6) = some (1606, o) := hL.2.2 6 o h (6, 1606) (by decide)
theorem zL_6_7 {G : zG} (hL : zLay G) {o : Nat} (h : zK G o = some (6, o)) : zK G (o + 7) = some (1607, o) := hL.2.2 6 o h (7, 1607) (by decide)
theorem zL_6_8 {G : zG} (hL : zLay G) {o : Nat} (h : zK G o = some (6, o)) : zK G (o + 8) = some (1608, o) := hL.2.2 6 o h (8, 1608) (by decide)
theorem zL_6_9 {G : zG} (hL : zLay G) {o : Nat} (h : zK G o = some (6, o)) : zK G (o + 9) = some (1609, o) := hL.2.2 6 o h (9, 1609) (by decide)
theorem zL_6_10 {G : zG} (hL : zLay G) {o : Nat} (h : zK G o = some (6, o)) : zK G (o + 10) = some (1610, o) := hL.2.2 6 o h (10, 1610) (by decide)
theorem zL_6_11 {G : zG} (hL : zLay G) {o : Nat} (h : zK G o = some (6, o)) : zK G (o + 11) = some (1611, o) := hL.2.2 6 o h (11, 1611) (by decide)
theorem zL_6_12 {G : zG} (hL : zLay G) {o : Nat} (h : zK G o = some (6, o)) : zK G (o + 12) = some (1612, o) := hL.2.2 6 o h (12, 1612) (by decide)
theorem zL_6_13 {G : zG} (hL : zLay G) {o : Nat} (h : zK G o = some (6, o)) : zK G (o + 13) = some (1613, o) := hL.2.2 6 o h (13, 1613) (by decide)
theorem zL_6_14 {G : zG} (hL : zLay G) {o : Nat} (h : zK G o = some (6, o)) : zK G (o + 14) = some (1614, o) := hL.2.2 6 o h (14, 1614) (by decide)
theorem zL_6_15 {G : zG} (hL : zLay G) {o : Nat} (h : zK G o = some (6, o)) : zK G (o + 15) = some (1615, o) := hL.2.2 6 o h (15, 1615) (by decide)
theorem zL_6_16 {G : zG} (hL : zLay G) {o : Nat} (h : zK G o = some (6, o)) : zK G (o + 16) = some (1616, o) := hL.2.2 6 o h (16, 1616) (by decide)
theorem zL_6_17 {G : zG} (hL : zLay G) {o : Nat} (h : zK G o = some (6, o)) : zK G (o + 17) = some (1617, o) := hL.2.2 6 o h (17, 1617) (by decide)
theorem zL_6_18 {G : zG} (hL : zLay G) {o : Nat} (h : zK G o = some (6, o)) : zK G (o + 18) = some (1618, o) := hL.2.2 6 o h (18, 1618) (by decide)
theorem zL_6_19 {G : zG} (hL : zLay G) {o : Nat} (h : zK G o = some (6, o)) : zK G (o + 19) = some (1619, o) := hL.2.2 6 o h (19, 1619) (by decide)
theorem zL_6_20 {G : zG} (hL : zLay G) {o : Nat} (h : zK G o = some (6, o)) : zK G (o + 20) = some (1620, o) := hL.2.2 6 o h (20, 1620) (by decide)
theorem zL_6_21 {G : zG} (hL : zLay G) {o : Nat} (h : zK G o = some (6, o)) : zK G (o + 21) = some (1621, o) := hL.2.2 6 o h (21, 1621) (by decide)
theorem zL_6_22 {G : zG} (hL : zLay G) {o : Nat} (h : zK G o = some (6, o)) : zK G (o + 22) = some (1622, o) := hL.2.2 6 o h (22, 1622) (by decide)
theorem zL_6_23 {G : zG} (hL : zLay G) {o : Nat} (h : zK G o = some (6, o)) : zK G (o + 23) = some (1623, o) := hL.2.2 6 o h (23, 1623) (by decide)
theorem zL_6_24 {G : zG} (hL : zLay G) {o : Nat} (h : zK G o = some (6, o)) : zK G (o + 24) = some (1624, o) := hL.2.2 6 o h (24, 1624) (by decide)
theorem zL_6_25 {G : zG} (hL : zLay G) {o : Nat} (h : zK G o = some (6, o)) : zK G (o + 25) = some (1635, o) := hL.2.2 6 o h (25, 1635) (by decide)
theorem zL_6_26 {G : zG} (hL : zLay G) {o : Nat} (h : zK G o = some (6, o)) : zK G (o + 26) = some (1636, o) := hL.2.2 6 o h (26, 1636) (by decide)
theorem zL_6_27 {G : zG} (hL : zLay G) {o : Nat} (h : zK G o = some (6, o)) : zK G (o + 27) = some (1637, o) := hL.2.2 6 o h (27, 1637) (by decide)
theorem zL_6_28 {G : zG} (hL : zLay G) {o : Nat} (h : zK G o = some (6, o)) : zK G (o + 28) = some (1638, o) := hL.2.2 6 o h (28, 1638) (by decide)
theorem zL_6_29 {G : zG} (hL : zLay G) {o : Nat} (h : zK G o = some (6, o)) : zK G (o + 29) = some (1639, o) := hL.2.2 6 o h (29, 1639) (by decide)
theorem zL_6_30 {G : zG} (hL : zLay G) {o : Nat} (h : zK G o = some (6, o)) : zK G (o + 30) = some (1640, o) := hL.2.2 6 o h (30, 1640) (by decide)
theorem zL_6_31 {G : zG} (hL : zLay G) {o : Nat} (h : zK G o = some (6, o)) : zK G (o + 31) = some (1642, o) := hL.2.2 6 o h (31, 1642) (by decide)
theorem zL_6_32 {G : zG} (hL : zLay G) {o : Nat} (h : zK G o = some (6, o)) : zK G (o + 32) = some (1643, o) := hL.2.2 6 o h (32, 1643) (by decide)
theorem zL_6_33 {G : zG} (hL : zLay G) {o : Nat} (h : zK G o = some (6, o)) : zK G (o + 33) = some (1644, o) := hL.2.2 6 o h (33, 1644) (by decide)
theorem zL_6_34 {G : zG} (hL : zLay G) {o : Nat} (h : zK G o = some (6, o)) : zK G (o + 34) = some (1645, o) := hL.2.2 6 o h (34, 1645) (by decide)
theorem zL_6_35 {G : zG} (hL : zLay G) {o : Nat} (h : zK G o = some (6, o)) : zK G (o + 35) = some (1646, o) := hL.2.2 6 o h (35, 1646) (by decide)
theorem zL_6_36 {G : zG} (hL : zLay G) {o : Nat} (h : zK G o = some (6, o)) : zK G (o + 36) = some (1647, o) := hL.2.2 6 o h (36, 1647) (by decide)
theorem zL_6_37 {G : zG} (hL : zLay G) {o : Nat} (h : zK G o = some (6, o)) : zK G (o + 37) = some (1648, o) := hL.2.2 6 o h (37, 1648) (by decide)
theorem zL_6_38 {G : zG} (hL : zLay G) {o : Nat} (h : zK G o = some (6, o)) : zK G (o + 38) = some (1649, o) := hL.2.2 6 o h (38, 1649) (by decide)
theorem zL_claim {G : zG} (hL : zLay G) {o j : Nat} (h : zK G o = some (0, o)) (hj : j < 16) : zK G (o + 11 + 7 * j) = some (1, o + 11 + 7 * j) := by
  have h1 := hL.2.2 0 o h (11 + 7 * j, 1) (by
    show _ ∈ ([(1, 1001), (10, 1006)] ++ (List.range 16).map (fun i => (11 + 7 * i, 1)) : List (Nat × Nat))
    exact List.mem_append_right _ (List.mem_map.mpr ⟨j, List.mem_range.mpr hj, rfl⟩))
  have e : o + 11 + 7 * j = o + (11 + 7 * j) := by omega
  rw [e]
  exact h1
section ZR2
variable {C : zC} {G : zG} {cc : ByteArray} {nL : Nat} {Ts : List Cond} {own : String} {k n pc : Nat} {L : List (Nat × Value)} {rest : List Value} {m : zM} {P : Heap → Prop}
theorem zx_wt {st : List Value} (h : zWT G m → zX C nL k n pc L st (zPic G m)) : zX C nL k n pc L st (zPic G m) := fun H locs ls hP hS hl => h hP.2.2 H locs ls hP hS hl
theorem z_agI {c f o : Nat} {v : Int32} {j : Nat} (hf : zkf f = zkey c) : ∀ c' o', (zkey c ≠ zkey c' ∨ o' ≠ o) → zag c' o' (zsI m f o j v) m := fun c' o' h => zag_sI (by rw [hf]; exact h)
theorem z_agJ {c f o : Nat} {v : Int64} {j : Nat} (hf : zkf f = zkey c) : ∀ c' o', (zkey c ≠ zkey c' ∨ o' ≠ o) → zag c' o' (zsJ m f o j v) m := fun c' o' h => zag_sJ (by rw [hf]; exact h)
theorem z_agR {c f o : Nat} {v : Nat} (hf : zkf f = zkey c) : ∀ c' o', (zkey c ≠ zkey c' ∨ o' ≠ o) → zag c' o' (zsR m f o v) m := fun c' o' h => zag_sR (by rw [hf]; exact h)
theorem z_agcI {c f o : Nat} {g : Nat → Int32} (hf : zkf f = zkey c) : ∀ c' o', (zkey c ≠ zkey c' ∨ o' ≠ o) → zag c' o' (zcI m f o g) m := fun c' o' h => zag_cI (by rw [hf]; exact h)
theorem z_agcJ {c f o : Nat} {g : Nat → Int64} (hf : zkf f = zkey c) : ∀ c' o', (zkey c ≠ zkey c' ∨ o' ≠ o) → zag c' o' (zcJ m f o g) m := fun c' o' h => zag_cJ (by rw [hf]; exact h)
theorem zp_0 (hF : zF C G cc nL Ts own) {o idx : Nat} {x : Int64} (hk : zK G o = some (0, o)) (hin : ∀ w ∈ u_ws RX0 TX0 10, w ∈ Ts) (hlink : Cond.fieldLink own idx RX0 (TX0 0).2.1 (TX0 0).2.2.1 ∈ Ts) (hdg : decode cc pc = .ok (.putfield idx, 3)) (K : zX C nL k n (pc + 3) L rest (zPic G (zsJ m 0 o 0 x))) : zX C nL k n pc L (.long x :: .ref o :: rest) (zPic G m) :=
  zx_put (m' := zsJ m 0 o 0 x) (ty := .long) hF hk (by decide) rfl hin tyX0_ok nmX0 0 (by decide) hlink rfl rfl (by decide +kernel) rfl rfl (by simp [zfs, zfs0, zI_sI, zJ_sI, zR_sI, zI_sJ, zJ_sJ, zR_sJ, zI_sR, zJ_sR, zR_sR]) (Nat.le_of_ble_eq_true rfl) (z_agJ rfl) zWT_sJ hdg K
theorem zp_2 (hF : zF C G cc nL Ts own) {o idx : Nat} {x : Int32} (hk : zK G o = some (0, o)) (hin : ∀ w ∈ u_ws RX0 TX0 10, w ∈ Ts) (hlink : Cond.fieldLink own idx RX0 (TX0 2).2.1 (TX0 2).2.2.1 ∈ Ts) (hdg : decode cc pc = .ok (.putfield idx, 3)) (K : zX C nL k n (pc + 3) L rest (zPic G (zsI m 2 o 0 x))) : zX C nL k n pc L (.int x :: .ref o :: rest) (zPic G m) :=
  zx_put (m' := zsI m 2 o 0 x) (ty := .int) hF hk (by decide) rfl hin tyX0_ok nmX0 2 (by decide) hlink rfl rfl (by decide +kernel) rfl rfl (by simp [zfs, zfs0, zI_sI, zJ_sI, zR_sI, zI_sJ, zJ_sJ, zR_sJ, zI_sR, zJ_sR, zR_sR]) (Nat.le_of_ble_eq_true rfl) (z_agI rfl) (fun h => zWT_sI h (z_fit rfl)) hdg K
theorem zp_3 (hF : zF C G cc nL Ts own) {o idx : Nat} {x : Nat} (hk : zK G o = some (0, o)) (hin : ∀ w ∈ u_ws RX0 TX0 10, w ∈ Ts) (hlink : Cond.fieldLink own idx RX0 (TX0 3).2.1 (TX0 3).2.2.1 ∈ Ts) (hx : zK G x = some (2, x)) (hdg : decode cc pc = .ok (.putfield idx, 3)) (K : zX C nL k n (pc + 3) L rest (zPic G (zsR m 3 o x))) : zX C nL k n pc L (.ref x :: .ref o :: rest) (zPic G m) :=
  zx_put (m' := zsR m 3 o x) (ty := (.object "ClaimsFund$Grid")) hF hk (by decide) rfl hin tyX0_ok nmX0 3 (by decide) hlink rfl rfl (by decide +kernel) rfl rfl (by simp [zfs, zfs0, zI_sI, zJ_sI, zR_sI, zI_sJ, zJ_sJ, zR_sJ, zI_sR, zJ_sR, zR_sR]) (Nat.le_of_ble_eq_true rfl) (z_agR rfl) (fun h => zWT_rules h hx) hdg K
theorem zp_4 (hF : zF C G cc nL Ts own) {o idx : Nat} {x : Int32} (hk : zK G o = some (0, o)) (hin : ∀ w ∈ u_ws RX0 TX0 10, w ∈ Ts) (hlink : Cond.fieldLink own idx RX0 (TX0 4).2.1 (TX0 4).2.2.1 ∈ Ts) (hdg : decode cc pc = .ok (.putfield idx, 3)) (K : zX C nL k n (pc + 3) L rest (zPic G (zsI m 4 o 0 x))) : zX C nL k n pc L (.int x :: .ref o :: rest) (zPic G m) :=
  zx_put (m' := zsI m 4 o 0 x) (ty := .int) hF hk (by decide) rfl hin tyX0_ok nmX0 4 (by decide) hlink rfl rfl (by decide +kernel) rfl rfl (by simp [zfs, zfs0, zI_sI, zJ_sI, zR_sI, zI_sJ, zJ_sJ, zR_sJ, zI_sR, zJ_sR, zR_sR]) (Nat.le_of_ble_eq_true rfl) (z_agI rfl) (fun h => zWT_sI h (z_fit rfl)) hdg K
theorem zp_5 (hF : zF C G cc nL Ts own) {o idx : Nat} {x : Int32} (hk : zK G o = some (0, o)) (hin : ∀ w ∈ u_ws RX0 TX0 10, w ∈ Ts) (hlink : Cond.fieldLink own idx RX0 (TX0 5).2.1 (TX0 5).2.2.1 ∈ Ts) (hdg : decode cc pc = .ok (.putfield idx, 3)) (K : zX C nL k n (pc + 3) L rest (zPic G (zsI m 5 o 0 x))) : zX C nL k n pc L (.int x :: .ref o :: rest) (zPic G m) :=
  zx_put (m' := zsI m 5 o 0 x) (ty := .int) hF hk (by decide) rfl hin tyX0_ok nmX0 5 (by decide) hlink rfl rfl (by decide +kernel) rfl rfl (by simp [zfs, zfs0, zI_sI, zJ_sI, zR_sI, zI_sJ, zJ_sJ, zR_sJ, zI_sR, zJ_sR, zR_sR]) (Nat.le_of_ble_eq_true rfl) (z_agI rfl) (fun h => zWT_sI h (z_fit rfl)) hdg K
theorem zp_7 (hF : zF C G cc nL Ts own) {o idx : Nat} {x : Int32} (hk : zK G o = some (0, o)) (hin : ∀ w ∈ u_ws RX0 TX0 10, w ∈ Ts) (hlink : Cond.fieldLink own idx RX0 (TX0 7).2.1 (TX0 7).2.2.1 ∈ Ts) (hdg : decode cc pc = .ok (.putfield idx, 3)) (K : zX C nL k n (pc + 3) L rest (zPic G (zsI m 7 o 0 x))) : zX C nL k n pc L (.int x :: .ref o :: rest) (zPic G m) :=
  zx_put (m' := zsI m 7 o 0 x) (ty := .int) hF hk (by decide) rfl hin tyX0_ok nmX0 7 (by decide) hlink rfl rfl (by decide +kernel) rfl rfl (by simp [zfs, zfs0, zI_sI, zJ_sI, zR_sI, zI_sJ, zJ_sJ, zR_sJ, zI_sR, zJ_sR, zR_sR]) (Nat.le_of_ble_eq_true rfl) (z_agI rfl) (fun h => zWT_sI h (z_fit rfl)) hdg K
theorem zp_8 (hF : zF C G cc nL Ts own) {o idx : Nat} {x : Int32} (hk : zK G o = some (0, o)) (hin : ∀ w ∈ u_ws RX0 TX0 10, w ∈ Ts) (hlink : Cond.fieldLink own idx RX0 (TX0 8).2.1 (TX0 8).2.2.1 ∈ Ts) (hdg : decode cc pc = .ok (.putfield idx, 3)) (K : zX C nL k n (pc + 3) L rest (zPic G (zsI m 8 o 0 x))) : zX C nL k n pc L (.int x :: .ref o :: rest) (zPic G m) :=
  zx_put (m' := zsI m 8 o 0 x) (ty := .int) hF hk (by decide) rfl hin tyX0_ok nmX0 8 (by decide) hlink rfl rfl (by decide +kernel) rfl rfl (by simp [zfs, zfs0, zI_sI, zJ_sI, zR_sI, zI_sJ, zJ_sJ, zR_sJ, zI_sR, zJ_sR, zR_sR]) (Nat.le_of_ble_eq_true rfl) (z_agI rfl) (fun h => zWT_sI h (z_fit rfl)) hdg K
theorem zp_9 (hF : zF C G cc nL Ts own) {o idx : Nat} {x : Int32} (hk : zK G o = some (0, o)) (hin : ∀ w ∈ u_ws RX0 TX0 10, w ∈ Ts) (hlink : Cond.fieldLink own idx RX0 (TX0 9).2.1 (TX0 9).2.2.1 ∈ Ts) (hx : x = 0 ∨ x = 1) (hdg : decode cc pc = .ok (.putfield idx, 3)) (K : zX C nL k n (pc + 3) L rest (zPic G (zsI m 9 o 0 x))) : zX C nL k n pc L (.int x :: .ref o :: rest) (zPic G m) :=
  zx_put (m' := zsI m 9 o 0 x) (ty := .boolean) hF hk (by decide) rfl hin tyX0_ok nmX0 9 (by decide) hlink rfl rfl (by decide +kernel) (z_nb hx) (by rcases hx with rfl | rfl <;> rfl) (by simp [zfs, zfs0, zI_sI, zJ_sI, zR_sI, zI_sJ, zJ_sJ, zR_sJ, zI_sR, zJ_sR, zR_sR]) (Nat.le_of_ble_eq_true rfl) (z_agI rfl) (fun h => zWT_sI h (z_fitz (h := hx))) hdg K
theorem zp_100 (hF : zF C G cc nL Ts own) {o idx : Nat} {x : Int32} (hk : zK G o = some (1, o)) (hin : ∀ w ∈ u_ws RX1 TX1 9, w ∈ Ts) (hlink : Cond.fieldLink own idx RX1 (TX1 0).2.1 (TX1 0).2.2.1 ∈ Ts) (hdg : decode cc pc = .ok (.putfield idx, 3)) (K : zX C nL k n (pc + 3) L rest (zPic G (zsI m 100 o 0 x))) : zX C nL k n pc L (.int x :: .ref o :: rest) (zPic G m) :=
  zx_put (m' := zsI m 100 o 0 x) (ty := .int) hF hk (by decide) rfl hin tyX1_ok nmX1 0 (by decide) hlink rfl rfl (by decide +kernel) rfl rfl (by simp [zfs, zfs1, zI_sI, zJ_sI, zR_sI, zI_sJ, zJ_sJ, zR_sJ, zI_sR, zJ_sR, zR_sR]) (Nat.le_of_ble_eq_true rfl) (z_agI rfl) (fun h => zWT_sI h (z_fit rfl)) hdg K
theorem zp_101 (hF : zF C G cc nL Ts own) {o idx : Nat} {x : Int32} (hk : zK G o = some (1, o)) (hin : ∀ w ∈ u_ws RX1 TX1 9, w ∈ Ts) (hlink : Cond.fieldLink own idx RX1 (TX1 1).2.1 (TX1 1).2.2.1 ∈ Ts) (hdg : decode cc pc = .ok (.putfield idx, 3)) (K : zX C nL k n (pc + 3) L rest (zPic G (zsI m 101 o 0 x))) : zX C nL k n pc L (.int x :: .ref o :: rest) (zPic G m) :=
  zx_put (m' := zsI m 101 o 0 x) (ty := .int) hF hk (by decide) rfl hin tyX1_ok nmX1 1 (by decide) hlink rfl rfl (by decide +kernel) rfl rfl (by simp [zfs, zfs1, zI_sI, zJ_sI, zR_sI, zI_sJ, zJ_sJ, zR_sJ, zI_sR, zJ_sR, zR_sR]) (Nat.le_of_ble_eq_true rfl) (z_agI rfl) (fun h => zWT_sI h (z_fit rfl)) hdg K
theorem zp_102 (hF : zF C G cc nL Ts own) {o idx : Nat} {x : Int32} (hk : zK G o = some (1, o)) (hin : ∀ w ∈ u_ws RX1 TX1 9, w ∈ Ts) (hlink : Cond.fieldLink own idx RX1 (TX1 2).2.1 (TX1 2).2.2.1 ∈ Ts) (hdg : decode cc pc = .ok (.putfield idx, 3)) (K : zX C nL k n (pc + 3) L rest (zPic G (zsI m 102 o 0 x))) : zX C nL k n pc L (.int x :: .ref o :: rest) (zPic G m) :=
  zx_put (m' := zsI m 102 o 0 x) (ty := .int) hF hk (by decide) rfl hin tyX1_ok nmX1 2 (by decide) hlink rfl rfl (by decide +kernel) rfl rfl (by simp [zfs, zfs1, zI_sI, zJ_sI, zR_sI, zI_sJ, zJ_sJ, zR_sJ, zI_sR, zJ_sR, zR_sR]) (Nat.le_of_ble_eq_true rfl) (z_agI rfl) (fun h => zWT_sI h (z_fit rfl)) hdg K
theorem zp_103 (hF : zF C G cc nL Ts own) {o idx : Nat} {x : Int32} (hk : zK G o = some (1, o)) (hin : ∀ w ∈ u_ws RX1 TX1 9, w ∈ Ts) (hlink : Cond.fieldLink own idx RX1 (TX1 3).2.1 (TX1 3).2.2.1 ∈ Ts) (hdg : decode cc pc = .ok (.putfield idx, 3)) (K : zX C nL k n (pc + 3) L rest (zPic G (zsI m 103 o 0 x))) : zX C nL k n pc L (.int x :: .ref o :: rest) (zPic G m) :=
  zx_put (m' := zsI m 103 o 0 x) (ty := .int) hF hk (by decide) rfl hin tyX1_ok nmX1 3 (by decide) hlink rfl rfl (by decide +kernel) rfl rfl (by simp [zfs, zfs1, zI_sI, zJ_sI, zR_sI, zI_sJ, zJ_sJ, zR_sJ, zI_sR, zJ_sR, zR_sR]) (Nat.le_of_ble_eq_true rfl) (z_agI rfl) (fun h => zWT_sI h (z_fit rfl)) hdg K
theorem zp_104 (hF : zF C G cc nL Ts own) {o idx : Nat} {x : Int32} (hk : zK G o = some (1, o)) (hin : ∀ w ∈ u_ws RX1 TX1 9, w ∈ Ts) (hlink : Cond.fieldLink own idx RX1 (TX1 4).2.1 (TX1 4).2.2.1 ∈ Ts) (hdg : decode cc pc = .ok (.putfield idx, 3)) (K : zX C nL k n (pc + 3) L rest (zPic G (zsI m 104 o 0 x))) : zX C nL k n pc L (.int x :: .ref o :: rest) (zPic G m) :=
  zx_put (m' := zsI m 104 o 0 x) (ty := .int) hF hk (by decide) rfl hin tyX1_ok nmX1 4 (by decide) hlink rfl rfl (by decide +kernel) rfl rfl (by simp [zfs, zfs1, zI_sI, zJ_sI, zR_sI, zI_sJ, zJ_sJ, zR_sJ, zI_sR, zJ_sR, zR_sR]) (Nat.le_of_ble_eq_true rfl) (z_agI rfl) (fun h => zWT_sI h (z_fit rfl)) hdg K
theorem zp_105 (hF : zF C G cc nL Ts own) {o idx : Nat} {x : Int32} (hk : zK G o = some (1, o)) (hin : ∀ w ∈ u_ws RX1 TX1 9, w ∈ Ts) (hlink : Cond.fieldLink own idx RX1 (TX1 5).2.1 (TX1 5).2.2.1 ∈ Ts) (hdg : decode cc pc = .ok (.putfield idx, 3)) (K : zX C nL k n (pc + 3) L rest (zPic G (zsI m 105 o 0 x))) : zX C nL k n pc L (.int x :: .ref o :: rest) (zPic G m) :=
  zx_put (m' := zsI m 105 o 0 x) (ty := .int) hF hk (by decide) rfl hin tyX1_ok nmX1 5 (by decide) hlink rfl rfl (by decide +kernel) rfl rfl (by simp [zfs, zfs1, zI_sI, zJ_sI, zR_sI, zI_sJ, zJ_sJ, zR_sJ, zI_sR, zJ_sR, zR_sR]) (Nat.le_of_ble_eq_true rfl) (z_agI rfl) (fun h => zWT_sI h (z_fit rfl)) hdg K
theorem zp_106 (hF : zF C G cc nL Ts own) {o idx : Nat} {x : Int32} (hk : zK G o = some (1, o)) (hin : ∀ w ∈ u_ws RX1 TX1 9, w ∈ Ts) (hlink : Cond.fieldLink own idx RX1 (TX1 6).2.1 (TX1 6).2.2.1 ∈ Ts) (hdg : decode cc pc = .ok (.putfield idx, 3)) (K : zX C nL k n (pc + 3) L rest (zPic G (zsI m 106 o 0 x))) : zX C nL k n pc L (.int x :: .ref o :: rest) (zPic G m) :=
  zx_put (m' := zsI m 106 o 0 x) (ty := .int) hF hk (by decide) rfl hin tyX1_ok nmX1 6 (by decide) hlink rfl rfl (by decide +kernel) rfl rfl (by simp [zfs, zfs1, zI_sI, zJ_sI, zR_sI, zI_sJ, zJ_sJ, zR_sJ, zI_sR, zJ_sR, zR_sR]) (Nat.le_of_ble_eq_true rfl) (z_agI rfl) (fun h => zWT_sI h (z_fit rfl)) hdg K
theorem zp_107 (hF : zF C G cc nL Ts own) {o idx : Nat} {x : Int32} (hk : zK G o = some (1, o)) (hin : ∀ w ∈ u_ws RX1 TX1 9, w ∈ Ts) (hlink : Cond.fieldLink own idx RX1 (TX1 7).2.1 (TX1 7).2.2.1 ∈ Ts) (hdg : decode cc pc = .ok (.putfield idx, 3)) (K : zX C nL k n (pc + 3) L rest (zPic G (zsI m 107 o 0 x))) : zX C nL k n pc L (.int x :: .ref o :: rest) (zPic G m) :=
  zx_put (m' := zsI m 107 o 0 x) (ty := .int) hF hk (by decide) rfl hin tyX1_ok nmX1 7 (by decide) hlink rfl rfl (by decide +kernel) rfl rfl (by simp [zfs, zfs1, zI_sI, zJ_sI, zR_sI, zI_sJ, zJ_sJ, zR_sJ, zI_sR, zJ_sR, zR_sR]) (Nat.le_of_ble_eq_true rfl) (z_agI rfl) (fun h => zWT_sI h (z_fit rfl)) hdg K
theorem zp_200 (hF : zF C G cc nL Ts own) {o idx : Nat} {x : Int32} (hk : zK G o = some (2, o)) (hin : ∀ w ∈ u_ws RX2 TX2 8, w ∈ Ts) (hlink : Cond.fieldLink own idx RX2 (TX2 0).2.1 (TX2 0).2.2.1 ∈ Ts) (hdg : decode cc pc = .ok (.putfield idx, 3)) (K : zX C nL k n (pc + 3) L rest (zPic G (zsI m 200 o 0 x))) : zX C nL k n pc L (.int x :: .ref o :: rest) (zPic G m) :=
  zx_put (m' := zsI m 200 o 0 x) (ty := .int) hF hk (by decide) rfl hin tyX2_ok nmX2 0 (by decide) hlink rfl rfl (by decide +kernel) rfl rfl (by simp [zfs, zfs2, zI_sI, zJ_sI, zR_sI, zI_sJ, zJ_sJ, zR_sJ, zI_sR, zJ_sR, zR_sR]) (Nat.le_of_ble_eq_true rfl) (z_agI rfl) (fun h => zWT_sI h (z_fit rfl)) hdg K
theorem zp_300 (hF : zF C G cc nL Ts own) {o idx : Nat} {x : Int32} (hk : zK G o = some (3, o)) (hin : ∀ w ∈ u_ws RX3 TX3 11, w ∈ Ts) (hlink : Cond.fieldLink own idx RX3 (TX3 0).2.1 (TX3 0).2.2.1 ∈ Ts) (hdg : decode cc pc = .ok (.putfield idx, 3)) (K : zX C nL k n (pc + 3) L rest (zPic G (zsI m 300 o 0 x))) : zX C nL k n pc L (.int x :: .ref o :: rest) (zPic G m) :=
  zx_put (m' := zsI m 300 o 0 x) (ty := .int) hF hk (by decide) rfl hin tyX3_ok nmX3 0 (by decide) hlink rfl rfl (by decide +kernel) rfl rfl (by simp [zfs, zfs3, zI_sI, zJ_sI, zR_sI, zI_sJ, zJ_sJ, zR_sJ, zI_sR, zJ_sR, zR_sR]) (Nat.le_of_ble_eq_true rfl) (z_agI rfl) (fun h => zWT_sI h (z_fit rfl)) hdg K
theorem zp_301 (hF : zF C G cc nL Ts own) {o idx : Nat} {x : Int32} (hk : zK G o = some (3, o)) (hin : ∀ w ∈ u_ws RX3 TX3 11, w ∈ Ts) (hlink : Cond.fieldLink own idx RX3 (TX3 1).2.1 (TX3 1).2.2.1 ∈ Ts) (hdg : decode cc pc = .ok (.putfield idx, 3)) (K : zX C nL k n (pc + 3) L rest (zPic G (zsI m 301 o 0 x))) : zX C nL k n pc L (.int x :: .ref o :: rest) (zPic G m) :=
  zx_put (m' := zsI m 301 o 0 x) (ty := .int) hF hk (by decide) rfl hin tyX3_ok nmX3 1 (by decide) hlink rfl rfl (by decide +kernel) rfl rfl (by simp [zfs, zfs3, zI_sI, zJ_sI, zR_sI, zI_sJ, zJ_sJ, zR_sJ, zI_sR, zJ_sR, zR_sR]) (Nat.le_of_ble_eq_true rfl) (z_agI rfl) (fun h => zWT_sI h (z_fit rfl)) hdg K
theorem zp_302 (hF : zF C G cc nL Ts own) {o idx : Nat} {x : Int32} (hk : zK G o = some (3, o)) (hin : ∀ w ∈ u_ws RX3 TX3 11, w ∈ Ts) (hlink : Cond.fieldLink own idx RX3 (TX3 2).2.1 (TX3 2).2.2.1 ∈ Ts) (hdg : decode cc pc = .ok (.putfield idx, 3)) (K : zX C nL k n (pc + 3) L rest (zPic G (zsI m 302 o 0 x))) : zX C nL k n pc L (.int x :: .ref o :: rest) (zPic G m) :=
  zx_put (m' := zsI m 302 o 0 x) (ty := .int) hF hk (by decide) rfl hin tyX3_ok nmX3 2 (by decide) hlink rfl rfl (by decide +kernel) rfl rfl (by simp [zfs, zfs3, zI_sI, zJ_sI, zR_sI, zI_sJ, zJ_sJ, zR_sJ, zI_sR, zJ_sR, zR_sR]) (Nat.le_of_ble_eq_true rfl) (z_agI rfl) (fun h => zWT_sI h (z_fit rfl)) hdg K
theorem zp_303 (hF : zF C G cc nL Ts own) {o idx : Nat} {x : Int64} (hk : zK G o = some (3, o)) (hin : ∀ w ∈ u_ws RX3 TX3 11, w ∈ Ts) (hlink : Cond.fieldLink own idx RX3 (TX3 3).2.1 (TX3 3).2.2.1 ∈ Ts) (hdg : decode cc pc = .ok (.putfield idx, 3)) (K : zX C nL k n (pc + 3) L rest (zPic G (zsJ m 303 o 0 x))) : zX C nL k n pc L (.long x :: .ref o :: rest) (zPic G m) :=
  zx_put (m' := zsJ m 303 o 0 x) (ty := .long) hF hk (by decide) rfl hin tyX3_ok nmX3 3 (by decide) hlink rfl rfl (by decide +kernel) rfl rfl (by simp [zfs, zfs3, zI_sI, zJ_sI, zR_sI, zI_sJ, zJ_sJ, zR_sJ, zI_sR, zJ_sR, zR_sR]) (Nat.le_of_ble_eq_true rfl) (z_agJ rfl) zWT_sJ hdg K
theorem zp_304 (hF : zF C G cc nL Ts own) {o idx : Nat} {x : Int64} (hk : zK G o = some (3, o)) (hin : ∀ w ∈ u_ws RX3 TX3 11, w ∈ Ts) (hlink : Cond.fieldLink own idx RX3 (TX3 4).2.1 (TX3 4).2.2.1 ∈ Ts) (hdg : decode cc pc = .ok (.putfield idx, 3)) (K : zX C nL k n (pc + 3) L rest (zPic G (zsJ m 304 o 0 x))) : zX C nL k n pc L (.long x :: .ref o :: rest) (zPic G m) :=
  zx_put (m' := zsJ m 304 o 0 x) (ty := .long) hF hk (by decide) rfl hin tyX3_ok nmX3 4 (by decide) hlink rfl rfl (by decide +kernel) rfl rfl (by simp [zfs, zfs3, zI_sI, zJ_sI, zR_sI, zI_sJ, zJ_sJ, zR_sJ, zI_sR, zJ_sR, zR_sR]) (Nat.le_of_ble_eq_true rfl) (z_agJ rfl) zWT_sJ hdg K
theorem zp_305 (hF : zF C G cc nL Ts own) {o idx : Nat} {x : Int64} (hk : zK G o = some (3, o)) (hin : ∀ w ∈ u_ws RX3 TX3 11, w ∈ Ts) (hlink : Cond.fieldLink own idx RX3 (TX3 5).2.1 (TX3 5).2.2.1 ∈ Ts) (hdg : decode cc pc = .ok (.putfield idx, 3)) (K : zX C nL k n (pc + 3) L rest (zPic G (zsJ m 305 o 0 x))) : zX C nL k n pc L (.long x :: .ref o :: rest) (zPic G m) :=
  zx_put (m' := zsJ m 305 o 0 x) (ty := .long) hF hk (by decide) rfl hin tyX3_ok nmX3 5 (by decide) hlink rfl rfl (by decide +kernel) rfl rfl (by simp [zfs, zfs3, zI_sI, zJ_sI, zR_sI, zI_sJ, zJ_sJ, zR_sJ, zI_sR, zJ_sR, zR_sR]) (Nat.le_of_ble_eq_true rfl) (z_agJ rfl) zWT_sJ hdg K
theorem zp_403 (hF : zF C G cc nL Ts own) {o idx : Nat} {x : Int32} (hk : zK G o = some (4, o)) (hin : ∀ w ∈ u_ws RX4 TX4 8, w ∈ Ts) (hlink : Cond.fieldLink own idx RX4 (TX4 3).2.1 (TX4 3).2.2.1 ∈ Ts) (hdg : decode cc pc = .ok (.putfield idx, 3)) (K : zX C nL k n (pc + 3) L rest (zPic G (zsI m 403 o 0 x))) : zX C nL k n pc L (.int x :: .ref o :: rest) (zPic G m) :=
  zx_put (m' := zsI m 403 o 0 x) (ty := .int) hF hk (by decide) rfl hin tyX4_ok nmX4 3 (by decide) hlink rfl rfl (by decide +kernel) rfl rfl (by simp [zfs, zfs4, zI_sI, zJ_sI, zR_sI, zI_sJ, zJ_sJ, zR_sJ, zI_sR, zJ_sR, zR_sR]) (Nat.le_of_ble_eq_true rfl) (z_agI rfl) (fun h => zWT_sI h (z_fit rfl)) hdg K
theorem zp_404 (hF : zF C G cc nL Ts own) {o idx : Nat} {x : Int32} (hk : zK G o = some (4, o)) (hin : ∀ w ∈ u_ws RX4 TX4 8, w ∈ Ts) (hlink : Cond.fieldLink own idx RX4 (TX4 4).2.1 (TX4 4).2.2.1 ∈ Ts) (hdg : decode cc pc = .ok (.putfield idx, 3)) (K : zX C nL k n (pc + 3) L rest (zPic G (zsI m 404 o 0 x))) : zX C nL k n pc L (.int x :: .ref o :: rest) (zPic G m) :=
  zx_put (m' := zsI m 404 o 0 x) (ty := .int) hF hk (by decide) rfl hin tyX4_ok nmX4 4 (by decide) hlink rfl rfl (by decide +kernel) rfl rfl (by simp [zfs, zfs4, zI_sI, zJ_sI, zR_sI, zI_sJ, zJ_sJ, zR_sJ, zI_sR, zJ_sR, zR_sR]) (Nat.le_of_ble_eq_true rfl) (z_agI rfl) (fun h => zWT_sI h (z_fit rfl)) hdg K
theorem zp_405 (hF : zF C G cc nL Ts own) {o idx : Nat} {x : Int32} (hk : zK G o = some (4, o)) (hin : ∀ w ∈ u_ws RX4 TX4 8, w ∈ Ts) (hlink : Cond.fieldLink own idx RX4 (TX4 5).2.1 (TX4 5).2.2.1 ∈ Ts) (hdg : decode cc pc = .ok (.putfield idx, 3)) (K : zX C nL k n (pc + 3) L rest (zPic G (zsI m 405 o 0 x))) : zX C nL k n pc L (.int x :: .ref o :: rest) (zPic G m) :=
  zx_put (m' := zsI m 405 o 0 x) (ty := .int) hF hk (by decide) rfl hin tyX4_ok nmX4 5 (by decide) hlink rfl rfl (by decide +kernel) rfl rfl (by simp [zfs, zfs4, zI_sI, zJ_sI, zR_sI, zI_sJ, zJ_sJ, zR_sJ, zI_sR, zJ_sR, zR_sR]) (Nat.le_of_ble_eq_true rfl) (z_agI rfl) (fun h => zWT_sI h (z_fit rfl)) hdg K
theorem zp_406 (hF : zF C G cc nL Ts own) {o idx : Nat} {x : Int32} (hk : zK G o = some (4, o)) (hin : ∀ w ∈ u_ws RX4 TX4 8, w ∈ Ts) (hlink : Cond.fieldLink own idx RX4 (TX4 6).2.1 (TX4 6).2.2.1 ∈ Ts) (hdg : decode cc pc = .ok (.putfield idx, 3)) (K : zX C nL k n (pc + 3) L rest (zPic G (zsI m 406 o 0 x))) : zX C nL k n pc L (.int x :: .ref o :: rest) (zPic G m) :=
  zx_put (m' := zsI m 406 o 0 x) (ty := .int) hF hk (by decide) rfl hin tyX4_ok nmX4 6 (by decide) hlink rfl rfl (by decide +kernel) rfl rfl (by simp [zfs, zfs4, zI_sI, zJ_sI, zR_sI, zI_sJ, zJ_sJ, zR_sJ, zI_sR, zJ_sR, zR_sR]) (Nat.le_of_ble_eq_true rfl) (z_agI rfl) (fun h => zWT_sI h (z_fit rfl)) hdg K
theorem zp_407 (hF : zF C G cc nL Ts own) {o idx : Nat} {x : Int32} (hk : zK G o = some (4, o)) (hin : ∀ w ∈ u_ws RX4 TX4 8, w ∈ Ts) (hlink : Cond.fieldLink own idx RX4 (TX4 7).2.1 (TX4 7).2.2.1 ∈ Ts) (hdg : decode cc pc = .ok (.putfield idx, 3)) (K : zX C nL k n (pc + 3) L rest (zPic G (zsI m 407 o 0 x))) : zX C nL k n pc L (.int x :: .ref o :: rest) (zPic G m) :=
  zx_put (m' := zsI m 407 o 0 x) (ty := .int) hF hk (by decide) rfl hin tyX4_ok nmX4 7 (by decide) hlink rfl rfl (by decide +kernel) rfl rfl (by simp [zfs, zfs4, zI_sI, zJ_sI, zR_sI, zI_sJ, zJ_sJ, zR_sJ, zI_sR, zJ_sR, zR_sR]) (Nat.le_of_ble_eq_true rfl) (z_agI rfl) (fun h => zWT_sI h (z_fit rfl)) hdg K
theorem zp_600 (hF : zF C G cc nL Ts own) {o idx : Nat} {x : Int32} (hk : zK G o = some (6, o)) (hin : ∀ w ∈ u_ws RX6 TX6 50, w ∈ Ts) (hlink : Cond.fieldLink own idx RX6 (TX6 0).2.1 (TX6 0).2.2.1 ∈ Ts) (hdg : decode cc pc = .ok (.putfield idx, 3)) (K : zX C nL k n (pc + 3) L rest (zPic G (zsI m 600 o 0 x))) : zX C nL k n pc L (.int x :: .ref o :: rest) (zPic G m) :=
  zx_put (m' := zsI m 600 o 0 x) (ty := .int) hF hk (by decide) rfl hin tyX6_ok nmX6 0 (by decide) hlink rfl rfl (by decide +kernel) rfl rfl (by simp [zfs, zfs6, zI_sI, zJ_sI, zR_sI, zI_sJ, zJ_sJ, zR_sJ, zI_sR, zJ_sR, zR_sR]) (Nat.le_of_ble_eq_true rfl) (z_agI rfl) (fun h => zWT_sI h (z_fit rfl)) hdg K
theorem zp_625 (hF : zF C G cc nL Ts own) {o idx : Nat} {x : Int32} (hk : zK G o = some (6, o)) (hin : ∀ w ∈ u_ws RX6 TX6 50, w ∈ Ts) (hlink : Cond.fieldLink own idx RX6 (TX6 25).2.1 (TX6 25).2.2.1 ∈ Ts) (hdg : decode cc pc = .ok (.putfield idx, 3)) (K : zX C nL k n (pc + 3) L rest (zPic G (zsI m 625 o 0 x))) : zX C nL k n pc L (.int x :: .ref o :: rest) (zPic G m) :=
  zx_put (m' := zsI m 625 o 0 x) (ty := .int) hF hk (by decide) rfl hin tyX6_ok nmX6 25 (by decide) hlink rfl rfl (by decide +kernel) rfl rfl (by simp [zfs, zfs6, zI_sI, zJ_sI, zR_sI, zI_sJ, zJ_sJ, zR_sJ, zI_sR, zJ_sR, zR_sR]) (Nat.le_of_ble_eq_true rfl) (z_agI rfl) (fun h => zWT_sI h (z_fit rfl)) hdg K
theorem zp_626 (hF : zF C G cc nL Ts own) {o idx : Nat} {x : Int32} (hk : zK G o = some (6, o)) (hin : ∀ w ∈ u_ws RX6 TX6 50, w ∈ Ts) (hlink : Cond.fieldLink own idx RX6 (TX6 26).2.1 (TX6 26).2.2.1 ∈ Ts) (hdg : decode cc pc = .ok (.putfield idx, 3)) (K : zX C nL k n (pc + 3) L rest (zPic G (zsI m 626 o 0 x))) : zX C nL k n pc L (.int x :: .ref o :: rest) (zPic G m) :=
  zx_put (m' := zsI m 626 o 0 x) (ty := .int) hF hk (by decide) rfl hin tyX6_ok nmX6 26 (by decide) hlink rfl rfl (by decide +kernel) rfl rfl (by simp [zfs, zfs6, zI_sI, zJ_sI, zR_sI, zI_sJ, zJ_sJ, zR_sJ, zI_sR, zJ_sR, zR_sR]) (Nat.le_of_ble_eq_true rfl) (z_agI rfl) (fun h => zWT_sI h (z_fit rfl)) hdg K
theorem zp_627 (hF : zF C G cc nL Ts own) {o idx : Nat} {x : Int32} (hk : zK G o = some (6, o)) (hin : ∀ w ∈ u_ws RX6 TX6 50, w ∈ Ts) (hlink : Cond.fieldLink own idx RX6 (TX6 27).2.1 (TX6 27).2.2.1 ∈ Ts) (hdg : decode cc pc = .ok (.putfield idx, 3)) (K : zX C nL k n (pc + 3) L rest (zPic G (zsI m 627 o 0 x))) : zX C nL k n pc L (.int x :: .ref o :: rest) (zPic G m) :=
  zx_put (m' := zsI m 627 o 0 x) (ty := .int) hF hk (by decide) rfl hin tyX6_ok nmX6 27 (by decide) hlink rfl rfl (by decide +kernel) rfl rfl (by simp [zfs, zfs6, zI_sI, zJ_sI, zR_sI, zI_sJ, zJ_sJ, zR_sJ, zI_sR, zJ_sR, zR_sR]) (Nat.le_of_ble_eq_true rfl) (z_agI rfl) (fun h => zWT_sI h (z_fit rfl)) hdg K
theorem zp_628 (hF : zF C G cc nL Ts own) {o idx : Nat} {x : Int32} (hk : zK G o = some (6, o)) (hin : ∀ w ∈ u_ws RX6 TX6 50, w ∈ Ts) (hlink : Cond.fieldLink own idx RX6 (TX6 28).2.1 (TX6 28).2.2.1 ∈ Ts) (hdg : decode cc pc = .ok (.putfield idx, 3)) (K : zX C nL k n (pc + 3) L rest (zPic G (zsI m 628 o 0 x))) : zX C nL k n pc L (.int x :: .ref o :: rest) (zPic G m) :=
  zx_put (m' := zsI m 628 o 0 x) (ty := .int) hF hk (by decide) rfl hin tyX6_ok nmX6 28 (by decide) hlink rfl rfl (by decide +kernel) rfl rfl (by simp [zfs, zfs6, zI_sI, zJ_sI, zR_sI, zI_sJ, zJ_sJ, zR_sJ, zI_sR, zJ_sR, zR_sR]) (Nat.le_of_ble_eq_true rfl) (z_agI rfl) (fun h => zWT_sI h (z_fit rfl)) hdg K
theorem zp_629 (hF : zF C G cc nL Ts own) {o idx : Nat} {x : Int32} (hk : zK G o = some (6, o)) (hin : ∀ w ∈ u_ws RX6 TX6 50, w ∈ Ts) (hlink : Cond.fieldLink own idx RX6 (TX6 29).2.1 (TX6 29).2.2.1 ∈ Ts) (hdg : decode cc pc = .ok (.putfield idx, 3)) (K : zX C nL k n (pc + 3) L rest (zPic G (zsI m 629 o 0 x))) : zX C nL k n pc L (.int x :: .ref o :: rest) (zPic G m) :=
  zx_put (m' := zsI m 629 o 0 x) (ty := .int) hF hk (by decide) rfl hin tyX6_ok nmX6 29 (by decide) hlink rfl rfl (by decide +kernel) rfl rfl (by simp [zfs, zfs6, zI_sI, zJ_sI, zR_sI, zI_sJ, zJ_sJ, zR_sJ, zI_sR, zJ_sR, zR_sR]) (Nat.le_of_ble_eq_true rfl) (z_agI rfl) (fun h => zWT_sI h (z_fit rfl)) hdg K
theorem zp_630 (hF : zF C G cc nL Ts own) {o idx : Nat} {x : Int64} (hk : zK G o = some (6, o)) (hin : ∀ w ∈ u_ws RX6 TX6 50, w ∈ Ts) (hlink : Cond.fieldLink own idx RX6 (TX6 30).2.1 (TX6 30).2.2.1 ∈ Ts) (hdg : decode cc pc = .ok (.putfield idx, 3)) (K : zX C nL k n (pc + 3) L rest (zPic G (zsJ m 630 o 0 x))) : zX C nL k n pc L (.long x :: .ref o :: rest) (zPic G m) :=
  zx_put (m' := zsJ m 630 o 0 x) (ty := .long) hF hk (by decide) rfl hin tyX6_ok nmX6 30 (by decide) hlink rfl rfl (by decide +kernel) rfl rfl (by simp [zfs, zfs6, zI_sI, zJ_sI, zR_sI, zI_sJ, zJ_sJ, zR_sJ, zI_sR, zJ_sR, zR_sR]) (Nat.le_of_ble_eq_true rfl) (z_agJ rfl) zWT_sJ hdg K
theorem zp_631 (hF : zF C G cc nL Ts own) {o idx : Nat} {x : Int32} (hk : zK G o = some (6, o)) (hin : ∀ w ∈ u_ws RX6 TX6 50, w ∈ Ts) (hlink : Cond.fieldLink own idx RX6 (TX6 31).2.1 (TX6 31).2.2.1 ∈ Ts) (hdg : decode cc pc = .ok (.putfield idx, 3)) (K : zX C nL k n (pc + 3) L rest (zPic G (zsI m 631 o 0 x))) : zX C nL k n pc L (.int x :: .ref o :: rest) (zPic G m) :=
  zx_put (m' := zsI m 631 o 0 x) (ty := .int) hF hk (by decide) rfl hin tyX6_ok nmX6 31 (by decide) hlink rfl rfl (by decide +kernel) rfl rfl (by simp [zfs, zfs6, zI_sI, zJ_sI, zR_sI, zI_sJ, zJ_sJ, zR_sJ, zI_sR, zJ_sR, zR_sR]) (Nat.le_of_ble_eq_true rfl) (z_agI rfl) (fun h => zWT_sI h (z_fit rfl)) hdg K
theorem zp_632 (hF : zF C G cc nL Ts own) {o idx : Nat} {x : Int32} (hk : zK G o = some (6, o)) (hin : ∀ w ∈ u_ws RX6 TX6 50, w ∈ Ts) (hlink : Cond.fieldLink own idx RX6 (TX6 32).2.1 (TX6 32).2.2.1 ∈ Ts) (hdg : decode cc pc = .ok (.putfield idx, 3)) (K : zX C nL k n (pc + 3) L rest (zPic G (zsI m 632 o 0 x))) : zX C nL k n pc L (.int x :: .ref o :: rest) (zPic G m) :=
  zx_put (m' := zsI m 632 o 0 x) (ty := .int) hF hk (by decide) rfl hin tyX6_ok nmX6 32 (by decide) hlink rfl rfl (by decide +kernel) rfl rfl (by simp [zfs, zfs6, zI_sI, zJ_sI, zR_sI, zI_sJ, zJ_sJ, zR_sJ, zI_sR, zJ_sR, zR_sR]) (Nat.le_of_ble_eq_true rfl) (z_agI rfl) (fun h => zWT_sI h (z_fit rfl)) hdg K
theorem zp_633 (hF : zF C G cc nL Ts own) {o idx : Nat} {x : Int32} (hk : zK G o = some (6, o)) (hin : ∀ w ∈ u_ws RX6 TX6 50, w ∈ Ts) (hlink : Cond.fieldLink own idx RX6 (TX6 33).2.1 (TX6 33).2.2.1 ∈ Ts) (hdg : decode cc pc = .ok (.putfield idx, 3)) (K : zX C nL k n (pc + 3) L rest (zPic G (zsI m 633 o 0 x))) : zX C nL k n pc L (.int x :: .ref o :: rest) (zPic G m) :=
  zx_put (m' := zsI m 633 o 0 x) (ty := .int) hF hk (by decide) rfl hin tyX6_ok nmX6 33 (by decide) hlink rfl rfl (by decide +kernel) rfl rfl (by simp [zfs, zfs6, zI_sI, zJ_sI, zR_sI, zI_sJ, zJ_sJ, zR_sJ, zI_sR, zJ_sR, zR_sR]) (Nat.le_of_ble_eq_true rfl) (z_agI rfl) (fun h => zWT_sI h (z_fit rfl)) hdg K
theorem zp_634 (hF : zF C G cc nL Ts own) {o idx : Nat} {x : Int32} (hk : zK G o = some (6, o)) (hin : ∀ w ∈ u_ws RX6 TX6 50, w ∈ Ts) (hlink : Cond.fieldLink own idx RX6 (TX6 34).2.1 (TX6 34).2.2.1 ∈ Ts) (hdg : decode cc pc = .ok (.putfield idx, 3)) (K : zX C nL k n (pc + 3) L rest (zPic G (zsI m 634 o 0 x))) : zX C nL k n pc L (.int x :: .ref o :: rest) (zPic G m) :=
  zx_put (m' := zsI m 634 o 0 x) (ty := .int) hF hk (by decide) rfl hin tyX6_ok nmX6 34 (by decide) hlink rfl rfl (by decide +kernel) rfl rfl (by simp [zfs, zfs6, zI_sI, zJ_sI, zR_sI, zI_sJ, zJ_sJ, zR_sJ, zI_sR, zJ_sR, zR_sR]) (Nat.le_of_ble_eq_true rfl) (z_agI rfl) (fun h => zWT_sI h (z_fit rfl)) hdg K
theorem zp_641 (hF : zF C G cc nL Ts own) {o idx : Nat} {x : Int32} (hk : zK G o = some (6, o)) (hin : ∀ w ∈ u_ws RX6 TX6 50, w ∈ Ts) (hlink : Cond.fieldLink own idx RX6 (TX6 41).2.1 (TX6 41).2.2.1 ∈ Ts) (hdg : decode cc pc = .ok (.putfield idx, 3)) (K : zX C nL k n (pc + 3) L rest (zPic G (zsI m 641 o 0 x))) : zX C nL k n pc L (.int x :: .ref o :: rest) (zPic G m) :=
  zx_put (m' := zsI m 641 o 0 x) (ty := .int) hF hk (by decide) rfl hin tyX6_ok nmX6 41 (by decide) hlink rfl rfl (by decide +kernel) rfl rfl (by simp [zfs, zfs6, zI_sI, zJ_sI, zR_sI, zI_sJ, zJ_sJ, zR_sJ, zI_sR, zJ_sR, zR_sR]) (Nat.le_of_ble_eq_true rfl) (z_agI rfl) (fun h => zWT_sI h (z_fit rfl)) hdg K
theorem zp_502 (hF : zF C G cc nL Ts own) {o idx : Nat} {x : Nat} (hk : zK G o = some (5, o)) (hin : ∀ w ∈ u_ws RX5 TX5 3, w ∈ Ts) (hlink : Cond.fieldLink own idx RX5 (TX5 2).2.1 (TX5 2).2.2.1 ∈ Ts) (hx : zK G x = some (2, x)) (hdg : decode cc pc = .ok (.putfield idx, 3)) (K : zX C nL k n (pc + 3) L rest (zPic G (zsR m 502 o x))) : zX C nL k n pc L (.ref x :: .ref o :: rest) (zPic G m) :=
  zx_put (m' := zsR m 502 o x) (ty := (.object "ClaimsFund$Grid")) hF hk (by decide) rfl hin tyX5_ok nmX5 2 (by decide) hlink rfl rfl (by decide +kernel) rfl rfl (by simp [zfs, zfs5, zR_sR]) (Nat.le_of_ble_eq_true rfl) (z_agR rfl) (fun h => zWT_spare h hx) hdg K
theorem zx_mmin (hF : zF0 C cc nL Ts own) {idx : Nat} {x y : Int32} (w1 : Cond.methodLink own idx Lib.Math.min.name ∈ Ts) (w2 : Cond.static Lib.Math.min.name ∈ Ts) (w3 : Cond.initialized "java/lang/Math" ∈ Ts) (w4 : Cond.code Lib.Math.min.name Lib.Math.min.code 2 (some .int) ∈ Ts) (hf : 1 ≤ (zRm C).frames) (hlo : (rest.map fun v => v.category).sum + 15 ≤ (zRm C).locals) (hc : k ≤ (zRm C).cells) (hs : n ≤ (zRm C).slots) (hdg : decode cc pc = .ok (.invokestatic idx, 3)) (K : zX C nL k n (pc + 3) L (.int (if y < x then y else x) :: rest) P) : zX C nL k n pc L (.int y :: .int x :: rest) P := fun H locs ls hP hS hl =>
  va_mmin hF.1 hF.2.1 (hF.2.2.1.trans hl.1.symm) hF.2.2.2.1 (hF.2.2.2.2 _ w1) (hF.2.2.2.2 _ w2) (hF.2.2.2.2 _ w3) (hF.2.2.2.2 _ w4) hf (by omega) hc hs hdg (K H locs ls hP hS hl)
theorem zx_mmax (hF : zF0 C cc nL Ts own) {idx : Nat} {x y : Int32} (w1 : Cond.methodLink own idx Lib.Math.max.name ∈ Ts) (w2 : Cond.static Lib.Math.max.name ∈ Ts) (w3 : Cond.initialized "java/lang/Math" ∈ Ts) (w4 : Cond.code Lib.Math.max.name Lib.Math.max.code 2 (some .int) ∈ Ts) (hf : 1 ≤ (zRm C).frames) (hlo : (rest.map fun v => v.category).sum + 15 ≤ (zRm C).locals) (hc : k ≤ (zRm C).cells) (hs : n ≤ (zRm C).slots) (hdg : decode cc pc = .ok (.invokestatic idx, 3)) (K : zX C nL k n (pc + 3) L (.int (if x < y then y else x) :: rest) P) : zX C nL k n pc L (.int y :: .int x :: rest) P := fun H locs ls hP hS hl =>
  va_mmax hF.1 hF.2.1 (hF.2.2.1.trans hl.1.symm) hF.2.2.2.1 (hF.2.2.2.2 _ w1) (hF.2.2.2.2 _ w2) (hF.2.2.2.2 _ w3) (hF.2.2.2.2 _ w4) hf (by omega) hc hs hdg (K H locs ls hP hS hl)
theorem zx_mminl (hF : zF0 C cc nL Ts own) {idx : Nat} {x y : Int64} (w1 : Cond.methodLink own idx Lib.MathLoose.min_long.x ∈ Ts) (w2 : Cond.static Lib.MathLoose.min_long.x ∈ Ts) (w3 : Cond.initialized "java/lang/Math" ∈ Ts) (w4 : Cond.code Lib.MathLoose.min_long.x Lib.MathLoose.min_long.code 4 (some .long) ∈ Ts) (hf : 1 ≤ (zRm C).frames) (hlo : (rest.map fun v => v.category).sum + 15 ≤ (zRm C).locals) (hc : k ≤ (zRm C).cells) (hs : n ≤ (zRm C).slots) (hdg : decode cc pc = .ok (.invokestatic idx, 3)) (K : zX C nL k n (pc + 3) L (.long (if y < x then y else x) :: rest) P) : zX C nL k n pc L (.long y :: .long x :: rest) P := fun H locs ls hP hS hl =>
  va_mmin_long hF.1 hF.2.1 (hF.2.2.1.trans hl.1.symm) hF.2.2.2.1 (hF.2.2.2.2 _ w1) (hF.2.2.2.2 _ w2) (hF.2.2.2.2 _ w3) (hF.2.2.2.2 _ w4) hf (by omega) hc hs hdg (K H locs ls hP hS hl)
theorem arrV_same {cI : ClassId} {N : Nat} {f g : Nat → Value} (h : ∀ j, j < N → f j = g j) : arrV cI N f = arrV cI N g := by
  unfold arrV
  congr 1
  apply Array.ext
  · simp
  · intro j h1 h2
    simp only [Array.getElem_ofFn]
    exact h j (by simpa using h1)
theorem z_cfit (h : zWT G m) (f a j : Nat) : zfitv f (zI m f a j) := h.1 f a j
theorem z_ty0 {c : Nat} (h : zty c = 0) : c = 1001 ∨ c = 1601 := by
  unfold zty at h
  repeat' split at h
  all_goals first | omega | assumption
theorem z_ty3 {c : Nat} (h : zty c = 3) : c = 1207 ∨ c = 1608 ∨ c = 1649 := by
  unfold zty at h
  repeat' split at h
  all_goals first | omega | assumption
theorem zx_copyI (hF : zF C G cc nL Ts own) {a0 a c o0 o idx N : Nat} {nn : Int32} (hk0 : zK G a0 = some (c, o0)) (hk : zK G a = some (c, o)) (w1 : Cond.methodLink own idx arraycopyName ∈ Ts) (w2 : Cond.native arraycopyName ∈ Ts) (w3 : Cond.static arraycopyName ∈ Ts) (w4 : Cond.initialized "java/lang/System" ∈ Ts) (hc : ¬ c < 1000) (hty : zty c = 1) (hN : zal c = N) (hnn : nn = Int32.ofNat N ∧ N < 2 ^ 31) {g : Nat → Int32} (hg : zI m c o0 = g) (hf : 1 ≤ (zRm C).frames) (hlo : (rest.map fun v => v.category).sum + (nativeFrameWords "java/lang/System" "arraycopy" 5 + 11) ≤ (zRm C).locals) (hdg : decode cc pc = .ok (.invokestatic idx, 3))
    (K : zX C nL k n (pc + 3) L rest (zPic G (zcI m c o g))) : zX C nL k n pc L (.int nn :: .int 0 :: .ref a :: .int 0 :: .ref a0 :: rest) (zPic G m) := by
  subst hg
  subst hN
  obtain ⟨rfl, hlt⟩ := hnn
  intro H locs ls hP hS hl T hT X
  have hc0 : H[a0]? = some (arrV (zcy G 1) (zal c) (fun j => .int (zI m c o0 j))) := by have h := hP.2.1 a0 _ hk0; rw [z_cellA hc, z_adI (by omega), hty] at h; exact h
  have hc1 : H[a]? = some (arrV (zcy G 1) (zal c) (fun j => .int (zI m c o j))) := by have h := hP.2.1 a _ hk; rw [z_cellA hc, z_adI (by omega), hty] at h; exact h
  obtain ⟨-, kc, hkc, cm, hkk⟩ := z_arrOf hF.2.1.1 1 rfl (zal c) (fun j => .int (zI m c o0 j))
  have e0 : (Int32.ofNat (zal c)).toNatClampNeg = zal c := nI_clamp hlt
  have e1 : (Int32.ofNat (zal c)).toInt = (zal c : Int) := nI_toInt hlt
  obtain ⟨vm', X', step⟩ := X.arraycopy hF.1.1 hF.1.2.2.2.1 (hF.1.2.2.2.2 _ w1) (hF.1.2.2.2.2 _ w2) (hF.1.2.2.2.2 _ w3) (hF.1.2.2.2.2 _ w4) (src := a0) (dst := a) (cs := arrV (zcy G 1) (zal c) (fun j => .int (zI m c o0 j))) (cd := arrV (zcy G 1) (zal c) (fun j => .int (zI m c o j))) (srcPos := 0) (destPos := 0) (n := Int32.ofNat (zal c)) (by rw [hT]; exact hc0) (by rw [hT]; exact hc1)
    (fun _ h => by cases h) (fun _ h => by cases h) (fun h => by cases h) (fun h => by cases h) hkc hkc hkk hkk (by simp [refKind]) (by decide) (by decide) (nI_pos hlt)
    (by rw [e1]; show ¬ (0 : Int) + _ > ((arrV _ (zal c) _).slots.size : Int); rw [arrV_size]; omega)
    (by rw [e1]; show ¬ (0 : Int) + _ > ((arrV _ (zal c) _).slots.size : Int); rw [arrV_size]; omega)
    (fun vm₁ _ i hi => by
      rw [e0] at hi
      have e : (arrV (zcy G 1) (zal c) (fun j => .int (zI m c o0 j))).slots.getD ((0 : Int32).toNatClampNeg + i) .null = .int (zI m c o0 i) := by
        rw [Array.getD_eq_getD_getElem?, show (0 : Int32).toNatClampNeg + i = i from Nat.zero_add i, arrV_read _ _ hi]
        rfl
      refine ⟨?_, ?_⟩
      · rw [e]
        rfl
      · rw [e]
        exact trivial)
    (g := F0 (zmi C) pc ls (.int (Int32.ofNat (zal c)) :: .int 0 :: .ref a :: .int 0 :: .ref a0 :: rest)) rfl (by rw [hF.1.2.2.1]; exact hl.1) (rest := rest) rfl (by rw [hF.1.2.1]; exact hdg) hf (by show 2 * 0 + _ + _ ≤ _; omega)
  have e2 : copied (arrV (zcy G 1) (zal c) (fun j => .int (zI m c o0 j))) (arrV (zcy G 1) (zal c) (fun j => .int (zI m c o j))) 0 0 (Int32.ofNat (zal c)) = arrV (zcy G 1) (zal c) (fun j => .int (zI m c o0 j)) := by
    have h4 : (0 : Int32).toNatClampNeg + (Int32.ofNat (zal c)).toNatClampNeg ≤ zal c := by rw [e0]; exact Nat.le_of_eq (Nat.zero_add _)
    have h5 := va_copied (fun z => .int z) (zcy G 1) (zcy G 1) (zI m c o0) (zI m c o) (n1 := zal c) (sp := (0 : Int32).toNatClampNeg) (dp := (0 : Int32).toNatClampNeg) (n := (Int32.ofNat (zal c)).toNatClampNeg) h4
    refine h5.trans ?_
    apply arrV_same
    intro j hj
    unfold va_cpy
    rw [if_pos ⟨Nat.zero_le _, by rw [e0]; show j < 0 + zal c; omega⟩]
    rw [show (0 : Int32).toNatClampNeg + (j - (0 : Int32).toNatClampNeg) = j from Nat.zero_add _]
  rw [e2] at X' step
  have hla : a < H.size := (Array.getElem?_eq_some_iff.mp hc1).1
  have hheap : ((T.setVm vm').setCell a (arrV (zcy G 1) (zal c) (fun j => .int (zI m c o0 j)))).heap = H.setIfInBounds a (arrV (zcy G 1) (zal c) (fun j => .int (zI m c o0 j))) := by rw [← hT]; rfl
  have oq : ∀ q : Nat, q ≠ a → (H.setIfInBounds a (arrV (zcy G 1) (zal c) (fun j => .int (zI m c o0 j))))[q]? = H[q]? := fun q hq => by simp [Array.getElem?_setIfInBounds, Ne.symm hq]
  obtain ⟨t, a1, b1⟩ := K _ _ ls (zPic_upd hF.2.2.1 hP hk (by
      rw [z_cellA hc, z_adI (by omega), hty]
      show (H.setIfInBounds a _)[a]? = some (vp_cell _ (_, Sum.inl _))
      rw [vp_cell_i]
      rw [Array.getElem?_setIfInBounds, if_pos rfl, if_pos hla]
      congr 2
      funext j
      simp [zI_cI]) (by simp) oq (z_agcI (by unfold zkf zkey; rw [if_neg hc, if_neg hc])) (zWT_cI hP.2.2 (fun j => z_cfit hP.2.2 c o0 j))) ⟨by simp; exact hS.1, fun q g1 g2 => by
      rw [oq q (fun e => g2 (by rw [e]; exact hF.2.2.2.1 _ _ hk))]
      exact hS.2.1 q g1 g2, fun q hq => by
      rcases List.mem_append.mp hq with h | h
      · exact hS.2.2 q h
      · obtain ⟨z, -, hz⟩ := List.mem_map.mp h
        rw [← hz]
        exact hF.2.2.2.1 _ _ hk⟩ hl _ hheap X'
  exact ⟨t, step t a1, b1⟩
theorem zx_copyB (hF : zF C G cc nL Ts own) {a0 a c o0 o idx N : Nat} {nn : Int32} (hk0 : zK G a0 = some (c, o0)) (hk : zK G a = some (c, o)) (w1 : Cond.methodLink own idx arraycopyName ∈ Ts) (w2 : Cond.native arraycopyName ∈ Ts) (w3 : Cond.static arraycopyName ∈ Ts) (w4 : Cond.initialized "java/lang/System" ∈ Ts) (hc : ¬ c < 1000) (hty : zty c = 0) (hN : zal c = N) (hnn : nn = Int32.ofNat N ∧ N < 2 ^ 31) {g : Nat → Int32} (hg : zI m c o0 = g) (hf : 1 ≤ (zRm C).frames) (hlo : (rest.map fun v => v.category).sum + (nativeFrameWords "java/lang/System" "arraycopy" 5 + 11) ≤ (zRm C).locals) (hdg : decode cc pc = .ok (.invokestatic idx, 3))
    (K : zX C nL k n (pc + 3) L rest (zPic G (zcI m c o g))) : zX C nL k n pc L (.int nn :: .int 0 :: .ref a :: .int 0 :: .ref a0 :: rest) (zPic G m) := by
  subst hg
  subst hN
  obtain ⟨rfl, hlt⟩ := hnn
  intro H locs ls hP hS hl T hT X
  have hc0 : H[a0]? = some (arrV (zcy G 0) (zal c) (fun j => .int (zI m c o0 j))) := by have h := hP.2.1 a0 _ hk0; rw [z_cellA hc, z_adI (by omega), hty] at h; exact h
  have hc1 : H[a]? = some (arrV (zcy G 0) (zal c) (fun j => .int (zI m c o j))) := by have h := hP.2.1 a _ hk; rw [z_cellA hc, z_adI (by omega), hty] at h; exact h
  obtain ⟨-, kc, hkc, cm, hkk⟩ := z_arrOf hF.2.1.1 0 rfl (zal c) (fun j => .int (zI m c o0 j))
  have e0 : (Int32.ofNat (zal c)).toNatClampNeg = zal c := nI_clamp hlt
  have e1 : (Int32.ofNat (zal c)).toInt = (zal c : Int) := nI_toInt hlt
  obtain ⟨vm', X', step⟩ := X.arraycopy hF.1.1 hF.1.2.2.2.1 (hF.1.2.2.2.2 _ w1) (hF.1.2.2.2.2 _ w2) (hF.1.2.2.2.2 _ w3) (hF.1.2.2.2.2 _ w4) (src := a0) (dst := a) (cs := arrV (zcy G 0) (zal c) (fun j => .int (zI m c o0 j))) (cd := arrV (zcy G 0) (zal c) (fun j => .int (zI m c o j))) (srcPos := 0) (destPos := 0) (n := Int32.ofNat (zal c)) (by rw [hT]; exact hc0) (by rw [hT]; exact hc1)
    (fun _ h => by cases h) (fun _ h => by cases h) (fun h => by cases h) (fun h => by cases h) hkc hkc hkk hkk (by simp [refKind]) (by decide) (by decide) (nI_pos hlt)
    (by rw [e1]; show ¬ (0 : Int) + _ > ((arrV _ (zal c) _).slots.size : Int); rw [arrV_size]; omega)
    (by rw [e1]; show ¬ (0 : Int) + _ > ((arrV _ (zal c) _).slots.size : Int); rw [arrV_size]; omega)
    (fun vm₁ _ i hi => by
      rw [e0] at hi
      have e : (arrV (zcy G 0) (zal c) (fun j => .int (zI m c o0 j))).slots.getD ((0 : Int32).toNatClampNeg + i) .null = .int (zI m c o0 i) := by
        rw [Array.getD_eq_getD_getElem?, show (0 : Int32).toNatClampNeg + i = i from Nat.zero_add i, arrV_read _ _ hi]
        rfl
      refine ⟨?_, ?_⟩
      · rw [e]
        exact (z_cfit hP.2.2 c o0 i).1 (z_ty0 hty)
      · rw [e]
        exact trivial)
    (g := F0 (zmi C) pc ls (.int (Int32.ofNat (zal c)) :: .int 0 :: .ref a :: .int 0 :: .ref a0 :: rest)) rfl (by rw [hF.1.2.2.1]; exact hl.1) (rest := rest) rfl (by rw [hF.1.2.1]; exact hdg) hf (by show 2 * 0 + _ + _ ≤ _; omega)
  have e2 : copied (arrV (zcy G 0) (zal c) (fun j => .int (zI m c o0 j))) (arrV (zcy G 0) (zal c) (fun j => .int (zI m c o j))) 0 0 (Int32.ofNat (zal c)) = arrV (zcy G 0) (zal c) (fun j => .int (zI m c o0 j)) := by
    have h4 : (0 : Int32).toNatClampNeg + (Int32.ofNat (zal c)).toNatClampNeg ≤ zal c := by rw [e0]; exact Nat.le_of_eq (Nat.zero_add _)
    have h5 := va_copied (fun z => .int z) (zcy G 0) (zcy G 0) (zI m c o0) (zI m c o) (n1 := zal c) (sp := (0 : Int32).toNatClampNeg) (dp := (0 : Int32).toNatClampNeg) (n := (Int32.ofNat (zal c)).toNatClampNeg) h4
    refine h5.trans ?_
    apply arrV_same
    intro j hj
    unfold va_cpy
    rw [if_pos ⟨Nat.zero_le _, by rw [e0]; show j < 0 + zal c; omega⟩]
    rw [show (0 : Int32).toNatClampNeg + (j - (0 : Int32).toNatClampNeg) = j from Nat.zero_add _]
  rw [e2] at X' step
  have hla : a < H.size := (Array.getElem?_eq_some_iff.mp hc1).1
  have hheap : ((T.setVm vm').setCell a (arrV (zcy G 0) (zal c) (fun j => .int (zI m c o0 j)))).heap = H.setIfInBounds a (arrV (zcy G 0) (zal c) (fun j => .int (zI m c o0 j))) := by rw [← hT]; rfl
  have oq : ∀ q : Nat, q ≠ a → (H.setIfInBounds a (arrV (zcy G 0) (zal c) (fun j => .int (zI m c o0 j))))[q]? = H[q]? := fun q hq => by simp [Array.getElem?_setIfInBounds, Ne.symm hq]
  obtain ⟨t, a1, b1⟩ := K _ _ ls (zPic_upd hF.2.2.1 hP hk (by
      rw [z_cellA hc, z_adI (by omega), hty]
      show (H.setIfInBounds a _)[a]? = some (vp_cell _ (_, Sum.inl _))
      rw [vp_cell_i]
      rw [Array.getElem?_setIfInBounds, if_pos rfl, if_pos hla]
      congr 2
      funext j
      simp [zI_cI]) (by simp) oq (z_agcI (by unfold zkf zkey; rw [if_neg hc, if_neg hc])) (zWT_cI hP.2.2 (fun j => z_cfit hP.2.2 c o0 j))) ⟨by simp; exact hS.1, fun q g1 g2 => by
      rw [oq q (fun e => g2 (by rw [e]; exact hF.2.2.2.1 _ _ hk))]
      exact hS.2.1 q g1 g2, fun q hq => by
      rcases List.mem_append.mp hq with h | h
      · exact hS.2.2 q h
      · obtain ⟨z, -, hz⟩ := List.mem_map.mp h
        rw [← hz]
        exact hF.2.2.2.1 _ _ hk⟩ hl _ hheap X'
  exact ⟨t, step t a1, b1⟩
theorem zx_copyZ (hF : zF C G cc nL Ts own) {a0 a c o0 o idx N : Nat} {nn : Int32} (hk0 : zK G a0 = some (c, o0)) (hk : zK G a = some (c, o)) (w1 : Cond.methodLink own idx arraycopyName ∈ Ts) (w2 : Cond.native arraycopyName ∈ Ts) (w3 : Cond.static arraycopyName ∈ Ts) (w4 : Cond.initialized "java/lang/System" ∈ Ts) (hc : ¬ c < 1000) (hty : zty c = 3) (hN : zal c = N) (hnn : nn = Int32.ofNat N ∧ N < 2 ^ 31) {g : Nat → Int32} (hg : zI m c o0 = g) (hf : 1 ≤ (zRm C).frames) (hlo : (rest.map fun v => v.category).sum + (nativeFrameWords "java/lang/System" "arraycopy" 5 + 11) ≤ (zRm C).locals) (hdg : decode cc pc = .ok (.invokestatic idx, 3))
    (K : zX C nL k n (pc + 3) L rest (zPic G (zcI m c o g))) : zX C nL k n pc L (.int nn :: .int 0 :: .ref a :: .int 0 :: .ref a0 :: rest) (zPic G m) := by
  subst hg
  subst hN
  obtain ⟨rfl, hlt⟩ := hnn
  intro H locs ls hP hS hl T hT X
  have hc0 : H[a0]? = some (arrV (zcy G 3) (zal c) (fun j => .int (zI m c o0 j))) := by have h := hP.2.1 a0 _ hk0; rw [z_cellA hc, z_adI (by omega), hty] at h; exact h
  have hc1 : H[a]? = some (arrV (zcy G 3) (zal c) (fun j => .int (zI m c o j))) := by have h := hP.2.1 a _ hk; rw [z_cellA hc, z_adI (by omega), hty] at h; exact h
  obtain ⟨-, kc, hkc, cm, hkk⟩ := z_arrOf hF.2.1.1 3 rfl (zal c) (fun j => .int (zI m c o0 j))
  have e0 : (Int32.ofNat (zal c)).toNatClampNeg = zal c := nI_clamp hlt
  have e1 : (Int32.ofNat (zal c)).toInt = (zal c : Int) := nI_toInt hlt
  obtain ⟨vm', X', step⟩ := X.arraycopy hF.1.1 hF.1.2.2.2.1 (hF.1.2.2.2.2 _ w1) (hF.1.2.2.2.2 _ w2) (hF.1.2.2.2.2 _ w3) (hF.1.2.2.2.2 _ w4) (src := a0) (dst := a) (cs := arrV (zcy G 3) (zal c) (fun j => .int (zI m c o0 j))) (cd := arrV (zcy G 3) (zal c) (fun j => .int (zI m c o j))) (srcPos := 0) (destPos := 0) (n := Int32.ofNat (zal c)) (by rw [hT]; exact hc0) (by rw [hT]; exact hc1)
    (fun _ h => by cases h) (fun _ h => by cases h) (fun h => by cases h) (fun h => by cases h) hkc hkc hkk hkk (by simp [refKind]) (by decide) (by decide) (nI_pos hlt)
    (by rw [e1]; show ¬ (0 : Int) + _ > ((arrV _ (zal c) _).slots.size : Int); rw [arrV_size]; omega)
    (by rw [e1]; show ¬ (0 : Int) + _ > ((arrV _ (zal c) _).slots.size : Int); rw [arrV_size]; omega)
    (fun vm₁ _ i hi => by
      rw [e0] at hi
      have e : (arrV (zcy G 3) (zal c) (fun j => .int (zI m c o0 j))).slots.getD ((0 : Int32).toNatClampNeg + i) .null = .int (zI m c o0 i) := by
        rw [Array.getD_eq_getD_getElem?, show (0 : Int32).toNatClampNeg + i = i from Nat.zero_add i, arrV_read _ _ hi]
        rfl
      refine ⟨?_, ?_⟩
      · rw [e]
        exact (z_cfit hP.2.2 c o0 i).2 (Or.inr (z_ty3 hty))
      · rw [e]
        exact trivial)
    (g := F0 (zmi C) pc ls (.int (Int32.ofNat (zal c)) :: .int 0 :: .ref a :: .int 0 :: .ref a0 :: rest)) rfl (by rw [hF.1.2.2.1]; exact hl.1) (rest := rest) rfl (by rw [hF.1.2.1]; exact hdg) hf (by show 2 * 0 + _ + _ ≤ _; omega)
  have e2 : copied (arrV (zcy G 3) (zal c) (fun j => .int (zI m c o0 j))) (arrV (zcy G 3) (zal c) (fun j => .int (zI m c o j))) 0 0 (Int32.ofNat (zal c)) = arrV (zcy G 3) (zal c) (fun j => .int (zI m c o0 j)) := by
    have h4 : (0 : Int32).toNatClampNeg + (Int32.ofNat (zal c)).toNatClampNeg ≤ zal c := by rw [e0]; exact Nat.le_of_eq (Nat.zero_add _)
    have h5 := va_copied (fun z => .int z) (zcy G 3) (zcy G 3) (zI m c o0) (zI m c o) (n1 := zal c) (sp := (0 : Int32).toNatClampNeg) (dp := (0 : Int32).toNatClampNeg) (n := (Int32.ofNat (zal c)).toNatClampNeg) h4
    refine h5.trans ?_
    apply arrV_same
    intro j hj
    unfold va_cpy
    rw [if_pos ⟨Nat.zero_le _, by rw [e0]; show j < 0 + zal c; omega⟩]
    rw [show (0 : Int32).toNatClampNeg + (j - (0 : Int32).toNatClampNeg) = j from Nat.zero_add _]
  rw [e2] at X' step
  have hla : a < H.size := (Array.getElem?_eq_some_iff.mp hc1).1
  have hheap : ((T.setVm vm').setCell a (arrV (zcy G 3) (zal c) (fun j => .int (zI m c o0 j)))).heap = H.setIfInBounds a (arrV (zcy G 3) (zal c) (fun j => .int (zI m c o0 j))) := by rw [← hT]; rfl
  have oq : ∀ q : Nat, q ≠ a → (H.setIfInBounds a (arrV (zcy G 3) (zal c) (fun j => .int (zI m c o0 j))))[q]? = H[q]? := fun q hq => by simp [Array.getElem?_setIfInBounds, Ne.symm hq]
  obtain ⟨t, a1, b1⟩ := K _ _ ls (zPic_upd hF.2.2.1 hP hk (by
      rw [z_cellA hc, z_adI (by omega), hty]
      show (H.setIfInBounds a _)[a]? = some (vp_cell _ (_, Sum.inl _))
      rw [vp_cell_i]
      rw [Array.getElem?_setIfInBounds, if_pos rfl, if_pos hla]
      congr 2
      funext j
      simp [zI_cI]) (by simp) oq (z_agcI (by unfold zkf zkey; rw [if_neg hc, if_neg hc])) (zWT_cI hP.2.2 (fun j => z_cfit hP.2.2 c o0 j))) ⟨by simp; exact hS.1, fun q g1 g2 => by
      rw [oq q (fun e => g2 (by rw [e]; exact hF.2.2.2.1 _ _ hk))]
      exact hS.2.1 q g1 g2, fun q hq => by
      rcases List.mem_append.mp hq with h | h
      · exact hS.2.2 q h
      · obtain ⟨z, -, hz⟩ := List.mem_map.mp h
        rw [← hz]
        exact hF.2.2.2.1 _ _ hk⟩ hl _ hheap X'
  exact ⟨t, step t a1, b1⟩
theorem zx_copyJ (hF : zF C G cc nL Ts own) {a0 a c o0 o idx N : Nat} {nn : Int32} (hk0 : zK G a0 = some (c, o0)) (hk : zK G a = some (c, o)) (w1 : Cond.methodLink own idx arraycopyName ∈ Ts) (w2 : Cond.native arraycopyName ∈ Ts) (w3 : Cond.static arraycopyName ∈ Ts) (w4 : Cond.initialized "java/lang/System" ∈ Ts) (hc : ¬ c < 1000) (hty : zty c = 2) (hN : zal c = N) (hnn : nn = Int32.ofNat N ∧ N < 2 ^ 31) {g : Nat → Int64} (hg : zJ m c o0 = g) (hf : 1 ≤ (zRm C).frames) (hlo : (rest.map fun v => v.category).sum + (nativeFrameWords "java/lang/System" "arraycopy" 5 + 11) ≤ (zRm C).locals) (hdg : decode cc pc = .ok (.invokestatic idx, 3))
    (K : zX C nL k n (pc + 3) L rest (zPic G (zcJ m c o g))) : zX C nL k n pc L (.int nn :: .int 0 :: .ref a :: .int 0 :: .ref a0 :: rest) (zPic G m) := by
  subst hg
  subst hN
  obtain ⟨rfl, hlt⟩ := hnn
  intro H locs ls hP hS hl T hT X
  have hc0 : H[a0]? = some (arrV (zcy G 2) (zal c) (fun j => .long (zJ m c o0 j))) := by have h := hP.2.1 a0 _ hk0; rw [z_cellA hc, z_adJ hty, hty] at h; exact h
  have hc1 : H[a]? = some (arrV (zcy G 2) (zal c) (fun j => .long (zJ m c o j))) := by have h := hP.2.1 a _ hk; rw [z_cellA hc, z_adJ hty, hty] at h; exact h
  obtain ⟨-, kc, hkc, cm, hkk⟩ := z_arrOf hF.2.1.1 2 rfl (zal c) (fun j => .long (zJ m c o0 j))
  have e0 : (Int32.ofNat (zal c)).toNatClampNeg = zal c := nI_clamp hlt
  have e1 : (Int32.ofNat (zal c)).toInt = (zal c : Int) := nI_toInt hlt
  obtain ⟨vm', X', step⟩ := X.arraycopy hF.1.1 hF.1.2.2.2.1 (hF.1.2.2.2.2 _ w1) (hF.1.2.2.2.2 _ w2) (hF.1.2.2.2.2 _ w3) (hF.1.2.2.2.2 _ w4) (src := a0) (dst := a) (cs := arrV (zcy G 2) (zal c) (fun j => .long (zJ m c o0 j))) (cd := arrV (zcy G 2) (zal c) (fun j => .long (zJ m c o j))) (srcPos := 0) (destPos := 0) (n := Int32.ofNat (zal c)) (by rw [hT]; exact hc0) (by rw [hT]; exact hc1)
    (fun _ h => by cases h) (fun _ h => by cases h) (fun h => by cases h) (fun h => by cases h) hkc hkc hkk hkk (by simp [refKind]) (by decide) (by decide) (nI_pos hlt)
    (by rw [e1]; show ¬ (0 : Int) + _ > ((arrV _ (zal c) _).slots.size : Int); rw [arrV_size]; omega)
    (by rw [e1]; show ¬ (0 : Int) + _ > ((arrV _ (zal c) _).slots.size : Int); rw [arrV_size]; omega)
    (fun vm₁ _ i hi => by
      rw [e0] at hi
      have e : (arrV (zcy G 2) (zal c) (fun j => .long (zJ m c o0 j))).slots.getD ((0 : Int32).toNatClampNeg + i) .null = .long (zJ m c o0 i) := by
        rw [Array.getD_eq_getD_getElem?, show (0 : Int32).toNatClampNeg + i = i from Nat.zero_add i, arrV_read _ _ hi]
        rfl
      refine ⟨?_, ?_⟩
      · rw [e]
        rfl
      · rw [e]
        exact trivial)
    (g := F0 (zmi C) pc ls (.int (Int32.ofNat (zal c)) :: .int 0 :: .ref a :: .int 0 :: .ref a0 :: rest)) rfl (by rw [hF.1.2.2.1]; exact hl.1) (rest := rest) rfl (by rw [hF.1.2.1]; exact hdg) hf (by show 2 * 0 + _ + _ ≤ _; omega)
  have e2 : copied (arrV (zcy G 2) (zal c) (fun j => .long (zJ m c o0 j))) (arrV (zcy G 2) (zal c) (fun j => .long (zJ m c o j))) 0 0 (Int32.ofNat (zal c)) = arrV (zcy G 2) (zal c) (fun j => .long (zJ m c o0 j)) := by
    have h4 : (0 : Int32).toNatClampNeg + (Int32.ofNat (zal c)).toNatClampNeg ≤ zal c := by rw [e0]; exact Nat.le_of_eq (Nat.zero_add _)
    have h5 := va_copied (fun z => .long z) (zcy G 2) (zcy G 2) (zJ m c o0) (zJ m c o) (n1 := zal c) (sp := (0 : Int32).toNatClampNeg) (dp := (0 : Int32).toNatClampNeg) (n := (Int32.ofNat (zal c)).toNatClampNeg) h4
    refine h5.trans ?_
    apply arrV_same
    intro j hj
    unfold va_cpy
    rw [if_pos ⟨Nat.zero_le _, by rw [e0]; show j < 0 + zal c; omega⟩]
    rw [show (0 : Int32).toNatClampNeg + (j - (0 : Int32).toNatClampNeg) = j from Nat.zero_add _]
  rw [e2] at X' step
  have hla : a < H.size := (Array.getElem?_eq_some_iff.mp hc1).1
  have hheap : ((T.setVm vm').setCell a (arrV (zcy G 2) (zal c) (fun j => .long (zJ m c o0 j)))).heap = H.setIfInBounds a (arrV (zcy G 2) (zal c) (fun j => .long (zJ m c o0 j))) := by rw [← hT]; rfl
  have oq : ∀ q : Nat, q ≠ a → (H.setIfInBounds a (arrV (zcy G 2) (zal c) (fun j => .long (zJ m c o0 j))))[q]? = H[q]? := fun q hq => by simp [Array.getElem?_setIfInBounds, Ne.symm hq]
  obtain ⟨t, a1, b1⟩ := K _ _ ls (zPic_upd hF.2.2.1 hP hk (by
      rw [z_cellA hc, z_adJ hty, hty]
      show (H.setIfInBounds a _)[a]? = some (vp_cell _ (_, Sum.inr (Sum.inl _)))
      rw [vp_cell_l]
      rw [Array.getElem?_setIfInBounds, if_pos rfl, if_pos hla]
      congr 2
      funext j
      simp [zJ_cJ]) (by simp) oq (z_agcJ (by unfold zkf zkey; rw [if_neg hc, if_neg hc])) hP.2.2) ⟨by simp; exact hS.1, fun q g1 g2 => by
      rw [oq q (fun e => g2 (by rw [e]; exact hF.2.2.2.1 _ _ hk))]
      exact hS.2.1 q g1 g2, fun q hq => by
      rcases List.mem_append.mp hq with h | h
      · exact hS.2.2 q h
      · obtain ⟨z, -, hz⟩ := List.mem_map.mp h
        rw [← hz]
        exact hF.2.2.2.1 _ _ hk⟩ hl _ hheap X'
  exact ⟨t, step t a1, b1⟩
theorem zI_n {m : zM} {f a j f' a' j' : Nat} {v : Int32} (h : f' ≠ f) : zI (zsI m f a j v) f' a' j' = zI m f' a' j' := if_neg (fun q => h q.1)
theorem zI_nj {m : zM} {f a j f' a' j' : Nat} {v : Int32} (h : j' ≠ j) : zI (zsI m f a j v) f' a' j' = zI m f' a' j' := if_neg (fun q => h q.2.2)
theorem zI_e {m : zM} {f a j : Nat} {v : Int32} : zI (zsI m f a j v) f a j = v := if_pos ⟨rfl, rfl, rfl⟩
theorem zI_cn {m : zM} {f a f' a' j' : Nat} {g : Nat → Int32} (h : f' ≠ f) : zI (zcI m f a g) f' a' j' = zI m f' a' j' := if_neg (fun q => h q.1)
theorem zI_ce {m : zM} {f a j : Nat} {g : Nat → Int32} : zI (zcI m f a g) f a j = g j := if_pos ⟨rfl, rfl⟩
theorem zI_J : ∀ {m : zM} {f a j f' a' j' : Nat} {v : Int64}, zI (zsJ m f a j v) f' a' j' = zI m f' a' j' := rfl
theorem zI_sJ' : ∀ {m : zM} {f a j f' a' j' : Nat} {v : Int64}, zI (zsJ m f a j v) f' a' j' = zI m f' a' j' := rfl
theorem zI_R : ∀ {m : zM} {f a f' a' j' v : Nat}, zI (zsR m f a v) f' a' j' = zI m f' a' j' := rfl
theorem zI_CJ : ∀ {m : zM} {f a f' a' j' : Nat} {g : Nat → Int64}, zI (zcJ m f a g) f' a' j' = zI m f' a' j' := rfl
theorem zJ_n {m : zM} {f a j f' a' j' : Nat} {v : Int64} (h : f' ≠ f) : zJ (zsJ m f a j v) f' a' j' = zJ m f' a' j' := if_neg (fun q => h q.1)
theorem zJ_nj {m : zM} {f a j f' a' j' : Nat} {v : Int64} (h : j' ≠ j) : zJ (zsJ m f a j v) f' a' j' = zJ m f' a' j' := if_neg (fun q => h q.2.2)
theorem zJ_e {m : zM} {f a j : Nat} {v : Int64} : zJ (zsJ m f a j v) f a j = v := if_pos ⟨rfl, rfl, rfl⟩
theorem zJ_cn {m : zM} {f a f' a' j' : Nat} {g : Nat → Int64} (h : f' ≠ f) : zJ (zcJ m f a g) f' a' j' = zJ m f' a' j' := if_neg (fun q => h q.1)
theorem zJ_ce {m : zM} {f a j : Nat} {g : Nat → Int64} : zJ (zcJ m f a g) f a j = g j := if_pos ⟨rfl, rfl⟩
theorem zJ_I : ∀ {m : zM} {f a j f' a' j' : Nat} {v : Int32}, zJ (zsI m f a j v) f' a' j' = zJ m f' a' j' := rfl
theorem zJ_R : ∀ {m : zM} {f a f' a' j' v : Nat}, zJ (zsR m f a v) f' a' j' = zJ m f' a' j' := rfl
theorem zJ_CI : ∀ {m : zM} {f a f' a' j' : Nat} {g : Nat → Int32}, zJ (zcI m f a g) f' a' j' = zJ m f' a' j' := rfl
theorem zR_n {m : zM} {f a f' a' v : Nat} (h : f' ≠ f) : zR (zsR m f a v) f' a' = zR m f' a' := if_neg (fun q => h q.1)
theorem zR_e {m : zM} {f a v : Nat} : zR (zsR m f a v) f a = v := if_pos ⟨rfl, rfl⟩
theorem zR_I : ∀ {m : zM} {f a j f' a' : Nat} {v : Int32}, zR (zsI m f a j v) f' a' = zR m f' a' := rfl
theorem zR_J : ∀ {m : zM} {f a j f' a' : Nat} {v : Int64}, zR (zsJ m f a j v) f' a' = zR m f' a' := rfl
theorem zR_CI : ∀ {m : zM} {f a f' a' : Nat} {g : Nat → Int32}, zR (zcI m f a g) f' a' = zR m f' a' := rfl
theorem zR_CJ : ∀ {m : zM} {f a f' a' : Nat} {g : Nat → Int64}, zR (zcJ m f a g) f' a' = zR m f' a' := rfl
theorem zx_topI {x y : Int32} (e : x = y) (K : zX C nL k n pc L (.int y :: rest) P) : zX C nL k n pc L (.int x :: rest) P := by rw [e]; exact K
theorem zx_topJ {x y : Int64} (e : x = y) (K : zX C nL k n pc L (.long y :: rest) P) : zX C nL k n pc L (.long x :: rest) P := by rw [e]; exact K
theorem zx_topR {x y : Nat} (e : x = y) (K : zX C nL k n pc L (.ref y :: rest) P) : zX C nL k n pc L (.ref x :: rest) P := by rw [e]; exact K
end ZR2
