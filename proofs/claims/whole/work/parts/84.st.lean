/-! the law's start: what the Statement gives -/
abbrev T9 : Cond := Jvm.Cond.and given_1 narrow_1
def tmR (i : Nat) : Term := .string RX4 (zixs.getD i 0)
abbrev tmV (i : Nat) : Term := .field (tmR i) "java/lang/String" "value" "[B"
set_option maxRecDepth 100000 in
theorem q_ex : ∀ i, i < 13 → Cond.exactly (tmR i) "java/lang/String" ∈ flatC T9 := by decide +kernel
set_option maxRecDepth 100000 in
theorem q_co : ∀ i, i < 13 → Cond.eq (.field (tmR i) "java/lang/String" "coder" "B") (.int 0) ∈ flatC T9 := by decide +kernel
set_option maxRecDepth 100000 in
theorem q_ar : ∀ i, i < 13 → Cond.arrayOf (tmV i) .byte ∈ flatC T9 := by decide +kernel
set_option maxRecDepth 100000 in
theorem q_le : ∀ i, i < 13 → Cond.eq (.length (tmV i)) (.int (Int32.ofNat (zlens.getD i 0))) ∈ flatC T9 := by decide +kernel
set_option maxRecDepth 100000 in
theorem q_el : ∀ i, i < 13 → ∀ j, j < zlens.getD i 0 → Cond.eq (.elem (tmV i) (.int (Int32.ofNat j))) (.int ((zbyts.getD i []).getD j 0)) ∈ flatC T9 := by decide +kernel
set_option maxRecDepth 100000 in
theorem q_n_0_1 : Cond.not (Cond.eq (tmR 0) (tmR 1)) ∈ flatC T9 := by decide +kernel
set_option maxRecDepth 100000 in
theorem q_n_0_2 : Cond.not (Cond.eq (tmR 0) (tmR 2)) ∈ flatC T9 := by decide +kernel
set_option maxRecDepth 100000 in
theorem q_n_0_3 : Cond.not (Cond.eq (tmR 0) (tmR 3)) ∈ flatC T9 := by decide +kernel
set_option maxRecDepth 100000 in
theorem q_n_0_4 : Cond.not (Cond.eq (tmR 0) (tmR 4)) ∈ flatC T9 := by decide +kernel
set_option maxRecDepth 100000 in
theorem q_n_0_5 : Cond.not (Cond.eq (tmR 0) (tmR 5)) ∈ flatC T9 := by decide +kernel
set_option maxRecDepth 100000 in
theorem q_n_0_6 : Cond.not (Cond.eq (tmR 0) (tmR 6)) ∈ flatC T9 := by decide +kernel
set_option maxRecDepth 100000 in
theorem q_n_0_7 : Cond.not (Cond.eq (tmR 0) (tmR 7)) ∈ flatC T9 := by decide +kernel
set_option maxRecDepth 100000 in
theorem q_n_0_8 : Cond.not (Cond.eq (tmR 0) (tmR 8)) ∈ flatC T9 := by decide +kernel
set_option maxRecDepth 100000 in
theorem q_n_0_9 : Cond.not (Cond.eq (tmR 0) (tmR 9)) ∈ flatC T9 := by decide +kernel
set_option maxRecDepth 100000 in
theorem q_n_0_10 : Cond.not (Cond.eq (tmR 0) (tmR 10)) ∈ flatC T9 := by decide +kernel
set_option maxRecDepth 100000 in
theorem q_n_0_11 : Cond.not (Cond.eq (tmR 0) (tmR 11)) ∈ flatC T9 := by decide +kernel
set_option maxRecDepth 100000 in
theorem q_n_0_12 : Cond.not (Cond.eq (tmR 0) (tmR 12)) ∈ flatC T9 := by decide +kernel
set_option maxRecDepth 100000 in
theorem q_n_1_2 : Cond.not (Cond.eq (tmR 2) (tmR 1)) ∈ flatC T9 := by decide +kernel
set_option maxRecDepth 100000 in
theorem q_n_1_3 : Cond.not (Cond.eq (tmR 3) (tmR 1)) ∈ flatC T9 := by decide +kernel
set_option maxRecDepth 100000 in
theorem q_n_1_4 : Cond.not (Cond.eq (tmR 4) (tmR 1)) ∈ flatC T9 := by decide +kernel
set_option maxRecDepth 100000 in
theorem q_n_1_5 : Cond.not (Cond.eq (tmR 5) (tmR 1)) ∈ flatC T9 := by decide +kernel
set_option maxRecDepth 100000 in
theorem q_n_1_6 : Cond.not (Cond.eq (tmR 6) (tmR 1)) ∈ flatC T9 := by decide +kernel
set_option maxRecDepth 100000 in
theorem q_n_1_7 : Cond.not (Cond.eq (tmR 7) (tmR 1)) ∈ flatC T9 := by decide +kernel
set_option maxRecDepth 100000 in
theorem q_n_1_8 : Cond.not (Cond.eq (tmR 8) (tmR 1)) ∈ flatC T9 := by decide +kernel
set_option maxRecDepth 100000 in
theorem q_n_1_9 : Cond.not (Cond.eq (tmR 1) (tmR 9)) ∈ flatC T9 := by decide +kernel
set_option maxRecDepth 100000 in
theorem q_n_1_10 : Cond.not (Cond.eq (tmR 1) (tmR 10)) ∈ flatC T9 := by decide +kernel
set_option maxRecDepth 100000 in
theorem q_n_1_11 : Cond.not (Cond.eq (tmR 1) (tmR 11)) ∈ flatC T9 := by decide +kernel
set_option maxRecDepth 100000 in
theorem q_n_1_12 : Cond.not (Cond.eq (tmR 1) (tmR 12)) ∈ flatC T9 := by decide +kernel
set_option maxRecDepth 100000 in
theorem q_n_2_3 : Cond.not (Cond.eq (tmR 2) (tmR 3)) ∈ flatC T9 := by decide +kernel
set_option maxRecDepth 100000 in
theorem q_n_2_4 : Cond.not (Cond.eq (tmR 2) (tmR 4)) ∈ flatC T9 := by decide +kernel
set_option maxRecDepth 100000 in
theorem q_n_2_5 : Cond.not (Cond.eq (tmR 2) (tmR 5)) ∈ flatC T9 := by decide +kernel
set_option maxRecDepth 100000 in
theorem q_n_2_6 : Cond.not (Cond.eq (tmR 2) (tmR 6)) ∈ flatC T9 := by decide +kernel
set_option maxRecDepth 100000 in
theorem q_n_2_7 : Cond.not (Cond.eq (tmR 2) (tmR 7)) ∈ flatC T9 := by decide +kernel
set_option maxRecDepth 100000 in
theorem q_n_2_8 : Cond.not (Cond.eq (tmR 2) (tmR 8)) ∈ flatC T9 := by decide +kernel
set_option maxRecDepth 100000 in
theorem q_n_2_9 : Cond.not (Cond.eq (tmR 2) (tmR 9)) ∈ flatC T9 := by decide +kernel
set_option maxRecDepth 100000 in
theorem q_n_2_10 : Cond.not (Cond.eq (tmR 2) (tmR 10)) ∈ flatC T9 := by decide +kernel
set_option maxRecDepth 100000 in
theorem q_n_2_11 : Cond.not (Cond.eq (tmR 2) (tmR 11)) ∈ flatC T9 := by decide +kernel
set_option maxRecDepth 100000 in
theorem q_n_2_12 : Cond.not (Cond.eq (tmR 2) (tmR 12)) ∈ flatC T9 := by decide +kernel
set_option maxRecDepth 100000 in
theorem q_n_3_4 : Cond.not (Cond.eq (tmR 3) (tmR 4)) ∈ flatC T9 := by decide +kernel
set_option maxRecDepth 100000 in
theorem q_n_3_5 : Cond.not (Cond.eq (tmR 3) (tmR 5)) ∈ flatC T9 := by decide +kernel
set_option maxRecDepth 100000 in
theorem q_n_3_6 : Cond.not (Cond.eq (tmR 3) (tmR 6)) ∈ flatC T9 := by decide +kernel
set_option maxRecDepth 100000 in
theorem q_n_3_7 : Cond.not (Cond.eq (tmR 3) (tmR 7)) ∈ flatC T9 := by decide +kernel
set_option maxRecDepth 100000 in
theorem q_n_3_8 : Cond.not (Cond.eq (tmR 3) (tmR 8)) ∈ flatC T9 := by decide +kernel
set_option maxRecDepth 100000 in
theorem q_n_3_9 : Cond.not (Cond.eq (tmR 3) (tmR 9)) ∈ flatC T9 := by decide +kernel
set_option maxRecDepth 100000 in
theorem q_n_3_10 : Cond.not (Cond.eq (tmR 3) (tmR 10)) ∈ flatC T9 := by decide +kernel
set_option maxRecDepth 100000 in
theorem q_n_3_11 : Cond.not (Cond.eq (tmR 3) (tmR 11)) ∈ flatC T9 := by decide +kernel
set_option maxRecDepth 100000 in
theorem q_n_3_12 : Cond.not (Cond.eq (tmR 3) (tmR 12)) ∈ flatC T9 := by decide +kernel
set_option maxRecDepth 100000 in
theorem q_n_4_5 : Cond.not (Cond.eq (tmR 4) (tmR 5)) ∈ flatC T9 := by decide +kernel
set_option maxRecDepth 100000 in
theorem q_n_4_6 : Cond.not (Cond.eq (tmR 4) (tmR 6)) ∈ flatC T9 := by decide +kernel
set_option maxRecDepth 100000 in
theorem q_n_4_7 : Cond.not (Cond.eq (tmR 4) (tmR 7)) ∈ flatC T9 := by decide +kernel
set_option maxRecDepth 100000 in
theorem q_n_4_8 : Cond.not (Cond.eq (tmR 4) (tmR 8)) ∈ flatC T9 := by decide +kernel
set_option maxRecDepth 100000 in
theorem q_n_4_9 : Cond.not (Cond.eq (tmR 4) (tmR 9)) ∈ flatC T9 := by decide +kernel
set_option maxRecDepth 100000 in
theorem q_n_4_10 : Cond.not (Cond.eq (tmR 4) (tmR 10)) ∈ flatC T9 := by decide +kernel
set_option maxRecDepth 100000 in
theorem q_n_4_11 : Cond.not (Cond.eq (tmR 4) (tmR 11)) ∈ flatC T9 := by decide +kernel
set_option maxRecDepth 100000 in
theorem q_n_4_12 : Cond.not (Cond.eq (tmR 4) (tmR 12)) ∈ flatC T9 := by decide +kernel
set_option maxRecDepth 100000 in
theorem q_n_5_6 : Cond.not (Cond.eq (tmR 5) (tmR 6)) ∈ flatC T9 := by decide +kernel
set_option maxRecDepth 100000 in
theorem q_n_5_7 : Cond.not (Cond.eq (tmR 5) (tmR 7)) ∈ flatC T9 := by decide +kernel
set_option maxRecDepth 100000 in
theorem q_n_5_8 : Cond.not (Cond.eq (tmR 5) (tmR 8)) ∈ flatC T9 := by decide +kernel
set_option maxRecDepth 100000 in
theorem q_n_5_9 : Cond.not (Cond.eq (tmR 5) (tmR 9)) ∈ flatC T9 := by decide +kernel
set_option maxRecDepth 100000 in
theorem q_n_5_10 : Cond.not (Cond.eq (tmR 5) (tmR 10)) ∈ flatC T9 := by decide +kernel
set_option maxRecDepth 100000 in
theorem q_n_5_11 : Cond.not (Cond.eq (tmR 5) (tmR 11)) ∈ flatC T9 := by decide +kernel
set_option maxRecDepth 100000 in
theorem q_n_5_12 : Cond.not (Cond.eq (tmR 5) (tmR 12)) ∈ flatC T9 := by decide +kernel
set_option maxRecDepth 100000 in
theorem q_n_6_7 : Cond.not (Cond.eq (tmR 6) (tmR 7)) ∈ flatC T9 := by decide +kernel
set_option maxRecDepth 100000 in
theorem q_n_6_8 : Cond.not (Cond.eq (tmR 6) (tmR 8)) ∈ flatC T9 := by decide +kernel
set_option maxRecDepth 100000 in
theorem q_n_6_9 : Cond.not (Cond.eq (tmR 6) (tmR 9)) ∈ flatC T9 := by decide +kernel
set_option maxRecDepth 100000 in
theorem q_n_6_10 : Cond.not (Cond.eq (tmR 6) (tmR 10)) ∈ flatC T9 := by decide +kernel
set_option maxRecDepth 100000 in
theorem q_n_6_11 : Cond.not (Cond.eq (tmR 6) (tmR 11)) ∈ flatC T9 := by decide +kernel
set_option maxRecDepth 100000 in
theorem q_n_6_12 : Cond.not (Cond.eq (tmR 6) (tmR 12)) ∈ flatC T9 := by decide +kernel
set_option maxRecDepth 100000 in
theorem q_n_7_8 : Cond.not (Cond.eq (tmR 7) (tmR 8)) ∈ flatC T9 := by decide +kernel
set_option maxRecDepth 100000 in
theorem q_n_7_9 : Cond.not (Cond.eq (tmR 7) (tmR 9)) ∈ flatC T9 := by decide +kernel
set_option maxRecDepth 100000 in
theorem q_n_7_10 : Cond.not (Cond.eq (tmR 7) (tmR 10)) ∈ flatC T9 := by decide +kernel
set_option maxRecDepth 100000 in
theorem q_n_7_11 : Cond.not (Cond.eq (tmR 7) (tmR 11)) ∈ flatC T9 := by decide +kernel
set_option maxRecDepth 100000 in
theorem q_n_7_12 : Cond.not (Cond.eq (tmR 7) (tmR 12)) ∈ flatC T9 := by decide +kernel
set_option maxRecDepth 100000 in
theorem q_n_8_9 : Cond.not (Cond.eq (tmR 8) (tmR 9)) ∈ flatC T9 := by decide +kernel
set_option maxRecDepth 100000 in
theorem q_n_8_10 : Cond.not (Cond.eq (tmR 8) (tmR 10)) ∈ flatC T9 := by decide +kernel
set_option maxRecDepth 100000 in
theorem q_n_8_11 : Cond.not (Cond.eq (tmR 8) (tmR 11)) ∈ flatC T9 := by decide +kernel
set_option maxRecDepth 100000 in
theorem q_n_8_12 : Cond.not (Cond.eq (tmR 8) (tmR 12)) ∈ flatC T9 := by decide +kernel
set_option maxRecDepth 100000 in
theorem q_n_9_10 : Cond.not (Cond.eq (tmR 9) (tmR 10)) ∈ flatC T9 := by decide +kernel
set_option maxRecDepth 100000 in
theorem q_n_9_11 : Cond.not (Cond.eq (tmR 9) (tmR 11)) ∈ flatC T9 := by decide +kernel
set_option maxRecDepth 100000 in
theorem q_n_9_12 : Cond.not (Cond.eq (tmR 9) (tmR 12)) ∈ flatC T9 := by decide +kernel
set_option maxRecDepth 100000 in
theorem q_n_10_11 : Cond.not (Cond.eq (tmR 10) (tmR 11)) ∈ flatC T9 := by decide +kernel
set_option maxRecDepth 100000 in
theorem q_n_10_12 : Cond.not (Cond.eq (tmR 10) (tmR 12)) ∈ flatC T9 := by decide +kernel
set_option maxRecDepth 100000 in
theorem q_n_11_12 : Cond.not (Cond.eq (tmR 11) (tmR 12)) ∈ flatC T9 := by decide +kernel
set_option maxRecDepth 100000 in
theorem q_ne : ∀ i j, i < 13 → j < 13 → i ≠ j → Cond.not (Cond.eq (tmR i) (tmR j)) ∈ flatC T9 ∨ Cond.not (Cond.eq (tmR j) (tmR i)) ∈ flatC T9 := by
  have key : ∀ i j, i < j → j < 13 → Cond.not (Cond.eq (tmR i) (tmR j)) ∈ flatC T9 ∨ Cond.not (Cond.eq (tmR j) (tmR i)) ∈ flatC T9 := by
    intro i j h1 h2
    rcases (show i = 0 ∨ i = 1 ∨ i = 2 ∨ i = 3 ∨ i = 4 ∨ i = 5 ∨ i = 6 ∨ i = 7 ∨ i = 8 ∨ i = 9 ∨ i = 10 ∨ i = 11 by omega) with rfl | rfl | rfl | rfl | rfl | rfl | rfl | rfl | rfl | rfl | rfl | rfl
    · rcases (show j = 1 ∨ j = 2 ∨ j = 3 ∨ j = 4 ∨ j = 5 ∨ j = 6 ∨ j = 7 ∨ j = 8 ∨ j = 9 ∨ j = 10 ∨ j = 11 ∨ j = 12 by omega) with rfl | rfl | rfl | rfl | rfl | rfl | rfl | rfl | rfl | rfl | rfl | rfl
      · exact Or.inl q_n_0_1
      · exact Or.inl q_n_0_2
      · exact Or.inl q_n_0_3
      · exact Or.inl q_n_0_4
      · exact Or.inl q_n_0_5
      · exact Or.inl q_n_0_6
      · exact Or.inl q_n_0_7
      · exact Or.inl q_n_0_8
      · exact Or.inl q_n_0_9
      · exact Or.inl q_n_0_10
      · exact Or.inl q_n_0_11
      · exact Or.inl q_n_0_12
    · rcases (show j = 2 ∨ j = 3 ∨ j = 4 ∨ j = 5 ∨ j = 6 ∨ j = 7 ∨ j = 8 ∨ j = 9 ∨ j = 10 ∨ j = 11 ∨ j = 12 by omega) with rfl | rfl | rfl | rfl | rfl | rfl | rfl | rfl | rfl | rfl | rfl
      · exact Or.inr q_n_1_2
      · exact Or.inr q_n_1_3
      · exact Or.inr q_n_1_4
      · exact Or.inr q_n_1_5
      · exact Or.inr q_n_1_6
      · exact Or.inr q_n_1_7
      · exact Or.inr q_n_1_8
      · exact Or.inl q_n_1_9
      · exact Or.inl q_n_1_10
      · exact Or.inl q_n_1_11
      · exact Or.inl q_n_1_12
    · rcases (show j = 3 ∨ j = 4 ∨ j = 5 ∨ j = 6 ∨ j = 7 ∨ j = 8 ∨ j = 9 ∨ j = 10 ∨ j = 11 ∨ j = 12 by omega) with rfl | rfl | rfl | rfl | rfl | rfl | rfl | rfl | rfl | rfl
      · exact Or.inl q_n_2_3
      · exact Or.inl q_n_2_4
      · exact Or.inl q_n_2_5
      · exact Or.inl q_n_2_6
      · exact Or.inl q_n_2_7
      · exact Or.inl q_n_2_8
      · exact Or.inl q_n_2_9
      · exact Or.inl q_n_2_10
      · exact Or.inl q_n_2_11
      · exact Or.inl q_n_2_12
    · rcases (show j = 4 ∨ j = 5 ∨ j = 6 ∨ j = 7 ∨ j = 8 ∨ j = 9 ∨ j = 10 ∨ j = 11 ∨ j = 12 by omega) with rfl | rfl | rfl | rfl | rfl | rfl | rfl | rfl | rfl
      · exact Or.inl q_n_3_4
      · exact Or.inl q_n_3_5
      · exact Or.inl q_n_3_6
      · exact Or.inl q_n_3_7
      · exact Or.inl q_n_3_8
      · exact Or.inl q_n_3_9
      · exact Or.inl q_n_3_10
      · exact Or.inl q_n_3_11
      · exact Or.inl q_n_3_12
    · rcases (show j = 5 ∨ j = 6 ∨ j = 7 ∨ j = 8 ∨ j = 9 ∨ j = 10 ∨ j = 11 ∨ j = 12 by omega) with rfl | rfl | rfl | rfl | rfl | rfl | rfl | rfl
      · exact Or.inl q_n_4_5
      · exact Or.inl q_n_4_6
      · exact Or.inl q_n_4_7
      · exact Or.inl q_n_4_8
      · exact Or.inl q_n_4_9
      · exact Or.inl q_n_4_10
      · exact Or.inl q_n_4_11
      · exact Or.inl q_n_4_12
    · rcases (show j = 6 ∨ j = 7 ∨ j = 8 ∨ j = 9 ∨ j = 10 ∨ j = 11 ∨ j = 12 by omega) with rfl | rfl | rfl | rfl | rfl | rfl | rfl
      · exact Or.inl q_n_5_6
      · exact Or.inl q_n_5_7
      · exact Or.inl q_n_5_8
      · exact Or.inl q_n_5_9
      · exact Or.inl q_n_5_10
      · exact Or.inl q_n_5_11
      · exact Or.inl q_n_5_12
    · rcases (show j = 7 ∨ j = 8 ∨ j = 9 ∨ j = 10 ∨ j = 11 ∨ j = 12 by omega) with rfl | rfl | rfl | rfl | rfl | rfl
      · exact Or.inl q_n_6_7
      · exact Or.inl q_n_6_8
      · exact Or.inl q_n_6_9
      · exact Or.inl q_n_6_10
      · exact Or.inl q_n_6_11
      · exact Or.inl q_n_6_12
    · rcases (show j = 8 ∨ j = 9 ∨ j = 10 ∨ j = 11 ∨ j = 12 by omega) with rfl | rfl | rfl | rfl | rfl
      · exact Or.inl q_n_7_8
      · exact Or.inl q_n_7_9
      · exact Or.inl q_n_7_10
      · exact Or.inl q_n_7_11
      · exact Or.inl q_n_7_12
    · rcases (show j = 9 ∨ j = 10 ∨ j = 11 ∨ j = 12 by omega) with rfl | rfl | rfl | rfl
      · exact Or.inl q_n_8_9
      · exact Or.inl q_n_8_10
      · exact Or.inl q_n_8_11
      · exact Or.inl q_n_8_12
    · rcases (show j = 10 ∨ j = 11 ∨ j = 12 by omega) with rfl | rfl | rfl
      · exact Or.inl q_n_9_10
      · exact Or.inl q_n_9_11
      · exact Or.inl q_n_9_12
    · rcases (show j = 11 ∨ j = 12 by omega) with rfl | rfl
      · exact Or.inl q_n_10_11
      · exact Or.inl q_n_10_12
    · obtain rfl : j = 12 := by omega
      exact Or.inl q_n_11_12
  intro i j hi hj hij
  rcases Nat.lt_or_gt_of_ne hij with h | h
  · exact key i j h hj
  · exact (key j i h hi).symm
set_option maxRecDepth 100000 in
theorem q_cs : Cond.eq (.static "java/lang/String" "COMPACT_STRINGS" "Z") (.int 1) ∈ flatC T9 := by decide +kernel
set_option maxRecDepth 100000 in
theorem q_fm : Cond.isRef (.static "jdk/internal/util/Preconditions" "SIOOBE_FORMATTER" "Ljava/util/function/BiFunction;") ∈ flatC T9 := by decide +kernel
set_option maxRecDepth 100000 in
theorem q_sr : ∀ i, i < 13 → Cond.stringRef RX4 (zixs.getD i 0) (ztxs.getD i "") ∈ lw_tbl := by
  intro i hi
  rcases (show i = 0 ∨ i = 1 ∨ i = 2 ∨ i = 3 ∨ i = 4 ∨ i = 5 ∨ i = 6 ∨ i = 7 ∨ i = 8 ∨ i = 9 ∨ i = 10 ∨ i = 11 ∨ i = 12 by omega) with rfl | rfl | rfl | rfl | rfl | rfl | rfl | rfl | rfl | rfl | rfl | rfl | rfl
  · exact List.mem_of_getElem? (i := 349) (by decide +kernel)
  · exact List.mem_of_getElem? (i := 429) (by decide +kernel)
  · exact List.mem_of_getElem? (i := 410) (by decide +kernel)
  · exact List.mem_of_getElem? (i := 415) (by decide +kernel)
  · exact List.mem_of_getElem? (i := 416) (by decide +kernel)
  · exact List.mem_of_getElem? (i := 417) (by decide +kernel)
  · exact List.mem_of_getElem? (i := 418) (by decide +kernel)
  · exact List.mem_of_getElem? (i := 419) (by decide +kernel)
  · exact List.mem_of_getElem? (i := 420) (by decide +kernel)
  · exact List.mem_of_getElem? (i := 438) (by decide +kernel)
  · exact List.mem_of_getElem? (i := 439) (by decide +kernel)
  · exact List.mem_of_getElem? (i := 440) (by decide +kernel)
  · exact List.mem_of_getElem? (i := 441) (by decide +kernel)
