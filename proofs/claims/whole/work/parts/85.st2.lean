set_option maxRecDepth 100000 in
theorem zNs_0 {s : State} {args : Array Value} (hts : ∀ w ∈ lw_tbl, w.before args s = true) : zNs s :=
  ⟨va_Nw.of rfl (hts (.methodLinkNest RX0 23 yX2_init "ClaimsFund") (List.mem_of_getElem? (i := 84) (by decide +kernel))), va_Nw.of rfl (hts (.methodLinkNest RX0 38 yX1_init "ClaimsFund") (List.mem_of_getElem? (i := 120) (by decide +kernel))), va_Nw.of rfl (hts (.methodLinkNest RX1 17 yX3_init "ClaimsFund") (List.mem_of_getElem? (i := 126) (by decide +kernel))), va_Nw.of rfl (hts (.methodLinkNest RX5 22 yX2_init "ClaimsFund") (List.mem_of_getElem? (i := 253) (by decide +kernel))), va_AO.of (A := args) (hts (.arrayOver (.object "ClaimsFund$Claim")) (List.mem_of_getElem? (i := 118) (by decide +kernel))), va_AO.of (A := args) (hts (.arrayOver (.object "ClaimsFund$Book")) (List.mem_of_getElem? (i := 251) (by decide +kernel))), va_Nw.of rfl (hts (.fieldLinkNest RX5 65 RX4 "fault" "I" "ClaimsFund") (List.mem_of_getElem? (i := 306) (by decide +kernel))), va_Nw.of rfl (hts (.fieldLinkNest RX5 68 RX4 "place" "I" "ClaimsFund") (List.mem_of_getElem? (i := 308) (by decide +kernel)))⟩
set_option maxRecDepth 100000 in
theorem arr_p {s : State} {args : Array Value} {ty : FieldType} (hp : ∀ C, ty ≠ .object C) (h : (Cond.arrayClass ty).before args s = true) : ∃ cA, ArrOfT s cA ty ∧ va_RA s cA ty := by
  obtain ⟨c, k, comp, h1, h2, h3⟩ := Cond.arrayClass_spec h
  refine ⟨c, fun n z => ⟨fun k h => (by cases h), k, h2, comp, h3⟩, ?_⟩
  cases ty with
  | object C => exact absurd rfl (hp C)
  | _ => exact h1
set_option maxRecDepth 100000 in
theorem arr_o {s : State} {args : Array Value} {C : String} (h : (Cond.arrayOver (.object C)).before args s = true) : ∃ cA, ArrOfT s cA (.object C) ∧ va_RA s cA (.object C) := by
  obtain ⟨comp, c, k, h1, h2, h3, h4, h5⟩ := Cond.arrayOver_spec h
  exact ⟨c, fun n z => ⟨fun k h => (by cases h), k, h3, comp, h4⟩, k, comp, h3, h4, h1, h5⟩
set_option maxRecDepth 100000 in
theorem zK_0 {s : State} {args : Array Value} (hts : ∀ w ∈ lw_tbl, w.before args s = true) : ∃ (D : va_G) (cy : Nat → ClassId), va_K D vwCl [(cy 0, .byte), (cy 1, .int), (cy 2, .long), (cy 3, .boolean), (cy 4, .object "ClaimsFund$Book"), (cy 5, .object "ClaimsFund$Claim")] s := by
  obtain ⟨c0, i0, k0⟩ := u_known (C := RX0) (T := TX0) (N := 10) (n := 10) hts inX0 (hts (.instantiable RX0 10) (List.mem_of_getElem? (i := 76) (by decide +kernel)))
  obtain ⟨c1, i1, k1⟩ := u_known (C := RX1) (T := TX1) (N := 9) (n := 9) hts inX1 (hts (.instantiable RX1 9) (List.mem_of_getElem? (i := 119) (by decide +kernel)))
  obtain ⟨c2, i2, k2⟩ := u_known (C := RX2) (T := TX2) (N := 8) (n := 8) hts inX2 (hts (.instantiable RX2 8) (List.mem_of_getElem? (i := 83) (by decide +kernel)))
  obtain ⟨c3, i3, k3⟩ := u_known (C := RX3) (T := TX3) (N := 11) (n := 11) hts inX3 (hts (.instantiable RX3 11) (List.mem_of_getElem? (i := 125) (by decide +kernel)))
  obtain ⟨c4, i4, k4⟩ := u_known (C := RX4) (T := TX4) (N := 8) (n := 8) hts inX4 (hts (.instantiable RX4 8) (List.mem_of_getElem? (i := 294) (by decide +kernel)))
  obtain ⟨c5, i5, k5⟩ := u_known (C := RX5) (T := TX5) (N := 3) (n := 3) hts inX5 (hts (.instantiable RX5 3) (List.mem_of_getElem? (i := 68) (by decide +kernel)))
  obtain ⟨c6, i6, k6⟩ := u_known (C := RX6) (T := TX6) (N := 50) (n := 50) hts inX6 (hts (.instantiable RX6 50) (List.mem_of_getElem? (i := 738) (by decide +kernel)))
  obtain ⟨a0, b0⟩ := arr_p (ty := .byte) (fun _ h => by cases h) (hts (.arrayClass .byte) (List.mem_of_getElem? (i := 114) (by decide +kernel)))
  obtain ⟨a1, b1⟩ := arr_p (ty := .int) (fun _ h => by cases h) (hts (.arrayClass .int) (List.mem_of_getElem? (i := 115) (by decide +kernel)))
  obtain ⟨a2, b2⟩ := arr_p (ty := .long) (fun _ h => by cases h) (hts (.arrayClass .long) (List.mem_of_getElem? (i := 168) (by decide +kernel)))
  obtain ⟨a3, b3⟩ := arr_p (ty := .boolean) (fun _ h => by cases h) (hts (.arrayClass .boolean) (List.mem_of_getElem? (i := 116) (by decide +kernel)))
  obtain ⟨a4, b4⟩ := arr_o (C := "ClaimsFund$Book") (hts (.arrayOver (.object "ClaimsFund$Book")) (List.mem_of_getElem? (i := 251) (by decide +kernel)))
  obtain ⟨a5, b5⟩ := arr_o (C := "ClaimsFund$Claim") (hts (.arrayOver (.object "ClaimsFund$Claim")) (List.mem_of_getElem? (i := 118) (by decide +kernel)))
  refine ⟨(fun k => if k = 0 then c0 else if k = 1 then c1 else if k = 2 then c2 else if k = 3 then c3 else if k = 4 then c4 else if k = 5 then c5 else c6, fun k => if k = 0 then i0 else if k = 1 then i1 else if k = 2 then i2 else if k = 3 then i3 else if k = 4 then i4 else if k = 5 then i5 else i6), fun k => if k = 0 then a0 else if k = 1 then a1 else if k = 2 then a2 else if k = 3 then a3 else if k = 4 then a4 else a5, fun k q hq => ?_, fun k q hq => ?_⟩
  · match k, hq with
    | 0, hq => cases hq; exact k0
    | 1, hq => cases hq; exact k1
    | 2, hq => cases hq; exact k2
    | 3, hq => cases hq; exact k3
    | 4, hq => cases hq; exact k4
    | 5, hq => cases hq; exact k5
    | 6, hq => cases hq; exact k6
    | k + 7, hq => simp at hq
  · match k, hq with
    | 0, hq => cases hq; exact b0
    | 1, hq => cases hq; exact b1
    | 2, hq => cases hq; exact b2
    | 3, hq => cases hq; exact b3
    | 4, hq => cases hq; exact b4
    | 5, hq => cases hq; exact b5
    | k + 6, hq => simp at hq
set_option maxRecDepth 100000 in
/-- the empty world at the law's start -/
theorem zG_0 {s : State} {args : Array Value} (hts : ∀ w ∈ lw_tbl, w.before args s = true) (hgv : T9.before args s = true) : ∃ G : zG, zKs G s ∧ zsz G = s.heap.size ∧ zbs G = s.heap.size ∧ ∀ q, zK G q = none := by
  have hf := flat_of_before _ hgv
  have hA : ∀ a : Nat, a < s.heap.size → ¬ (fun q : Nat => s.heap.size ≤ q) a := fun a h => Nat.not_le.mpr h
  obtain ⟨D, cy, hK⟩ := zK_0 hts
  obtain ⟨aK, aV, hS, hE⟩ := vk_Sof (args := args) (s := s) (N := 13) (tm := tmR) (len := zlens) (byt := zbyts) (A := fun q : Nat => s.heap.size ≤ q) (by decide) (fun i hi => hf _ (q_ex i hi)) (fun i hi => hf _ (q_co i hi)) (fun i hi => hf _ (q_ar i hi)) (fun i hi => hf _ (q_le i hi)) (fun i hi j hj => hf _ (q_el i hi j hj)) (fun i j hi hj hij => (q_ne i j hi hj hij).imp (hf _) (hf _)) hA
  refine ⟨(D, cy, fun _ => none, s.heap.size, s.heap.size, aK, aV), ⟨hK, hS, fun i hi => vk_R.of (A := args) (hts _ (q_sr i hi)) (hE i hi), ?_, ?_⟩, rfl, rfl, fun _ => rfl⟩
  · exact va_Zof (hts (.laysStatic "java/lang/String" "COMPACT_STRINGS" "Z") (List.mem_of_getElem? (i := 367) (by decide +kernel))) (hts (.initialized RJ0) (List.mem_of_getElem? (i := 60) (by decide +kernel))) (va_eqt (hf _ q_cs)) hA
  · exact va_Zqof (hts (.laysStatic "jdk/internal/util/Preconditions" "SIOOBE_FORMATTER" "Ljava/util/function/BiFunction;") (List.mem_of_getElem? (i := 383) (by decide +kernel))) (hts (.initialized RJ3) (List.mem_of_getElem? (i := 62) (by decide +kernel))) (hf _ q_fm) hA
