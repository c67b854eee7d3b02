abbrev rm_X0_paidInAll : Room := { frames := 0, cells := 0, slots := 0, locals := 0 }
def Con_X0_paidInAll (l : Launch) (G : zG) (Pre : Nat → zM → Prop) (Post : Nat → zM → Int64 → Prop) : Prop := ∀ (a0 : Nat) (m : zM), zK G a0 = some (0, a0) → Pre a0 m → Met l yX0_paidInAll wsX0_paidInAll rm_X0_paidInAll (va_Pc [.ref a0] (fun U => zW G m U)) (va_Ql (fun r m' => m' = m ∧ Post a0 m r) (fun m' t => zW G m' t) (zdom G)) 0 0 (zdom G)
def St_X0_paidInAll (C : zC) (G : zG) (Qc : Array Value → State → Outcome → State → Prop) : Prop := zF C G cX0_paidInAll 7 wsX0_paidInAll RX0 ∧ zQm C Qc (some .long) 0 0 ∧ zRm C = rm_X0_paidInAll
def Pt_X0_paidInAll_0 (C : zC) (G : zG) (a0 : Nat) (m : zM) : Prop := zX C 7 0 0 0 [(0, .ref a0)] [] (zPic G m)
def Pt_X0_paidInAll_14 (C : zC) (G : zG) (l1 : Int64) (x5 : Int32) (a0 : Nat) (m : zM) : Prop := zX C 7 0 0 14 [(1, .long l1), (3, .ref (a0 + 10)), (4, .int 16), (5, .int x5)] [] (zPic G m)
set_option maxRecDepth 100000 in
theorem con_X0_paidInAll {l : Launch} {G : zG} (hL : zLay G) {Pre : Nat → zM → Prop} {Post : Nat → zM → Int64 → Prop} (h : ∀ (C : zC) (Qc : Array Value → State → Outcome → State → Prop), St_X0_paidInAll C G Qc → zl C = l → ∀ (a0 : Nat) (m : zM), zK G a0 = some (0, a0) → Pre a0 m → (∀ (r : Int64), Post a0 m r → zRet C G Qc (some (.long r)) m) → Pt_X0_paidInAll_0 C G a0 m) : Con_X0_paidInAll l G Pre Post := by
  intro a0 m ka0 hpre
  refine zMetD hL (by decide +kernel) rfl (Nat.le_of_ble_eq_true rfl) (fun C hF hQ hA hR hl hnm => ?_)
  exact h C _ ⟨hF, hQ, hR⟩ hl a0 m ka0 hpre (fun r hp => zRet_to hF (fun t hw hf => ⟨⟨r, m, rfl, ⟨rfl, hp⟩, hw⟩, hf.1, by rw [← hA]; exact hf.2⟩))
abbrev rm_X5_fund : Room := { frames := 1, cells := 0, slots := 0, locals := 26 }
def Con_X5_fund (l : Launch) (G : zG) (Pre : Nat → Int64 → zM → Prop) (Post : Nat → Int64 → zM → Int32 → zM → Prop) : Prop := ∀ (a0 : Nat) (l1 : Int64) (m : zM), zK G a0 = some (5, a0) → Pre a0 l1 m → Met l yX5_fund wsX5_fund rm_X5_fund (va_Pc [.ref a0, .long l1] (fun U => zW G m U)) (va_Qi (fun r m' => Post a0 l1 m r m') (fun m' t => zW G m' t) (zdom G)) 0 0 (zdom G)
def St_X5_fund (C : zC) (G : zG) (Qc : Array Value → State → Outcome → State → Prop) : Prop := zF C G cX5_fund 3 wsX5_fund RX5 ∧ zQm C Qc (some .boolean) 0 0 ∧ zRm C = rm_X5_fund
def Pt_X5_fund_0 (C : zC) (G : zG) (a0 : Nat) (l1 : Int64) (m : zM) : Prop := zX C 3 0 0 0 [(0, .ref a0), (1, .long l1)] [] (zPic G m)
set_option maxRecDepth 100000 in
theorem con_X5_fund {l : Launch} {G : zG} (hL : zLay G) {Pre : Nat → Int64 → zM → Prop} {Post : Nat → Int64 → zM → Int32 → zM → Prop} (h : ∀ (C : zC) (Qc : Array Value → State → Outcome → State → Prop), St_X5_fund C G Qc → zl C = l → ∀ (a0 : Nat) (l1 : Int64) (m : zM), zK G a0 = some (5, a0) → Pre a0 l1 m → (∀ (r : Int32) (m' : zM), Post a0 l1 m r m' → zRet C G Qc (some (.int r)) m') → Pt_X5_fund_0 C G a0 l1 m) : Con_X5_fund l G Pre Post := by
  intro a0 l1 m ka0 hpre
  refine zMetD hL (by decide +kernel) rfl (Nat.le_of_ble_eq_true rfl) (fun C hF hQ hA hR hl hnm => ?_)
  exact h C _ ⟨hF, hQ, hR⟩ hl a0 l1 m ka0 hpre (fun r m' hp => zRet_to hF (fun t hw hf => ⟨⟨r, m', rfl, hp, hw⟩, hf.1, by rw [← hA]; exact hf.2⟩))
abbrev rm_X0_addBytes : Room := { frames := 0, cells := 0, slots := 0, locals := 0 }
def Con_X0_addBytes (l : Launch) (G : zG) (Pre : Nat → Int32 → zM → Prop) (Post : Nat → Int32 → zM → zM → Prop) : Prop := ∀ (a0 : Nat) (x1 : Int32) (m : zM), zK G a0 = some (0, a0) → Pre a0 x1 m → Met l yX0_addBytes wsX0_addBytes rm_X0_addBytes (va_Pc [.ref a0, .int x1] (fun U => zW G m U)) (va_Qv (fun m' => Post a0 x1 m m') (fun m' t => zW G m' t) (zdom G)) 0 0 (zdom G)
def St_X0_addBytes (C : zC) (G : zG) (Qc : Array Value → State → Outcome → State → Prop) : Prop := zF C G cX0_addBytes 3 wsX0_addBytes RX0 ∧ zQm C Qc none 0 0 ∧ zRm C = rm_X0_addBytes
def Pt_X0_addBytes_0 (C : zC) (G : zG) (a0 : Nat) (x1 : Int32) (m : zM) : Prop := zX C 3 0 0 0 [(0, .ref a0), (1, .int x1)] [] (zPic G m)
def Pt_X0_addBytes_3 (C : zC) (G : zG) (a0 : Nat) (x1 x2 : Int32) (m : zM) : Prop := zX C 3 0 0 3 [(0, .ref a0), (1, .int x1), (2, .int x2)] [] (zPic G m)
set_option maxRecDepth 100000 in
theorem con_X0_addBytes {l : Launch} {G : zG} (hL : zLay G) {Pre : Nat → Int32 → zM → Prop} {Post : Nat → Int32 → zM → zM → Prop} (h : ∀ (C : zC) (Qc : Array Value → State → Outcome → State → Prop), St_X0_addBytes C G Qc → zl C = l → ∀ (a0 : Nat) (x1 : Int32) (m : zM), zK G a0 = some (0, a0) → Pre a0 x1 m → (∀ (m' : zM), Post a0 x1 m m' → zRet C G Qc none m') → Pt_X0_addBytes_0 C G a0 x1 m) : Con_X0_addBytes l G Pre Post := by
  intro a0 x1 m ka0 hpre
  refine zMetD hL (by decide +kernel) rfl (Nat.le_of_ble_eq_true rfl) (fun C hF hQ hA hR hl hnm => ?_)
  exact h C _ ⟨hF, hQ, hR⟩ hl a0 x1 m ka0 hpre (fun m' hp => zRet_to hF (fun t hw hf => ⟨⟨m', rfl, hp, hw⟩, hf.1, by rw [← hA]; exact hf.2⟩))
abbrev rm_X5_feed : Room := { frames := 1, cells := 0, slots := 0, locals := 22 }
def Con_X5_feed (l : Launch) (G : zG) (Pre : Nat → Int32 → Int32 → Int32 → Int32 → Int32 → zM → Prop) (Post : Nat → Int32 → Int32 → Int32 → Int32 → Int32 → zM → Int32 → zM → Prop) : Prop := ∀ (a0 : Nat) (x1 x2 x3 x4 x5 : Int32) (m : zM), zK G a0 = some (5, a0) → Pre a0 x1 x2 x3 x4 x5 m → Met l yX5_feed wsX5_feed rm_X5_feed (va_Pc [.ref a0, .int x1, .int x2, .int x3, .int x4, .int x5] (fun U => zW G m U)) (va_Qi (fun r m' => Post a0 x1 x2 x3 x4 x5 m r m') (fun m' t => zW G m' t) (zdom G)) 0 0 (zdom G)
def St_X5_feed (C : zC) (G : zG) (Qc : Array Value → State → Outcome → State → Prop) : Prop := zF C G cX5_feed 6 wsX5_feed RX5 ∧ zQm C Qc (some .int) 0 0 ∧ zRm C = rm_X5_feed
def Pt_X5_feed_0 (C : zC) (G : zG) (a0 : Nat) (x1 x2 x3 x4 x5 : Int32) (m : zM) : Prop := zX C 6 0 0 0 [(0, .ref a0), (1, .int x1), (2, .int x2), (3, .int x3), (4, .int x4), (5, .int x5)] [] (zPic G m)
set_option maxRecDepth 100000 in
theorem con_X5_feed {l : Launch} {G : zG} (hL : zLay G) {Pre : Nat → Int32 → Int32 → Int32 → Int32 → Int32 → zM → Prop} {Post : Nat → Int32 → Int32 → Int32 → Int32 → Int32 → zM → Int32 → zM → Prop} (h : ∀ (C : zC) (Qc : Array Value → State → Outcome → State → Prop), St_X5_feed C G Qc → zl C = l → ∀ (a0 : Nat) (x1 x2 x3 x4 x5 : Int32) (m : zM), zK G a0 = some (5, a0) → Pre a0 x1 x2 x3 x4 x5 m → (∀ (r : Int32) (m' : zM), Post a0 x1 x2 x3 x4 x5 m r m' → zRet C G Qc (some (.int r)) m') → Pt_X5_feed_0 C G a0 x1 x2 x3 x4 x5 m) : Con_X5_feed l G Pre Post := by
  intro a0 x1 x2 x3 x4 x5 m ka0 hpre
  refine zMetD hL (by decide +kernel) rfl (Nat.le_of_ble_eq_true rfl) (fun C hF hQ hA hR hl hnm => ?_)
  exact h C _ ⟨hF, hQ, hR⟩ hl a0 x1 x2 x3 x4 x5 m ka0 hpre (fun r m' hp => zRet_to hF (fun t hw hf => ⟨⟨r, m', rfl, hp, hw⟩, hf.1, by rw [← hA]; exact hf.2⟩))
abbrev rm_X5_end : Room := { frames := 0, cells := 0, slots := 0, locals := 0 }
def Con_X5_end (l : Launch) (G : zG) (Pre : Nat → Int32 → zM → Prop) (Post : Nat → Int32 → zM → Int32 → zM → Prop) : Prop := ∀ (a0 : Nat) (x1 : Int32) (m : zM), zK G a0 = some (5, a0) → Pre a0 x1 m → Met l yX5_end wsX5_end rm_X5_end (va_Pc [.ref a0, .int x1] (fun U => zW G m U)) (va_Qi (fun r m' => Post a0 x1 m r m') (fun m' t => zW G m' t) (zdom G)) 0 0 (zdom G)
def St_X5_end (C : zC) (G : zG) (Qc : Array Value → State → Outcome → State → Prop) : Prop := zF C G cX5_end 2 wsX5_end RX5 ∧ zQm C Qc (some .int) 0 0 ∧ zRm C = rm_X5_end
def Pt_X5_end_0 (C : zC) (G : zG) (a0 : Nat) (x1 : Int32) (m : zM) : Prop := zX C 2 0 0 0 [(0, .ref a0), (1, .int x1)] [] (zPic G m)
set_option maxRecDepth 100000 in
theorem con_X5_end {l : Launch} {G : zG} (hL : zLay G) {Pre : Nat → Int32 → zM → Prop} {Post : Nat → Int32 → zM → Int32 → zM → Prop} (h : ∀ (C : zC) (Qc : Array Value → State → Outcome → State → Prop), St_X5_end C G Qc → zl C = l → ∀ (a0 : Nat) (x1 : Int32) (m : zM), zK G a0 = some (5, a0) → Pre a0 x1 m → (∀ (r : Int32) (m' : zM), Post a0 x1 m r m' → zRet C G Qc (some (.int r)) m') → Pt_X5_end_0 C G a0 x1 m) : Con_X5_end l G Pre Post := by
  intro a0 x1 m ka0 hpre
  refine zMetD hL (by decide +kernel) rfl (Nat.le_of_ble_eq_true rfl) (fun C hF hQ hA hR hl hnm => ?_)
  exact h C _ ⟨hF, hQ, hR⟩ hl a0 x1 m ka0 hpre (fun r m' hp => zRet_to hF (fun t hw hf => ⟨⟨r, m', rfl, hp, hw⟩, hf.1, by rw [← hA]; exact hf.2⟩))
abbrev rm_X5_fault : Room := { frames := 0, cells := 0, slots := 0, locals := 0 }
def Con_X5_fault (l : Launch) (G : zG) (Pre : Nat → Int32 → zM → Prop) (Post : Nat → Int32 → zM → Int32 → Prop) : Prop := ∀ (a0 : Nat) (x1 : Int32) (m : zM), zK G a0 = some (5, a0) → Pre a0 x1 m → Met l yX5_fault wsX5_fault rm_X5_fault (va_Pc [.ref a0, .int x1] (fun U => zW G m U)) (va_Qi (fun r m' => m' = m ∧ Post a0 x1 m r) (fun m' t => zW G m' t) (zdom G)) 0 0 (zdom G)
def St_X5_fault (C : zC) (G : zG) (Qc : Array Value → State → Outcome → State → Prop) : Prop := zF C G cX5_fault 2 wsX5_fault RX5 ∧ zQm C Qc (some .int) 0 0 ∧ zRm C = rm_X5_fault
def Pt_X5_fault_0 (C : zC) (G : zG) (a0 : Nat) (x1 : Int32) (m : zM) : Prop := zX C 2 0 0 0 [(0, .ref a0), (1, .int x1)] [] (zPic G m)
set_option maxRecDepth 100000 in
theorem con_X5_fault {l : Launch} {G : zG} (hL : zLay G) {Pre : Nat → Int32 → zM → Prop} {Post : Nat → Int32 → zM → Int32 → Prop} (h : ∀ (C : zC) (Qc : Array Value → State → Outcome → State → Prop), St_X5_fault C G Qc → zl C = l → ∀ (a0 : Nat) (x1 : Int32) (m : zM), zK G a0 = some (5, a0) → Pre a0 x1 m → (∀ (r : Int32), Post a0 x1 m r → zRet C G Qc (some (.int r)) m) → Pt_X5_fault_0 C G a0 x1 m) : Con_X5_fault l G Pre Post := by
  intro a0 x1 m ka0 hpre
  refine zMetD hL (by decide +kernel) rfl (Nat.le_of_ble_eq_true rfl) (fun C hF hQ hA hR hl hnm => ?_)
  exact h C _ ⟨hF, hQ, hR⟩ hl a0 x1 m ka0 hpre (fun r hp => zRet_to hF (fun t hw hf => ⟨⟨r, m, rfl, ⟨rfl, hp⟩, hw⟩, hf.1, by rw [← hA]; exact hf.2⟩))
abbrev rm_X5_areFacts : Room := { frames := 0, cells := 0, slots := 0, locals := 0 }
def Con_X5_areFacts (l : Launch) (G : zG) (Pre : Int32 → Int32 → Int32 → Int32 → zM → Prop) (Post : Int32 → Int32 → Int32 → Int32 → zM → Int32 → Prop) : Prop := ∀ (x0 x1 x2 x3 : Int32) (m : zM), Pre x0 x1 x2 x3 m → Met l yX5_areFacts wsX5_areFacts rm_X5_areFacts (va_Pc [.int x0, .int x1, .int x2, .int x3] (fun U => zW G m U)) (va_Qi (fun r m' => m' = m ∧ Post x0 x1 x2 x3 m r) (fun m' t => zW G m' t) (zdom G)) 0 0 (zdom G)
def St_X5_areFacts (C : zC) (G : zG) (Qc : Array Value → State → Outcome → State → Prop) : Prop := zF C G cX5_areFacts 4 wsX5_areFacts RX5 ∧ zQm C Qc (some .boolean) 0 0 ∧ zRm C = rm_X5_areFacts
def Pt_X5_areFacts_0 (C : zC) (G : zG) (x0 x1 x2 x3 : Int32) (m : zM) : Prop := zX C 4 0 0 0 [(0, .int x0), (1, .int x1), (2, .int x2), (3, .int x3)] [] (zPic G m)
set_option maxRecDepth 100000 in
theorem con_X5_areFacts {l : Launch} {G : zG} (hL : zLay G) {Pre : Int32 → Int32 → Int32 → Int32 → zM → Prop} {Post : Int32 → Int32 → Int32 → Int32 → zM → Int32 → Prop} (h : ∀ (C : zC) (Qc : Array Value → State → Outcome → State → Prop), St_X5_areFacts C G Qc → zl C = l → ∀ (x0 x1 x2 x3 : Int32) (m : zM), Pre x0 x1 x2 x3 m → (∀ (r : Int32), Post x0 x1 x2 x3 m r → zRet C G Qc (some (.int r)) m) → Pt_X5_areFacts_0 C G x0 x1 x2 x3 m) : Con_X5_areFacts l G Pre Post := by
  intro x0 x1 x2 x3 m  hpre
  refine zMetD hL (by decide +kernel) rfl (Nat.le_of_ble_eq_true rfl) (fun C hF hQ hA hR hl hnm => ?_)
  exact h C _ ⟨hF, hQ, hR⟩ hl x0 x1 x2 x3 m  hpre (fun r hp => zRet_to hF (fun t hw hf => ⟨⟨r, m, rfl, ⟨rfl, hp⟩, hw⟩, hf.1, by rw [← hA]; exact hf.2⟩))
abbrev rm_X1_begin : Room := { frames := 0, cells := 0, slots := 0, locals := 0 }
def Con_X1_begin (l : Launch) (G : zG) (Pre : Nat → Int32 → Int32 → Int32 → Int32 → Int32 → zM → Prop) (Post : Nat → Int32 → Int32 → Int32 → Int32 → Int32 → zM → zM → Prop) : Prop := ∀ (a0 : Nat) (x1 x2 x3 x4 x5 : Int32) (m : zM), zK G a0 = some (1, a0) → Pre a0 x1 x2 x3 x4 x5 m → Met l yX1_begin wsX1_begin rm_X1_begin (va_Pc [.ref a0, .int x1, .int x2, .int x3, .int x4, .int x5] (fun U => zW G m U)) (va_Qv (fun m' => Post a0 x1 x2 x3 x4 x5 m m') (fun m' t => zW G m' t) (zdom G)) 0 0 (zdom G)
def St_X1_begin (C : zC) (G : zG) (Qc : Array Value → State → Outcome → State → Prop) : Prop := zF C G cX1_begin 6 wsX1_begin RX1 ∧ zQm C Qc none 0 0 ∧ zRm C = rm_X1_begin
def Pt_X1_begin_0 (C : zC) (G : zG) (a0 : Nat) (x1 x2 x3 x4 x5 : Int32) (m : zM) : Prop := zX C 6 0 0 0 [(0, .ref a0), (1, .int x1), (2, .int x2), (3, .int x3), (4, .int x4), (5, .int x5)] [] (zPic G m)
set_option maxRecDepth 100000 in
theorem con_X1_begin {l : Launch} {G : zG} (hL : zLay G) {Pre : Nat → Int32 → Int32 → Int32 → Int32 → Int32 → zM → Prop} {Post : Nat → Int32 → Int32 → Int32 → Int32 → Int32 → zM → zM → Prop} (h : ∀ (C : zC) (Qc : Array Value → State → Outcome → State → Prop), St_X1_begin C G Qc → zl C = l → ∀ (a0 : Nat) (x1 x2 x3 x4 x5 : Int32) (m : zM), zK G a0 = some (1, a0) → Pre a0 x1 x2 x3 x4 x5 m → (∀ (m' : zM), Post a0 x1 x2 x3 x4 x5 m m' → zRet C G Qc none m') → Pt_X1_begin_0 C G a0 x1 x2 x3 x4 x5 m) : Con_X1_begin l G Pre Post := by
  intro a0 x1 x2 x3 x4 x5 m ka0 hpre
  refine zMetD hL (by decide +kernel) rfl (Nat.le_of_ble_eq_true rfl) (fun C hF hQ hA hR hl hnm => ?_)
  exact h C _ ⟨hF, hQ, hR⟩ hl a0 x1 x2 x3 x4 x5 m ka0 hpre (fun m' hp => zRet_to hF (fun t hw hf => ⟨⟨m', rfl, hp, hw⟩, hf.1, by rw [← hA]; exact hf.2⟩))
abbrev rm_J6_bitCount_0f7a4 : Room := { frames := 0, cells := 0, slots := 0, locals := 0 }
def Con_J6_bitCount_0f7a4 (l : Launch) (G : zG) (Pre : Int32 → zM → Prop) (Post : Int32 → zM → Int32 → Prop) : Prop := ∀ (x0 : Int32) (m : zM), Pre x0 m → Met l yJ6_bitCount_0f7a4 wsJ6_bitCount_0f7a4 rm_J6_bitCount_0f7a4 (va_Pc [.int x0] (fun U => zW G m U)) (va_Qi (fun r m' => m' = m ∧ Post x0 m r) (fun m' t => zW G m' t) (zdom G)) 0 0 (zdom G)
def St_J6_bitCount_0f7a4 (C : zC) (G : zG) (Qc : Array Value → State → Outcome → State → Prop) : Prop := zF C G cJ6_bitCount_0f7a4 1 wsJ6_bitCount_0f7a4 RJ6 ∧ zQm C Qc (some .int) 0 0 ∧ zRm C = rm_J6_bitCount_0f7a4
def Pt_J6_bitCount_0f7a4_0 (C : zC) (G : zG) (x0 : Int32) (m : zM) : Prop := zX C 1 0 0 0 [(0, .int x0)] [] (zPic G m)
set_option maxRecDepth 100000 in
theorem con_J6_bitCount_0f7a4 {l : Launch} {G : zG} (hL : zLay G) {Pre : Int32 → zM → Prop} {Post : Int32 → zM → Int32 → Prop} (h : ∀ (C : zC) (Qc : Array Value → State → Outcome → State → Prop), St_J6_bitCount_0f7a4 C G Qc → zl C = l → ∀ (x0 : Int32) (m : zM), Pre x0 m → (∀ (r : Int32), Post x0 m r → zRet C G Qc (some (.int r)) m) → Pt_J6_bitCount_0f7a4_0 C G x0 m) : Con_J6_bitCount_0f7a4 l G Pre Post := by
  intro x0 m  hpre
  refine zMetD hL (by decide +kernel) rfl (Nat.le_of_ble_eq_true rfl) (fun C hF hQ hA hR hl hnm => ?_)
  exact h C _ ⟨hF, hQ, hR⟩ hl x0 m  hpre (fun r hp => zRet_to hF (fun t hw hf => ⟨⟨r, m, rfl, ⟨rfl, hp⟩, hw⟩, hf.1, by rw [← hA]; exact hf.2⟩))
abbrev rm_X2_seenBy : Room := { frames := 1, cells := 0, slots := 0, locals := 20 }
def Con_X2_seenBy (l : Launch) (G : zG) (Pre : Int32 → Int32 → Int32 → Int32 → Int32 → Int32 → zM → Prop) (Post : Int32 → Int32 → Int32 → Int32 → Int32 → Int32 → zM → Int32 → Prop) : Prop := ∀ (x0 x1 x2 x3 x4 x5 : Int32) (m : zM), Pre x0 x1 x2 x3 x4 x5 m → Met l yX2_seenBy wsX2_seenBy rm_X2_seenBy (va_Pc [.int x0, .int x1, .int x2, .int x3, .int x4, .int x5] (fun U => zW G m U)) (va_Qi (fun r m' => m' = m ∧ Post x0 x1 x2 x3 x4 x5 m r) (fun m' t => zW G m' t) (zdom G)) 0 0 (zdom G)
def St_X2_seenBy (C : zC) (G : zG) (Qc : Array Value → State → Outcome → State → Prop) : Prop := zF C G cX2_seenBy 6 wsX2_seenBy RX2 ∧ zQm C Qc (some .int) 0 0 ∧ zRm C = rm_X2_seenBy
def Pt_X2_seenBy_0 (C : zC) (G : zG) (x0 x1 x2 x3 x4 x5 : Int32) (m : zM) : Prop := zX C 6 0 0 0 [(0, .int x0), (1, .int x1), (2, .int x2), (3, .int x3), (4, .int x4), (5, .int x5)] [] (zPic G m)
set_option maxRecDepth 100000 in
theorem con_X2_seenBy {l : Launch} {G : zG} (hL : zLay G) {Pre : Int32 → Int32 → Int32 → Int32 → Int32 → Int32 → zM → Prop} {Post : Int32 → Int32 → Int32 → Int32 → Int32 → Int32 → zM → Int32 → Prop} (h : ∀ (C : zC) (Qc : Array Value → State → Outcome → State → Prop), St_X2_seenBy C G Qc → zl C = l → ∀ (x0 x1 x2 x3 x4 x5 : Int32) (m : zM), Pre x0 x1 x2 x3 x4 x5 m → (∀ (r : Int32), Post x0 x1 x2 x3 x4 x5 m r → zRet C G Qc (some (.int r)) m) → Pt_X2_seenBy_0 C G x0 x1 x2 x3 x4 x5 m) : Con_X2_seenBy l G Pre Post := by
  intro x0 x1 x2 x3 x4 x5 m  hpre
  refine zMetD hL (by decide +kernel) rfl (Nat.le_of_ble_eq_true rfl) (fun C hF hQ hA hR hl hnm => ?_)
  exact h C _ ⟨hF, hQ, hR⟩ hl x0 x1 x2 x3 x4 x5 m  hpre (fun r hp => zRet_to hF (fun t hw hf => ⟨⟨r, m, rfl, ⟨rfl, hp⟩, hw⟩, hf.1, by rw [← hA]; exact hf.2⟩))
abbrev rm_X2_compares : Room := { frames := 0, cells := 0, slots := 0, locals := 0 }
def Con_X2_compares (l : Launch) (G : zG) (Pre : Int32 → Int32 → Int32 → zM → Prop) (Post : Int32 → Int32 → Int32 → zM → Int32 → Prop) : Prop := ∀ (x0 x1 x2 : Int32) (m : zM), Pre x0 x1 x2 m → Met l yX2_compares wsX2_compares rm_X2_compares (va_Pc [.int x0, .int x1, .int x2] (fun U => zW G m U)) (va_Qi (fun r m' => m' = m ∧ Post x0 x1 x2 m r) (fun m' t => zW G m' t) (zdom G)) 0 0 (zdom G)
def St_X2_compares (C : zC) (G : zG) (Qc : Array Value → State → Outcome → State → Prop) : Prop := zF C G cX2_compares 3 wsX2_compares RX2 ∧ zQm C Qc (some .boolean) 0 0 ∧ zRm C = rm_X2_compares
def Pt_X2_compares_0 (C : zC) (G : zG) (x0 x1 x2 : Int32) (m : zM) : Prop := zX C 3 0 0 0 [(0, .int x0), (1, .int x1), (2, .int x2)] [] (zPic G m)
set_option maxRecDepth 100000 in
theorem con_X2_compares {l : Launch} {G : zG} (hL : zLay G) {Pre : Int32 → Int32 → Int32 → zM → Prop} {Post : Int32 → Int32 → Int32 → zM → Int32 → Prop} (h : ∀ (C : zC) (Qc : Array Value → State → Outcome → State → Prop), St_X2_compares C G Qc → zl C = l → ∀ (x0 x1 x2 : Int32) (m : zM), Pre x0 x1 x2 m → (∀ (r : Int32), Post x0 x1 x2 m r → zRet C G Qc (some (.int r)) m) → Pt_X2_compares_0 C G x0 x1 x2 m) : Con_X2_compares l G Pre Post := by
  intro x0 x1 x2 m  hpre
  refine zMetD hL (by decide +kernel) rfl (Nat.le_of_ble_eq_true rfl) (fun C hF hQ hA hR hl hnm => ?_)
  exact h C _ ⟨hF, hQ, hR⟩ hl x0 x1 x2 m  hpre (fun r hp => zRet_to hF (fun t hw hf => ⟨⟨r, m, rfl, ⟨rfl, hp⟩, hw⟩, hf.1, by rw [← hA]; exact hf.2⟩))
abbrev rm_X2_lineHolds : Room := { frames := 2, cells := 0, slots := 0, locals := 45 }
def Con_X2_lineHolds (l : Launch) (G : zG) (Pre : Nat → Int32 → Int32 → Int32 → Int32 → Int32 → Int32 → zM → Prop) (Post : Nat → Int32 → Int32 → Int32 → Int32 → Int32 → Int32 → zM → Int32 → Prop) : Prop := ∀ (a0 : Nat) (x1 x2 x3 x4 x5 x6 : Int32) (m : zM), zK G a0 = some (2, a0) → Pre a0 x1 x2 x3 x4 x5 x6 m → Met l yX2_lineHolds wsX2_lineHolds rm_X2_lineHolds (va_Pc [.ref a0, .int x1, .int x2, .int x3, .int x4, .int x5, .int x6] (fun U => zW G m U)) (va_Qi (fun r m' => m' = m ∧ Post a0 x1 x2 x3 x4 x5 x6 m r) (fun m' t => zW G m' t) (zdom G)) 0 0 (zdom G)
def St_X2_lineHolds (C : zC) (G : zG) (Qc : Array Value → State → Outcome → State → Prop) : Prop := zF C G cX2_lineHolds 11 wsX2_lineHolds RX2 ∧ zQm C Qc (some .boolean) 0 0 ∧ zRm C = rm_X2_lineHolds
def Pt_X2_lineHolds_0 (C : zC) (G : zG) (a0 : Nat) (x1 x2 x3 x4 x5 x6 : Int32) (m : zM) : Prop := zX C 11 0 0 0 [(0, .ref a0), (1, .int x1), (2, .int x2), (3, .int x3), (4, .int x4), (5, .int x5), (6, .int x6)] [] (zPic G m)
def Pt_X2_lineHolds_3 (C : zC) (G : zG) (a0 : Nat) (x1 x2 x3 x4 x5 x6 x7 : Int32) (m : zM) : Prop := zX C 11 0 0 3 [(0, .ref a0), (1, .int x1), (2, .int x2), (3, .int x3), (4, .int x4), (5, .int x5), (6, .int x6), (7, .int x7)] [] (zPic G m)
def Pt_X2_lineHolds_102 (C : zC) (G : zG) (a0 : Nat) (x1 x2 x3 x4 x5 x6 x7 x8 s0 : Int32) (m : zM) : Prop := zX C 11 0 0 102 [(0, .ref a0), (1, .int x1), (2, .int x2), (3, .int x3), (4, .int x4), (5, .int x5), (6, .int x6), (7, .int x7), (8, .int x8)] [.int s0] (zPic G m)
set_option maxRecDepth 100000 in
theorem con_X2_lineHolds {l : Launch} {G : zG} (hL : zLay G) {Pre : Nat → Int32 → Int32 → Int32 → Int32 → Int32 → Int32 → zM → Prop} {Post : Nat → Int32 → Int32 → Int32 → Int32 → Int32 → Int32 → zM → Int32 → Prop} (h : ∀ (C : zC) (Qc : Array Value → State → Outcome → State → Prop), St_X2_lineHolds C G Qc → zl C = l → ∀ (a0 : Nat) (x1 x2 x3 x4 x5 x6 : Int32) (m : zM), zK G a0 = some (2, a0) → Pre a0 x1 x2 x3 x4 x5 x6 m → (∀ (r : Int32), Post a0 x1 x2 x3 x4 x5 x6 m r → zRet C G Qc (some (.int r)) m) → Pt_X2_lineHolds_0 C G a0 x1 x2 x3 x4 x5 x6 m) : Con_X2_lineHolds l G Pre Post := by
  intro a0 x1 x2 x3 x4 x5 x6 m ka0 hpre
  refine zMetD hL (by decide +kernel) rfl (Nat.le_of_ble_eq_true rfl) (fun C hF hQ hA hR hl hnm => ?_)
  exact h C _ ⟨hF, hQ, hR⟩ hl a0 x1 x2 x3 x4 x5 x6 m ka0 hpre (fun r hp => zRet_to hF (fun t hw hf => ⟨⟨r, m, rfl, ⟨rfl, hp⟩, hw⟩, hf.1, by rw [← hA]; exact hf.2⟩))
abbrev rm_X2_pointsAfter : Room := { frames := 1, cells := 0, slots := 0, locals := 23 }
def Con_X2_pointsAfter (l : Launch) (G : zG) (Pre : Nat → Int32 → Int32 → zM → Prop) (Post : Nat → Int32 → Int32 → zM → Int32 → Prop) : Prop := ∀ (a0 : Nat) (x1 x2 : Int32) (m : zM), zK G a0 = some (2, a0) → Pre a0 x1 x2 m → Met l yX2_pointsAfter wsX2_pointsAfter rm_X2_pointsAfter (va_Pc [.ref a0, .int x1, .int x2] (fun U => zW G m U)) (va_Qi (fun r m' => m' = m ∧ Post a0 x1 x2 m r) (fun m' t => zW G m' t) (zdom G)) 0 0 (zdom G)
def St_X2_pointsAfter (C : zC) (G : zG) (Qc : Array Value → State → Outcome → State → Prop) : Prop := zF C G cX2_pointsAfter 5 wsX2_pointsAfter RX2 ∧ zQm C Qc (some .int) 0 0 ∧ zRm C = rm_X2_pointsAfter
def Pt_X2_pointsAfter_0 (C : zC) (G : zG) (a0 : Nat) (x1 x2 : Int32) (m : zM) : Prop := zX C 5 0 0 0 [(0, .ref a0), (1, .int x1), (2, .int x2)] [] (zPic G m)
set_option maxRecDepth 100000 in
theorem con_X2_pointsAfter {l : Launch} {G : zG} (hL : zLay G) {Pre : Nat → Int32 → Int32 → zM → Prop} {Post : Nat → Int32 → Int32 → zM → Int32 → Prop} (h : ∀ (C : zC) (Qc : Array Value → State → Outcome → State → Prop), St_X2_pointsAfter C G Qc → zl C = l → ∀ (a0 : Nat) (x1 x2 : Int32) (m : zM), zK G a0 = some (2, a0) → Pre a0 x1 x2 m → (∀ (r : Int32), Post a0 x1 x2 m r → zRet C G Qc (some (.int r)) m) → Pt_X2_pointsAfter_0 C G a0 x1 x2 m) : Con_X2_pointsAfter l G Pre Post := by
  intro a0 x1 x2 m ka0 hpre
  refine zMetD hL (by decide +kernel) rfl (Nat.le_of_ble_eq_true rfl) (fun C hF hQ hA hR hl hnm => ?_)
  exact h C _ ⟨hF, hQ, hR⟩ hl a0 x1 x2 m ka0 hpre (fun r hp => zRet_to hF (fun t hw hf => ⟨⟨r, m, rfl, ⟨rfl, hp⟩, hw⟩, hf.1, by rw [← hA]; exact hf.2⟩))
abbrev rm_X2_pointsFor : Room := { frames := 3, cells := 0, slots := 0, locals := 75 }
def Con_X2_pointsFor (l : Launch) (G : zG) (Pre : Nat → Int32 → Int32 → Int32 → Int32 → zM → Prop) (Post : Nat → Int32 → Int32 → Int32 → Int32 → zM → Int32 → Prop) : Prop := ∀ (a0 : Nat) (x1 x2 x3 x4 : Int32) (m : zM), zK G a0 = some (2, a0) → Pre a0 x1 x2 x3 x4 m → Met l yX2_pointsFor wsX2_pointsFor rm_X2_pointsFor (va_Pc [.ref a0, .int x1, .int x2, .int x3, .int x4] (fun U => zW G m U)) (va_Qi (fun r m' => m' = m ∧ Post a0 x1 x2 x3 x4 m r) (fun m' t => zW G m' t) (zdom G)) 0 0 (zdom G)
def St_X2_pointsFor (C : zC) (G : zG) (Qc : Array Value → State → Outcome → State → Prop) : Prop := zF C G cX2_pointsFor 7 wsX2_pointsFor RX2 ∧ zQm C Qc (some .int) 0 0 ∧ zRm C = rm_X2_pointsFor
def Pt_X2_pointsFor_0 (C : zC) (G : zG) (a0 : Nat) (x1 x2 x3 x4 : Int32) (m : zM) : Prop := zX C 7 0 0 0 [(0, .ref a0), (1, .int x1), (2, .int x2), (3, .int x3), (4, .int x4)] [] (zPic G m)
def Pt_X2_pointsFor_6 (C : zC) (G : zG) (a0 : Nat) (x1 x2 x3 x4 x5 x6 : Int32) (m : zM) : Prop := zX C 7 0 0 6 [(0, .ref a0), (1, .int x1), (2, .int x2), (3, .int x3), (4, .int x4), (5, .int x5), (6, .int x6)] [] (zPic G m)
set_option maxRecDepth 100000 in
theorem con_X2_pointsFor {l : Launch} {G : zG} (hL : zLay G) {Pre : Nat → Int32 → Int32 → Int32 → Int32 → zM → Prop} {Post : Nat → Int32 → Int32 → Int32 → Int32 → zM → Int32 → Prop} (h : ∀ (C : zC) (Qc : Array Value → State → Outcome → State → Prop), St_X2_pointsFor C G Qc → zl C = l → ∀ (a0 : Nat) (x1 x2 x3 x4 : Int32) (m : zM), zK G a0 = some (2, a0) → Pre a0 x1 x2 x3 x4 m → (∀ (r : Int32), Post a0 x1 x2 x3 x4 m r → zRet C G Qc (some (.int r)) m) → Pt_X2_pointsFor_0 C G a0 x1 x2 x3 x4 m) : Con_X2_pointsFor l G Pre Post := by
  intro a0 x1 x2 x3 x4 m ka0 hpre
  refine zMetD hL (by decide +kernel) rfl (Nat.le_of_ble_eq_true rfl) (fun C hF hQ hA hR hl hnm => ?_)
  exact h C _ ⟨hF, hQ, hR⟩ hl a0 x1 x2 x3 x4 m ka0 hpre (fun r hp => zRet_to hF (fun t hw hf => ⟨⟨r, m, rfl, ⟨rfl, hp⟩, hw⟩, hf.1, by rw [← hA]; exact hf.2⟩))
abbrev rm_X1_measure : Room := { frames := 4, cells := 0, slots := 0, locals := 101 }
def Con_X1_measure (l : Launch) (G : zG) (Pre : Nat → Nat → zM → Prop) (Post : Nat → Nat → zM → zM → Prop) : Prop := ∀ (a0 a1 : Nat) (m : zM), zK G a0 = some (1, a0) → zK G a1 = some (2, a1) → Pre a0 a1 m → Met l yX1_measure wsX1_measure rm_X1_measure (va_Pc [.ref a0, .ref a1] (fun U => zW G m U)) (va_Qv (fun m' => Post a0 a1 m m') (fun m' t => zW G m' t) (zdom G)) 0 0 (zdom G)
def St_X1_measure (C : zC) (G : zG) (Qc : Array Value → State → Outcome → State → Prop) : Prop := zF C G cX1_measure 4 wsX1_measure RX1 ∧ zQm C Qc none 0 0 ∧ zRm C = rm_X1_measure
def Pt_X1_measure_0 (C : zC) (G : zG) (a0 a1 : Nat) (m : zM) : Prop := zX C 4 0 0 0 [(0, .ref a0), (1, .ref a1)] [] (zPic G m)
def Pt_X1_measure_24 (C : zC) (G : zG) (a0 a1 : Nat) (x2 : Int32) (m : zM) : Prop := zX C 4 0 0 24 [(0, .ref a0), (1, .ref a1), (2, .int x2)] [] (zPic G m)
set_option maxRecDepth 100000 in
theorem con_X1_measure {l : Launch} {G : zG} (hL : zLay G) {Pre : Nat → Nat → zM → Prop} {Post : Nat → Nat → zM → zM → Prop} (h : ∀ (C : zC) (Qc : Array Value → State → Outcome → State → Prop), St_X1_measure C G Qc → zl C = l → ∀ (a0 a1 : Nat) (m : zM), zK G a0 = some (1, a0) → zK G a1 = some (2, a1) → Pre a0 a1 m → (∀ (m' : zM), Post a0 a1 m m' → zRet C G Qc none m') → Pt_X1_measure_0 C G a0 a1 m) : Con_X1_measure l G Pre Post := by
  intro a0 a1 m ka0 ka1 hpre
  refine zMetD hL (by decide +kernel) rfl (Nat.le_of_ble_eq_true rfl) (fun C hF hQ hA hR hl hnm => ?_)
  exact h C _ ⟨hF, hQ, hR⟩ hl a0 a1 m ka0 ka1 hpre (fun m' hp => zRet_to hF (fun t hw hf => ⟨⟨m', rfl, hp, hw⟩, hf.1, by rw [← hA]; exact hf.2⟩))
abbrev rm_X0_mostInAll : Room := { frames := 0, cells := 0, slots := 0, locals := 0 }
def Con_X0_mostInAll (l : Launch) (G : zG) (Pre : Nat → zM → Prop) (Post : Nat → zM → Int64 → Prop) : Prop := ∀ (a0 : Nat) (m : zM), zK G a0 = some (0, a0) → Pre a0 m → Met l yX0_mostInAll wsX0_mostInAll rm_X0_mostInAll (va_Pc [.ref a0] (fun U => zW G m U)) (va_Ql (fun r m' => m' = m ∧ Post a0 m r) (fun m' t => zW G m' t) (zdom G)) 0 0 (zdom G)
def St_X0_mostInAll (C : zC) (G : zG) (Qc : Array Value → State → Outcome → State → Prop) : Prop := zF C G cX0_mostInAll 7 wsX0_mostInAll RX0 ∧ zQm C Qc (some .long) 0 0 ∧ zRm C = rm_X0_mostInAll
def Pt_X0_mostInAll_0 (C : zC) (G : zG) (a0 : Nat) (m : zM) : Prop := zX C 7 0 0 0 [(0, .ref a0)] [] (zPic G m)
def Pt_X0_mostInAll_14 (C : zC) (G : zG) (l1 : Int64) (x5 : Int32) (a0 : Nat) (m : zM) : Prop := zX C 7 0 0 14 [(1, .long l1), (3, .ref (a0 + 10)), (4, .int 16), (5, .int x5)] [] (zPic G m)
set_option maxRecDepth 100000 in
theorem con_X0_mostInAll {l : Launch} {G : zG} (hL : zLay G) {Pre : Nat → zM → Prop} {Post : Nat → zM → Int64 → Prop} (h : ∀ (C : zC) (Qc : Array Value → State → Outcome → State → Prop), St_X0_mostInAll C G Qc → zl C = l → ∀ (a0 : Nat) (m : zM), zK G a0 = some (0, a0) → Pre a0 m → (∀ (r : Int64), Post a0 m r → zRet C G Qc (some (.long r)) m) → Pt_X0_mostInAll_0 C G a0 m) : Con_X0_mostInAll l G Pre Post := by
  intro a0 m ka0 hpre
  refine zMetD hL (by decide +kernel) rfl (Nat.le_of_ble_eq_true rfl) (fun C hF hQ hA hR hl hnm => ?_)
  exact h C _ ⟨hF, hQ, hR⟩ hl a0 m ka0 hpre (fun r hp => zRet_to hF (fun t hw hf => ⟨⟨r, m, rfl, ⟨rfl, hp⟩, hw⟩, hf.1, by rw [← hA]; exact hf.2⟩))
abbrev rm_X0_shareOf : Room := { frames := 0, cells := 0, slots := 0, locals := 0 }
def Con_X0_shareOf (l : Launch) (G : zG) (Pre : Nat → Int32 → Int64 → zM → Prop) (Post : Nat → Int32 → Int64 → zM → Int64 → Prop) : Prop := ∀ (a0 : Nat) (x1 : Int32) (l2 : Int64) (m : zM), zK G a0 = some (0, a0) → Pre a0 x1 l2 m → Met l yX0_shareOf wsX0_shareOf rm_X0_shareOf (va_Pc [.ref a0, .int x1, .long l2] (fun U => zW G m U)) (va_Ql (fun r m' => m' = m ∧ Post a0 x1 l2 m r) (fun m' t => zW G m' t) (zdom G)) 0 0 (zdom G)
def St_X0_shareOf (C : zC) (G : zG) (Qc : Array Value → State → Outcome → State → Prop) : Prop := zF C G cX0_shareOf 4 wsX0_shareOf RX0 ∧ zQm C Qc (some .long) 0 0 ∧ zRm C = rm_X0_shareOf
def Pt_X0_shareOf_0 (C : zC) (G : zG) (a0 : Nat) (x1 : Int32) (l2 : Int64) (m : zM) : Prop := zX C 4 0 0 0 [(0, .ref a0), (1, .int x1), (2, .long l2)] [] (zPic G m)
set_option maxRecDepth 100000 in
theorem con_X0_shareOf {l : Launch} {G : zG} (hL : zLay G) {Pre : Nat → Int32 → Int64 → zM → Prop} {Post : Nat → Int32 → Int64 → zM → Int64 → Prop} (h : ∀ (C : zC) (Qc : Array Value → State → Outcome → State → Prop), St_X0_shareOf C G Qc → zl C = l → ∀ (a0 : Nat) (x1 : Int32) (l2 : Int64) (m : zM), zK G a0 = some (0, a0) → Pre a0 x1 l2 m → (∀ (r : Int64), Post a0 x1 l2 m r → zRet C G Qc (some (.long r)) m) → Pt_X0_shareOf_0 C G a0 x1 l2 m) : Con_X0_shareOf l G Pre Post := by
  intro a0 x1 l2 m ka0 hpre
  refine zMetD hL (by decide +kernel) rfl (Nat.le_of_ble_eq_true rfl) (fun C hF hQ hA hR hl hnm => ?_)
  exact h C _ ⟨hF, hQ, hR⟩ hl a0 x1 l2 m ka0 hpre (fun r hp => zRet_to hF (fun t hw hf => ⟨⟨r, m, rfl, ⟨rfl, hp⟩, hw⟩, hf.1, by rw [← hA]; exact hf.2⟩))
abbrev rm_X0_holds : Room := { frames := 1, cells := 0, slots := 0, locals := 26 }
def Con_X0_holds (l : Launch) (G : zG) (Pre : Nat → zM → Prop) (Post : Nat → zM → Int32 → Prop) : Prop := ∀ (a0 : Nat) (m : zM), zK G a0 = some (0, a0) → Pre a0 m → Met l yX0_holds wsX0_holds rm_X0_holds (va_Pc [.ref a0] (fun U => zW G m U)) (va_Qi (fun r m' => m' = m ∧ Post a0 m r) (fun m' t => zW G m' t) (zdom G)) 0 0 (zdom G)
def St_X0_holds (C : zC) (G : zG) (Qc : Array Value → State → Outcome → State → Prop) : Prop := zF C G cX0_holds 7 wsX0_holds RX0 ∧ zQm C Qc (some .boolean) 0 0 ∧ zRm C = rm_X0_holds
def Pt_X0_holds_0 (C : zC) (G : zG) (a0 : Nat) (m : zM) : Prop := zX C 7 0 0 0 [(0, .ref a0)] [] (zPic G m)
def Pt_X0_holds_17 (C : zC) (G : zG) (a0 : Nat) (l1 : Int64) (x5 : Int32) (m : zM) : Prop := zX C 7 0 0 17 [(0, .ref a0), (1, .long l1), (3, .ref (a0 + 10)), (4, .int 16), (5, .int x5)] [] (zPic G m)
set_option maxRecDepth 100000 in
theorem con_X0_holds {l : Launch} {G : zG} (hL : zLay G) {Pre : Nat → zM → Prop} {Post : Nat → zM → Int32 → Prop} (h : ∀ (C : zC) (Qc : Array Value → State → Outcome → State → Prop), St_X0_holds C G Qc → zl C = l → ∀ (a0 : Nat) (m : zM), zK G a0 = some (0, a0) → Pre a0 m → (∀ (r : Int32), Post a0 m r → zRet C G Qc (some (.int r)) m) → Pt_X0_holds_0 C G a0 m) : Con_X0_holds l G Pre Post := by
  intro a0 m ka0 hpre
  refine zMetD hL (by decide +kernel) rfl (Nat.le_of_ble_eq_true rfl) (fun C hF hQ hA hR hl hnm => ?_)
  exact h C _ ⟨hF, hQ, hR⟩ hl a0 m ka0 hpre (fun r hp => zRet_to hF (fun t hw hf => ⟨⟨r, m, rfl, ⟨rfl, hp⟩, hw⟩, hf.1, by rw [← hA]; exact hf.2⟩))
abbrev rm_X1_settle : Room := { frames := 0, cells := 0, slots := 0, locals := 0 }
def Con_X1_settle (l : Launch) (G : zG) (Pre : Nat → Int32 → Int32 → zM → Prop) (Post : Nat → Int32 → Int32 → zM → zM → Prop) : Prop := ∀ (a0 : Nat) (x1 x2 : Int32) (m : zM), zK G a0 = some (1, a0) → Pre a0 x1 x2 m → Met l yX1_settle wsX1_settle rm_X1_settle (va_Pc [.ref a0, .int x1, .int x2] (fun U => zW G m U)) (va_Qv (fun m' => Post a0 x1 x2 m m') (fun m' t => zW G m' t) (zdom G)) 0 0 (zdom G)
def St_X1_settle (C : zC) (G : zG) (Qc : Array Value → State → Outcome → State → Prop) : Prop := zF C G cX1_settle 3 wsX1_settle RX1 ∧ zQm C Qc none 0 0 ∧ zRm C = rm_X1_settle
def Pt_X1_settle_0 (C : zC) (G : zG) (a0 : Nat) (x1 x2 : Int32) (m : zM) : Prop := zX C 3 0 0 0 [(0, .ref a0), (1, .int x1), (2, .int x2)] [] (zPic G m)
set_option maxRecDepth 100000 in
theorem con_X1_settle {l : Launch} {G : zG} (hL : zLay G) {Pre : Nat → Int32 → Int32 → zM → Prop} {Post : Nat → Int32 → Int32 → zM → zM → Prop} (h : ∀ (C : zC) (Qc : Array Value → State → Outcome → State → Prop), St_X1_settle C G Qc → zl C = l → ∀ (a0 : Nat) (x1 x2 : Int32) (m : zM), zK G a0 = some (1, a0) → Pre a0 x1 x2 m → (∀ (m' : zM), Post a0 x1 x2 m m' → zRet C G Qc none m') → Pt_X1_settle_0 C G a0 x1 x2 m) : Con_X1_settle l G Pre Post := by
  intro a0 x1 x2 m ka0 hpre
  refine zMetD hL (by decide +kernel) rfl (Nat.le_of_ble_eq_true rfl) (fun C hF hQ hA hR hl hnm => ?_)
  exact h C _ ⟨hF, hQ, hR⟩ hl a0 x1 x2 m ka0 hpre (fun m' hp => zRet_to hF (fun t hw hf => ⟨⟨m', rfl, hp, hw⟩, hf.1, by rw [← hA]; exact hf.2⟩))
abbrev rm_X0_admit : Room := { frames := 5, cells := 0, slots := 0, locals := 124 }
def Con_X0_admit (l : Launch) (G : zG) (Pre : Nat → Int32 → Int32 → Int32 → Int32 → Int32 → zM → Prop) (Post : Nat → Int32 → Int32 → Int32 → Int32 → Int32 → zM → Int32 → zM → Prop) : Prop := ∀ (a0 : Nat) (x1 x2 x3 x4 x5 : Int32) (m : zM), zK G a0 = some (0, a0) → Pre a0 x1 x2 x3 x4 x5 m → Met l yX0_admit wsX0_admit rm_X0_admit (va_Pc [.ref a0, .int x1, .int x2, .int x3, .int x4, .int x5] (fun U => zW G m U)) (va_Qi (fun r m' => Post a0 x1 x2 x3 x4 x5 m r m') (fun m' t => zW G m' t) (zdom G)) 0 0 (zdom G)
def St_X0_admit (C : zC) (G : zG) (Qc : Array Value → State → Outcome → State → Prop) : Prop := zF C G cX0_admit 7 wsX0_admit RX0 ∧ zQm C Qc (some .int) 0 0 ∧ zRm C = rm_X0_admit
def Pt_X0_admit_0 (C : zC) (G : zG) (a0 : Nat) (x1 x2 x3 x4 x5 : Int32) (m : zM) : Prop := zX C 7 0 0 0 [(0, .ref a0), (1, .int x1), (2, .int x2), (3, .int x3), (4, .int x4), (5, .int x5)] [] (zPic G m)
set_option maxRecDepth 100000 in
theorem con_X0_admit {l : Launch} {G : zG} (hL : zLay G) {Pre : Nat → Int32 → Int32 → Int32 → Int32 → Int32 → zM → Prop} {Post : Nat → Int32 → Int32 → Int32 → Int32 → Int32 → zM → Int32 → zM → Prop} (h : ∀ (C : zC) (Qc : Array Value → State → Outcome → State → Prop), St_X0_admit C G Qc → zl C = l → ∀ (a0 : Nat) (x1 x2 x3 x4 x5 : Int32) (m : zM), zK G a0 = some (0, a0) → Pre a0 x1 x2 x3 x4 x5 m → (∀ (r : Int32) (m' : zM), Post a0 x1 x2 x3 x4 x5 m r m' → zRet C G Qc (some (.int r)) m') → Pt_X0_admit_0 C G a0 x1 x2 x3 x4 x5 m) : Con_X0_admit l G Pre Post := by
  intro a0 x1 x2 x3 x4 x5 m ka0 hpre
  refine zMetD hL (by decide +kernel) rfl (Nat.le_of_ble_eq_true rfl) (fun C hF hQ hA hR hl hnm => ?_)
  exact h C _ ⟨hF, hQ, hR⟩ hl a0 x1 x2 x3 x4 x5 m ka0 hpre (fun r m' hp => zRet_to hF (fun t hw hf => ⟨⟨r, m', rfl, hp, hw⟩, hf.1, by rw [← hA]; exact hf.2⟩))
abbrev rm_X5_claim : Room := { frames := 6, cells := 0, slots := 0, locals := 150 }
def Con_X5_claim (l : Launch) (G : zG) (Pre : Nat → Int32 → Int32 → Int32 → Int32 → Int32 → zM → Prop) (Post : Nat → Int32 → Int32 → Int32 → Int32 → Int32 → zM → Int32 → zM → Prop) : Prop := ∀ (a0 : Nat) (x1 x2 x3 x4 x5 : Int32) (m : zM), zK G a0 = some (5, a0) → Pre a0 x1 x2 x3 x4 x5 m → Met l yX5_claim wsX5_claim rm_X5_claim (va_Pc [.ref a0, .int x1, .int x2, .int x3, .int x4, .int x5] (fun U => zW G m U)) (va_Qi (fun r m' => Post a0 x1 x2 x3 x4 x5 m r m') (fun m' t => zW G m' t) (zdom G)) 0 0 (zdom G)
def St_X5_claim (C : zC) (G : zG) (Qc : Array Value → State → Outcome → State → Prop) : Prop := zF C G cX5_claim 6 wsX5_claim RX5 ∧ zQm C Qc (some .int) 0 0 ∧ zRm C = rm_X5_claim
def Pt_X5_claim_0 (C : zC) (G : zG) (a0 : Nat) (x1 x2 x3 x4 x5 : Int32) (m : zM) : Prop := zX C 6 0 0 0 [(0, .ref a0), (1, .int x1), (2, .int x2), (3, .int x3), (4, .int x4), (5, .int x5)] [] (zPic G m)
set_option maxRecDepth 100000 in
theorem con_X5_claim {l : Launch} {G : zG} (hL : zLay G) {Pre : Nat → Int32 → Int32 → Int32 → Int32 → Int32 → zM → Prop} {Post : Nat → Int32 → Int32 → Int32 → Int32 → Int32 → zM → Int32 → zM → Prop} (h : ∀ (C : zC) (Qc : Array Value → State → Outcome → State → Prop), St_X5_claim C G Qc → zl C = l → ∀ (a0 : Nat) (x1 x2 x3 x4 x5 : Int32) (m : zM), zK G a0 = some (5, a0) → Pre a0 x1 x2 x3 x4 x5 m → (∀ (r : Int32) (m' : zM), Post a0 x1 x2 x3 x4 x5 m r m' → zRet C G Qc (some (.int r)) m') → Pt_X5_claim_0 C G a0 x1 x2 x3 x4 x5 m) : Con_X5_claim l G Pre Post := by
  intro a0 x1 x2 x3 x4 x5 m ka0 hpre
  refine zMetD hL (by decide +kernel) rfl (Nat.le_of_ble_eq_true rfl) (fun C hF hQ hA hR hl hnm => ?_)
  exact h C _ ⟨hF, hQ, hR⟩ hl a0 x1 x2 x3 x4 x5 m ka0 hpre (fun r m' hp => zRet_to hF (fun t hw hf => ⟨⟨r, m', rfl, hp, hw⟩, hf.1, by rw [← hA]; exact hf.2⟩))
abbrev rm_X0_claimAt : Room := { frames := 0, cells := 0, slots := 0, locals := 0 }
def Con_X0_claimAt (l : Launch) (G : zG) (Pre : Nat → Int32 → zM → Prop) (Post : Nat → Int32 → zM → Option Nat → Prop) : Prop := ∀ (a0 : Nat) (x1 : Int32) (m : zM), zK G a0 = some (0, a0) → Pre a0 x1 m → Met l yX0_claimAt wsX0_claimAt rm_X0_claimAt (va_Pc [.ref a0, .int x1] (fun U => zW G m U)) (va_Qq (fun r m' => (∀ a, r = some a → zK G a = some (1, a)) ∧ m' = m ∧ Post a0 x1 m r) (fun m' t => zW G m' t) (zdom G)) 0 0 (zdom G)
def St_X0_claimAt (C : zC) (G : zG) (Qc : Array Value → State → Outcome → State → Prop) : Prop := zF C G cX0_claimAt 2 wsX0_claimAt RX0 ∧ zQm C Qc (some (.object "ClaimsFund$Claim")) 0 0 ∧ zRm C = rm_X0_claimAt
def Pt_X0_claimAt_0 (C : zC) (G : zG) (a0 : Nat) (x1 : Int32) (m : zM) : Prop := zX C 2 0 0 0 [(0, .ref a0), (1, .int x1)] [] (zPic G m)
set_option maxRecDepth 100000 in
theorem con_X0_claimAt {l : Launch} {G : zG} (hL : zLay G) {Pre : Nat → Int32 → zM → Prop} {Post : Nat → Int32 → zM → Option Nat → Prop} (h : ∀ (C : zC) (Qc : Array Value → State → Outcome → State → Prop), St_X0_claimAt C G Qc → zl C = l → ∀ (a0 : Nat) (x1 : Int32) (m : zM), zK G a0 = some (0, a0) → Pre a0 x1 m → (∀ (r : Option Nat), (∀ a, r = some a → zK G a = some (1, a)) → Post a0 x1 m r → zRet C G Qc (some (va_rf r)) m) → Pt_X0_claimAt_0 C G a0 x1 m) : Con_X0_claimAt l G Pre Post := by
  intro a0 x1 m ka0 hpre
  refine zMetD hL (by decide +kernel) rfl (Nat.le_of_ble_eq_true rfl) (fun C hF hQ hA hR hl hnm => ?_)
  exact h C _ ⟨hF, hQ, hR⟩ hl a0 x1 m ka0 hpre (fun r hk hp => zRet_to hF (fun t hw hf => ⟨⟨r, m, rfl, ⟨hk, ⟨rfl, hp⟩⟩, hw⟩, hf.1, by rw [← hA]; exact hf.2⟩))
abbrev rm_X1_mayBring : Room := { frames := 0, cells := 0, slots := 0, locals := 0 }
def Con_X1_mayBring (l : Launch) (G : zG) (Pre : Nat → Int32 → zM → Prop) (Post : Nat → Int32 → zM → Int32 → Prop) : Prop := ∀ (a0 : Nat) (x1 : Int32) (m : zM), zK G a0 = some (1, a0) → Pre a0 x1 m → Met l yX1_mayBring wsX1_mayBring rm_X1_mayBring (va_Pc [.ref a0, .int x1] (fun U => zW G m U)) (va_Qi (fun r m' => m' = m ∧ Post a0 x1 m r) (fun m' t => zW G m' t) (zdom G)) 0 0 (zdom G)
def St_X1_mayBring (C : zC) (G : zG) (Qc : Array Value → State → Outcome → State → Prop) : Prop := zF C G cX1_mayBring 2 wsX1_mayBring RX1 ∧ zQm C Qc (some .boolean) 0 0 ∧ zRm C = rm_X1_mayBring
def Pt_X1_mayBring_0 (C : zC) (G : zG) (a0 : Nat) (x1 : Int32) (m : zM) : Prop := zX C 2 0 0 0 [(0, .ref a0), (1, .int x1)] [] (zPic G m)
set_option maxRecDepth 100000 in
theorem con_X1_mayBring {l : Launch} {G : zG} (hL : zLay G) {Pre : Nat → Int32 → zM → Prop} {Post : Nat → Int32 → zM → Int32 → Prop} (h : ∀ (C : zC) (Qc : Array Value → State → Outcome → State → Prop), St_X1_mayBring C G Qc → zl C = l → ∀ (a0 : Nat) (x1 : Int32) (m : zM), zK G a0 = some (1, a0) → Pre a0 x1 m → (∀ (r : Int32), Post a0 x1 m r → zRet C G Qc (some (.int r)) m) → Pt_X1_mayBring_0 C G a0 x1 m) : Con_X1_mayBring l G Pre Post := by
  intro a0 x1 m ka0 hpre
  refine zMetD hL (by decide +kernel) rfl (Nat.le_of_ble_eq_true rfl) (fun C hF hQ hA hR hl hnm => ?_)
  exact h C _ ⟨hF, hQ, hR⟩ hl a0 x1 m ka0 hpre (fun r hp => zRet_to hF (fun t hw hf => ⟨⟨r, m, rfl, ⟨rfl, hp⟩, hw⟩, hf.1, by rw [← hA]; exact hf.2⟩))
abbrev rm_X5_paper : Room := { frames := 5, cells := 0, slots := 0, locals := 124 }
def Con_X5_paper (l : Launch) (G : zG) (Pre : Nat → Int32 → Int32 → zM → Prop) (Post : Nat → Int32 → Int32 → zM → Int32 → zM → Prop) : Prop := ∀ (a0 : Nat) (x1 x2 : Int32) (m : zM), zK G a0 = some (5, a0) → Pre a0 x1 x2 m → Met l yX5_paper wsX5_paper rm_X5_paper (va_Pc [.ref a0, .int x1, .int x2] (fun U => zW G m U)) (va_Qi (fun r m' => Post a0 x1 x2 m r m') (fun m' t => zW G m' t) (zdom G)) 0 0 (zdom G)
def St_X5_paper (C : zC) (G : zG) (Qc : Array Value → State → Outcome → State → Prop) : Prop := zF C G cX5_paper 4 wsX5_paper RX5 ∧ zQm C Qc (some .boolean) 0 0 ∧ zRm C = rm_X5_paper
def Pt_X5_paper_0 (C : zC) (G : zG) (a0 : Nat) (x1 x2 : Int32) (m : zM) : Prop := zX C 4 0 0 0 [(0, .ref a0), (1, .int x1), (2, .int x2)] [] (zPic G m)
set_option maxRecDepth 100000 in
theorem con_X5_paper {l : Launch} {G : zG} (hL : zLay G) {Pre : Nat → Int32 → Int32 → zM → Prop} {Post : Nat → Int32 → Int32 → zM → Int32 → zM → Prop} (h : ∀ (C : zC) (Qc : Array Value → State → Outcome → State → Prop), St_X5_paper C G Qc → zl C = l → ∀ (a0 : Nat) (x1 x2 : Int32) (m : zM), zK G a0 = some (5, a0) → Pre a0 x1 x2 m → (∀ (r : Int32) (m' : zM), Post a0 x1 x2 m r m' → zRet C G Qc (some (.int r)) m') → Pt_X5_paper_0 C G a0 x1 x2 m) : Con_X5_paper l G Pre Post := by
  intro a0 x1 x2 m ka0 hpre
  refine zMetD hL (by decide +kernel) rfl (Nat.le_of_ble_eq_true rfl) (fun C hF hQ hA hR hl hnm => ?_)
  exact h C _ ⟨hF, hQ, hR⟩ hl a0 x1 x2 m ka0 hpre (fun r m' hp => zRet_to hF (fun t hw hf => ⟨⟨r, m', rfl, hp, hw⟩, hf.1, by rw [← hA]; exact hf.2⟩))
abbrev rm_X1_isIn : Room := { frames := 0, cells := 0, slots := 0, locals := 0 }
def Con_X1_isIn (l : Launch) (G : zG) (Pre : Nat → zM → Prop) (Post : Nat → zM → Int32 → Prop) : Prop := ∀ (a0 : Nat) (m : zM), zK G a0 = some (1, a0) → Pre a0 m → Met l yX1_isIn wsX1_isIn rm_X1_isIn (va_Pc [.ref a0] (fun U => zW G m U)) (va_Qi (fun r m' => m' = m ∧ Post a0 m r) (fun m' t => zW G m' t) (zdom G)) 0 0 (zdom G)
def St_X1_isIn (C : zC) (G : zG) (Qc : Array Value → State → Outcome → State → Prop) : Prop := zF C G cX1_isIn 1 wsX1_isIn RX1 ∧ zQm C Qc (some .boolean) 0 0 ∧ zRm C = rm_X1_isIn
def Pt_X1_isIn_0 (C : zC) (G : zG) (a0 : Nat) (m : zM) : Prop := zX C 1 0 0 0 [(0, .ref a0)] [] (zPic G m)
set_option maxRecDepth 100000 in
theorem con_X1_isIn {l : Launch} {G : zG} (hL : zLay G) {Pre : Nat → zM → Prop} {Post : Nat → zM → Int32 → Prop} (h : ∀ (C : zC) (Qc : Array Value → State → Outcome → State → Prop), St_X1_isIn C G Qc → zl C = l → ∀ (a0 : Nat) (m : zM), zK G a0 = some (1, a0) → Pre a0 m → (∀ (r : Int32), Post a0 m r → zRet C G Qc (some (.int r)) m) → Pt_X1_isIn_0 C G a0 m) : Con_X1_isIn l G Pre Post := by
  intro a0 m ka0 hpre
  refine zMetD hL (by decide +kernel) rfl (Nat.le_of_ble_eq_true rfl) (fun C hF hQ hA hR hl hnm => ?_)
  exact h C _ ⟨hF, hQ, hR⟩ hl a0 m ka0 hpre (fun r hp => zRet_to hF (fun t hw hf => ⟨⟨r, m, rfl, ⟨rfl, hp⟩, hw⟩, hf.1, by rw [← hA]; exact hf.2⟩))
abbrev rm_X0_areTwins : Room := { frames := 1, cells := 0, slots := 0, locals := 20 }
def Con_X0_areTwins (l : Launch) (G : zG) (Pre : Nat → Nat → zM → Prop) (Post : Nat → Nat → zM → Int32 → Prop) : Prop := ∀ (a0 a1 : Nat) (m : zM), zK G a0 = some (1, a0) → zK G a1 = some (1, a1) → Pre a0 a1 m → Met l yX0_areTwins wsX0_areTwins rm_X0_areTwins (va_Pc [.ref a0, .ref a1] (fun U => zW G m U)) (va_Qi (fun r m' => m' = m ∧ Post a0 a1 m r) (fun m' t => zW G m' t) (zdom G)) 0 0 (zdom G)
def St_X0_areTwins (C : zC) (G : zG) (Qc : Array Value → State → Outcome → State → Prop) : Prop := zF C G cX0_areTwins 2 wsX0_areTwins RX0 ∧ zQm C Qc (some .boolean) 0 0 ∧ zRm C = rm_X0_areTwins
def Pt_X0_areTwins_0 (C : zC) (G : zG) (a0 a1 : Nat) (m : zM) : Prop := zX C 2 0 0 0 [(0, .ref a0), (1, .ref a1)] [] (zPic G m)
set_option maxRecDepth 100000 in
theorem con_X0_areTwins {l : Launch} {G : zG} (hL : zLay G) {Pre : Nat → Nat → zM → Prop} {Post : Nat → Nat → zM → Int32 → Prop} (h : ∀ (C : zC) (Qc : Array Value → State → Outcome → State → Prop), St_X0_areTwins C G Qc → zl C = l → ∀ (a0 a1 : Nat) (m : zM), zK G a0 = some (1, a0) → zK G a1 = some (1, a1) → Pre a0 a1 m → (∀ (r : Int32), Post a0 a1 m r → zRet C G Qc (some (.int r)) m) → Pt_X0_areTwins_0 C G a0 a1 m) : Con_X0_areTwins l G Pre Post := by
  intro a0 a1 m ka0 ka1 hpre
  refine zMetD hL (by decide +kernel) rfl (Nat.le_of_ble_eq_true rfl) (fun C hF hQ hA hR hl hnm => ?_)
  exact h C _ ⟨hF, hQ, hR⟩ hl a0 a1 m ka0 ka1 hpre (fun r hp => zRet_to hF (fun t hw hf => ⟨⟨r, m, rfl, ⟨rfl, hp⟩, hw⟩, hf.1, by rw [← hA]; exact hf.2⟩))
abbrev rm_X0_hasJudgedTwin : Room := { frames := 2, cells := 0, slots := 0, locals := 41 }
def Con_X0_hasJudgedTwin (l : Launch) (G : zG) (Pre : Nat → Nat → zM → Prop) (Post : Nat → Nat → zM → Int32 → Prop) : Prop := ∀ (a0 a1 : Nat) (m : zM), zK G a0 = some (0, a0) → zK G a1 = some (1, a1) → Pre a0 a1 m → Met l yX0_hasJudgedTwin wsX0_hasJudgedTwin rm_X0_hasJudgedTwin (va_Pc [.ref a0, .ref a1] (fun U => zW G m U)) (va_Qi (fun r m' => m' = m ∧ Post a0 a1 m r) (fun m' t => zW G m' t) (zdom G)) 0 0 (zdom G)
def St_X0_hasJudgedTwin (C : zC) (G : zG) (Qc : Array Value → State → Outcome → State → Prop) : Prop := zF C G cX0_hasJudgedTwin 6 wsX0_hasJudgedTwin RX0 ∧ zQm C Qc (some .boolean) 0 0 ∧ zRm C = rm_X0_hasJudgedTwin
def Pt_X0_hasJudgedTwin_0 (C : zC) (G : zG) (a0 a1 : Nat) (m : zM) : Prop := zX C 6 0 0 0 [(0, .ref a0), (1, .ref a1)] [] (zPic G m)
def Pt_X0_hasJudgedTwin_11 (C : zC) (G : zG) (a1 : Nat) (x4 : Int32) (a0 : Nat) (m : zM) : Prop := zX C 6 0 0 11 [(1, .ref a1), (2, .ref (a0 + 10)), (3, .int 16), (4, .int x4)] [] (zPic G m)
set_option maxRecDepth 100000 in
theorem con_X0_hasJudgedTwin {l : Launch} {G : zG} (hL : zLay G) {Pre : Nat → Nat → zM → Prop} {Post : Nat → Nat → zM → Int32 → Prop} (h : ∀ (C : zC) (Qc : Array Value → State → Outcome → State → Prop), St_X0_hasJudgedTwin C G Qc → zl C = l → ∀ (a0 a1 : Nat) (m : zM), zK G a0 = some (0, a0) → zK G a1 = some (1, a1) → Pre a0 a1 m → (∀ (r : Int32), Post a0 a1 m r → zRet C G Qc (some (.int r)) m) → Pt_X0_hasJudgedTwin_0 C G a0 a1 m) : Con_X0_hasJudgedTwin l G Pre Post := by
  intro a0 a1 m ka0 ka1 hpre
  refine zMetD hL (by decide +kernel) rfl (Nat.le_of_ble_eq_true rfl) (fun C hF hQ hA hR hl hnm => ?_)
  exact h C _ ⟨hF, hQ, hR⟩ hl a0 a1 m ka0 ka1 hpre (fun r hp => zRet_to hF (fun t hw hf => ⟨⟨r, m, rfl, ⟨rfl, hp⟩, hw⟩, hf.1, by rw [← hA]; exact hf.2⟩))
abbrev rm_X1_pointsWith : Room := { frames := 4, cells := 0, slots := 0, locals := 101 }
def Con_X1_pointsWith (l : Launch) (G : zG) (Pre : Nat → Nat → Int32 → zM → Prop) (Post : Nat → Nat → Int32 → zM → Int32 → Prop) : Prop := ∀ (a0 a1 : Nat) (x2 : Int32) (m : zM), zK G a0 = some (1, a0) → zK G a1 = some (2, a1) → Pre a0 a1 x2 m → Met l yX1_pointsWith wsX1_pointsWith rm_X1_pointsWith (va_Pc [.ref a0, .ref a1, .int x2] (fun U => zW G m U)) (va_Qi (fun r m' => m' = m ∧ Post a0 a1 x2 m r) (fun m' t => zW G m' t) (zdom G)) 0 0 (zdom G)
def St_X1_pointsWith (C : zC) (G : zG) (Qc : Array Value → State → Outcome → State → Prop) : Prop := zF C G cX1_pointsWith 3 wsX1_pointsWith RX1 ∧ zQm C Qc (some .int) 0 0 ∧ zRm C = rm_X1_pointsWith
def Pt_X1_pointsWith_0 (C : zC) (G : zG) (a0 a1 : Nat) (x2 : Int32) (m : zM) : Prop := zX C 3 0 0 0 [(0, .ref a0), (1, .ref a1), (2, .int x2)] [] (zPic G m)
set_option maxRecDepth 100000 in
theorem con_X1_pointsWith {l : Launch} {G : zG} (hL : zLay G) {Pre : Nat → Nat → Int32 → zM → Prop} {Post : Nat → Nat → Int32 → zM → Int32 → Prop} (h : ∀ (C : zC) (Qc : Array Value → State → Outcome → State → Prop), St_X1_pointsWith C G Qc → zl C = l → ∀ (a0 a1 : Nat) (x2 : Int32) (m : zM), zK G a0 = some (1, a0) → zK G a1 = some (2, a1) → Pre a0 a1 x2 m → (∀ (r : Int32), Post a0 a1 x2 m r → zRet C G Qc (some (.int r)) m) → Pt_X1_pointsWith_0 C G a0 a1 x2 m) : Con_X1_pointsWith l G Pre Post := by
  intro a0 a1 x2 m ka0 ka1 hpre
  refine zMetD hL (by decide +kernel) rfl (Nat.le_of_ble_eq_true rfl) (fun C hF hQ hA hR hl hnm => ?_)
  exact h C _ ⟨hF, hQ, hR⟩ hl a0 a1 x2 m ka0 ka1 hpre (fun r hp => zRet_to hF (fun t hw hf => ⟨⟨r, m, rfl, ⟨rfl, hp⟩, hw⟩, hf.1, by rw [← hA]; exact hf.2⟩))
abbrev rm_X5_judge : Room := { frames := 5, cells := 0, slots := 0, locals := 123 }
def Con_X5_judge (l : Launch) (G : zG) (Pre : Nat → Int32 → zM → Prop) (Post : Nat → Int32 → zM → Int32 → zM → Prop) : Prop := ∀ (a0 : Nat) (x1 : Int32) (m : zM), zK G a0 = some (5, a0) → Pre a0 x1 m → Met l yX5_judge wsX5_judge rm_X5_judge (va_Pc [.ref a0, .int x1] (fun U => zW G m U)) (va_Qi (fun r m' => Post a0 x1 m r m') (fun m' t => zW G m' t) (zdom G)) 0 0 (zdom G)
def St_X5_judge (C : zC) (G : zG) (Qc : Array Value → State → Outcome → State → Prop) : Prop := zF C G cX5_judge 4 wsX5_judge RX5 ∧ zQm C Qc (some .int) 0 0 ∧ zRm C = rm_X5_judge
def Pt_X5_judge_0 (C : zC) (G : zG) (a0 : Nat) (x1 : Int32) (m : zM) : Prop := zX C 4 0 0 0 [(0, .ref a0), (1, .int x1)] [] (zPic G m)
set_option maxRecDepth 100000 in
theorem con_X5_judge {l : Launch} {G : zG} (hL : zLay G) {Pre : Nat → Int32 → zM → Prop} {Post : Nat → Int32 → zM → Int32 → zM → Prop} (h : ∀ (C : zC) (Qc : Array Value → State → Outcome → State → Prop), St_X5_judge C G Qc → zl C = l → ∀ (a0 : Nat) (x1 : Int32) (m : zM), zK G a0 = some (5, a0) → Pre a0 x1 m → (∀ (r : Int32) (m' : zM), Post a0 x1 m r m' → zRet C G Qc (some (.int r)) m') → Pt_X5_judge_0 C G a0 x1 m) : Con_X5_judge l G Pre Post := by
  intro a0 x1 m ka0 hpre
  refine zMetD hL (by decide +kernel) rfl (Nat.le_of_ble_eq_true rfl) (fun C hF hQ hA hR hl hnm => ?_)
  exact h C _ ⟨hF, hQ, hR⟩ hl a0 x1 m ka0 hpre (fun r m' hp => zRet_to hF (fun t hw hf => ⟨⟨r, m', rfl, hp, hw⟩, hf.1, by rw [← hA]; exact hf.2⟩))
abbrev rm_X5_appeal : Room := { frames := 2, cells := 0, slots := 0, locals := 52 }
def Con_X5_appeal (l : Launch) (G : zG) (Pre : Nat → Int32 → Int32 → zM → Prop) (Post : Nat → Int32 → Int32 → zM → Int32 → zM → Prop) : Prop := ∀ (a0 : Nat) (x1 x2 : Int32) (m : zM), zK G a0 = some (5, a0) → Pre a0 x1 x2 m → Met l yX5_appeal wsX5_appeal rm_X5_appeal (va_Pc [.ref a0, .int x1, .int x2] (fun U => zW G m U)) (va_Qi (fun r m' => Post a0 x1 x2 m r m') (fun m' t => zW G m' t) (zdom G)) 0 0 (zdom G)
def St_X5_appeal (C : zC) (G : zG) (Qc : Array Value → State → Outcome → State → Prop) : Prop := zF C G cX5_appeal 5 wsX5_appeal RX5 ∧ zQm C Qc (some .boolean) 0 0 ∧ zRm C = rm_X5_appeal
def Pt_X5_appeal_0 (C : zC) (G : zG) (a0 : Nat) (x1 x2 : Int32) (m : zM) : Prop := zX C 5 0 0 0 [(0, .ref a0), (1, .int x1), (2, .int x2)] [] (zPic G m)
set_option maxRecDepth 100000 in
theorem con_X5_appeal {l : Launch} {G : zG} (hL : zLay G) {Pre : Nat → Int32 → Int32 → zM → Prop} {Post : Nat → Int32 → Int32 → zM → Int32 → zM → Prop} (h : ∀ (C : zC) (Qc : Array Value → State → Outcome → State → Prop), St_X5_appeal C G Qc → zl C = l → ∀ (a0 : Nat) (x1 x2 : Int32) (m : zM), zK G a0 = some (5, a0) → Pre a0 x1 x2 m → (∀ (r : Int32) (m' : zM), Post a0 x1 x2 m r m' → zRet C G Qc (some (.int r)) m') → Pt_X5_appeal_0 C G a0 x1 x2 m) : Con_X5_appeal l G Pre Post := by
  intro a0 x1 x2 m ka0 hpre
  refine zMetD hL (by decide +kernel) rfl (Nat.le_of_ble_eq_true rfl) (fun C hF hQ hA hR hl hnm => ?_)
  exact h C _ ⟨hF, hQ, hR⟩ hl a0 x1 x2 m ka0 hpre (fun r m' hp => zRet_to hF (fun t hw hf => ⟨⟨r, m', rfl, hp, hw⟩, hf.1, by rw [← hA]; exact hf.2⟩))
abbrev rm_X0_sendOut : Room := { frames := 1, cells := 0, slots := 0, locals := 22 }
def Con_X0_sendOut (l : Launch) (G : zG) (Pre : Nat → Nat → zM → Prop) (Post : Nat → Nat → zM → Int32 → zM → Prop) : Prop := ∀ (a0 a1 : Nat) (m : zM), zK G a0 = some (0, a0) → zK G a1 = some (1, a1) → Pre a0 a1 m → Met l yX0_sendOut wsX0_sendOut rm_X0_sendOut (va_Pc [.ref a0, .ref a1] (fun U => zW G m U)) (va_Qi (fun r m' => Post a0 a1 m r m') (fun m' t => zW G m' t) (zdom G)) 0 0 (zdom G)
def St_X0_sendOut (C : zC) (G : zG) (Qc : Array Value → State → Outcome → State → Prop) : Prop := zF C G cX0_sendOut 2 wsX0_sendOut RX0 ∧ zQm C Qc (some .boolean) 0 0 ∧ zRm C = rm_X0_sendOut
def Pt_X0_sendOut_0 (C : zC) (G : zG) (a0 a1 : Nat) (m : zM) : Prop := zX C 2 0 0 0 [(0, .ref a0), (1, .ref a1)] [] (zPic G m)
set_option maxRecDepth 100000 in
theorem con_X0_sendOut {l : Launch} {G : zG} (hL : zLay G) {Pre : Nat → Nat → zM → Prop} {Post : Nat → Nat → zM → Int32 → zM → Prop} (h : ∀ (C : zC) (Qc : Array Value → State → Outcome → State → Prop), St_X0_sendOut C G Qc → zl C = l → ∀ (a0 a1 : Nat) (m : zM), zK G a0 = some (0, a0) → zK G a1 = some (1, a1) → Pre a0 a1 m → (∀ (r : Int32) (m' : zM), Post a0 a1 m r m' → zRet C G Qc (some (.int r)) m') → Pt_X0_sendOut_0 C G a0 a1 m) : Con_X0_sendOut l G Pre Post := by
  intro a0 a1 m ka0 ka1 hpre
  refine zMetD hL (by decide +kernel) rfl (Nat.le_of_ble_eq_true rfl) (fun C hF hQ hA hR hl hnm => ?_)
  exact h C _ ⟨hF, hQ, hR⟩ hl a0 a1 m ka0 ka1 hpre (fun r m' hp => zRet_to hF (fun t hw hf => ⟨⟨r, m', rfl, hp, hw⟩, hf.1, by rw [← hA]; exact hf.2⟩))
abbrev rm_X0_takeBack : Room := { frames := 5, cells := 0, slots := 0, locals := 124 }
def Con_X0_takeBack (l : Launch) (G : zG) (Pre : Nat → Nat → zM → Prop) (Post : Nat → Nat → zM → Int32 → zM → Prop) : Prop := ∀ (a0 a1 : Nat) (m : zM), zK G a0 = some (0, a0) → zK G a1 = some (1, a1) → Pre a0 a1 m → Met l yX0_takeBack wsX0_takeBack rm_X0_takeBack (va_Pc [.ref a0, .ref a1] (fun U => zW G m U)) (va_Qi (fun r m' => Post a0 a1 m r m') (fun m' t => zW G m' t) (zdom G)) 0 0 (zdom G)
def St_X0_takeBack (C : zC) (G : zG) (Qc : Array Value → State → Outcome → State → Prop) : Prop := zF C G cX0_takeBack 2 wsX0_takeBack RX0 ∧ zQm C Qc (some .boolean) 0 0 ∧ zRm C = rm_X0_takeBack
def Pt_X0_takeBack_0 (C : zC) (G : zG) (a0 a1 : Nat) (m : zM) : Prop := zX C 2 0 0 0 [(0, .ref a0), (1, .ref a1)] [] (zPic G m)
set_option maxRecDepth 100000 in
theorem con_X0_takeBack {l : Launch} {G : zG} (hL : zLay G) {Pre : Nat → Nat → zM → Prop} {Post : Nat → Nat → zM → Int32 → zM → Prop} (h : ∀ (C : zC) (Qc : Array Value → State → Outcome → State → Prop), St_X0_takeBack C G Qc → zl C = l → ∀ (a0 a1 : Nat) (m : zM), zK G a0 = some (0, a0) → zK G a1 = some (1, a1) → Pre a0 a1 m → (∀ (r : Int32) (m' : zM), Post a0 a1 m r m' → zRet C G Qc (some (.int r)) m') → Pt_X0_takeBack_0 C G a0 a1 m) : Con_X0_takeBack l G Pre Post := by
  intro a0 a1 m ka0 ka1 hpre
  refine zMetD hL (by decide +kernel) rfl (Nat.le_of_ble_eq_true rfl) (fun C hF hQ hA hR hl hnm => ?_)
  exact h C _ ⟨hF, hQ, hR⟩ hl a0 a1 m ka0 ka1 hpre (fun r m' hp => zRet_to hF (fun t hw hf => ⟨⟨r, m', rfl, hp, hw⟩, hf.1, by rw [← hA]; exact hf.2⟩))
abbrev rm_X5_out : Room := { frames := 6, cells := 0, slots := 0, locals := 145 }
def Con_X5_out (l : Launch) (G : zG) (Pre : Nat → Int32 → Int32 → zM → Prop) (Post : Nat → Int32 → Int32 → zM → Int32 → zM → Prop) : Prop := ∀ (a0 : Nat) (x1 x2 : Int32) (m : zM), zK G a0 = some (5, a0) → Pre a0 x1 x2 m → Met l yX5_out wsX5_out rm_X5_out (va_Pc [.ref a0, .int x1, .int x2] (fun U => zW G m U)) (va_Qi (fun r m' => Post a0 x1 x2 m r m') (fun m' t => zW G m' t) (zdom G)) 0 0 (zdom G)
def St_X5_out (C : zC) (G : zG) (Qc : Array Value → State → Outcome → State → Prop) : Prop := zF C G cX5_out 4 wsX5_out RX5 ∧ zQm C Qc (some .boolean) 0 0 ∧ zRm C = rm_X5_out
def Pt_X5_out_0 (C : zC) (G : zG) (a0 : Nat) (x1 x2 : Int32) (m : zM) : Prop := zX C 4 0 0 0 [(0, .ref a0), (1, .int x1), (2, .int x2)] [] (zPic G m)
set_option maxRecDepth 100000 in
theorem con_X5_out {l : Launch} {G : zG} (hL : zLay G) {Pre : Nat → Int32 → Int32 → zM → Prop} {Post : Nat → Int32 → Int32 → zM → Int32 → zM → Prop} (h : ∀ (C : zC) (Qc : Array Value → State → Outcome → State → Prop), St_X5_out C G Qc → zl C = l → ∀ (a0 : Nat) (x1 x2 : Int32) (m : zM), zK G a0 = some (5, a0) → Pre a0 x1 x2 m → (∀ (r : Int32) (m' : zM), Post a0 x1 x2 m r m' → zRet C G Qc (some (.int r)) m') → Pt_X5_out_0 C G a0 x1 x2 m) : Con_X5_out l G Pre Post := by
  intro a0 x1 x2 m ka0 hpre
  refine zMetD hL (by decide +kernel) rfl (Nat.le_of_ble_eq_true rfl) (fun C hF hQ hA hR hl hnm => ?_)
  exact h C _ ⟨hF, hQ, hR⟩ hl a0 x1 x2 m ka0 hpre (fun r m' hp => zRet_to hF (fun t hw hf => ⟨⟨r, m', rfl, hp, hw⟩, hf.1, by rw [← hA]; exact hf.2⟩))
abbrev rm_X5_points : Room := { frames := 4, cells := 0, slots := 0, locals := 101 }
def Con_X5_points (l : Launch) (G : zG) (Pre : Nat → Int32 → Int32 → Int32 → Int32 → zM → Prop) (Post : Nat → Int32 → Int32 → Int32 → Int32 → zM → Int32 → Prop) : Prop := ∀ (a0 : Nat) (x1 x2 x3 x4 : Int32) (m : zM), zK G a0 = some (5, a0) → Pre a0 x1 x2 x3 x4 m → Met l yX5_points wsX5_points rm_X5_points (va_Pc [.ref a0, .int x1, .int x2, .int x3, .int x4] (fun U => zW G m U)) (va_Qi (fun r m' => m' = m ∧ Post a0 x1 x2 x3 x4 m r) (fun m' t => zW G m' t) (zdom G)) 0 0 (zdom G)
def St_X5_points (C : zC) (G : zG) (Qc : Array Value → State → Outcome → State → Prop) : Prop := zF C G cX5_points 5 wsX5_points RX5 ∧ zQm C Qc (some .int) 0 0 ∧ zRm C = rm_X5_points
def Pt_X5_points_0 (C : zC) (G : zG) (a0 : Nat) (x1 x2 x3 x4 : Int32) (m : zM) : Prop := zX C 5 0 0 0 [(0, .ref a0), (1, .int x1), (2, .int x2), (3, .int x3), (4, .int x4)] [] (zPic G m)
set_option maxRecDepth 100000 in
theorem con_X5_points {l : Launch} {G : zG} (hL : zLay G) {Pre : Nat → Int32 → Int32 → Int32 → Int32 → zM → Prop} {Post : Nat → Int32 → Int32 → Int32 → Int32 → zM → Int32 → Prop} (h : ∀ (C : zC) (Qc : Array Value → State → Outcome → State → Prop), St_X5_points C G Qc → zl C = l → ∀ (a0 : Nat) (x1 x2 x3 x4 : Int32) (m : zM), zK G a0 = some (5, a0) → Pre a0 x1 x2 x3 x4 m → (∀ (r : Int32), Post a0 x1 x2 x3 x4 m r → zRet C G Qc (some (.int r)) m) → Pt_X5_points_0 C G a0 x1 x2 x3 x4 m) : Con_X5_points l G Pre Post := by
  intro a0 x1 x2 x3 x4 m ka0 hpre
  refine zMetD hL (by decide +kernel) rfl (Nat.le_of_ble_eq_true rfl) (fun C hF hQ hA hR hl hnm => ?_)
  exact h C _ ⟨hF, hQ, hR⟩ hl a0 x1 x2 x3 x4 m ka0 hpre (fun r hp => zRet_to hF (fun t hw hf => ⟨⟨r, m, rfl, ⟨rfl, hp⟩, hw⟩, hf.1, by rw [← hA]; exact hf.2⟩))
abbrev rm_X5_lacks : Room := { frames := 5, cells := 0, slots := 0, locals := 123 }
def Con_X5_lacks (l : Launch) (G : zG) (Pre : Nat → Int32 → Int32 → zM → Prop) (Post : Nat → Int32 → Int32 → zM → Int32 → Prop) : Prop := ∀ (a0 : Nat) (x1 x2 : Int32) (m : zM), zK G a0 = some (5, a0) → Pre a0 x1 x2 m → Met l yX5_lacks wsX5_lacks rm_X5_lacks (va_Pc [.ref a0, .int x1, .int x2] (fun U => zW G m U)) (va_Qi (fun r m' => m' = m ∧ Post a0 x1 x2 m r) (fun m' t => zW G m' t) (zdom G)) 0 0 (zdom G)
def St_X5_lacks (C : zC) (G : zG) (Qc : Array Value → State → Outcome → State → Prop) : Prop := zF C G cX5_lacks 4 wsX5_lacks RX5 ∧ zQm C Qc (some .int) 0 0 ∧ zRm C = rm_X5_lacks
def Pt_X5_lacks_0 (C : zC) (G : zG) (a0 : Nat) (x1 x2 : Int32) (m : zM) : Prop := zX C 4 0 0 0 [(0, .ref a0), (1, .int x1), (2, .int x2)] [] (zPic G m)
set_option maxRecDepth 100000 in
theorem con_X5_lacks {l : Launch} {G : zG} (hL : zLay G) {Pre : Nat → Int32 → Int32 → zM → Prop} {Post : Nat → Int32 → Int32 → zM → Int32 → Prop} (h : ∀ (C : zC) (Qc : Array Value → State → Outcome → State → Prop), St_X5_lacks C G Qc → zl C = l → ∀ (a0 : Nat) (x1 x2 : Int32) (m : zM), zK G a0 = some (5, a0) → Pre a0 x1 x2 m → (∀ (r : Int32), Post a0 x1 x2 m r → zRet C G Qc (some (.int r)) m) → Pt_X5_lacks_0 C G a0 x1 x2 m) : Con_X5_lacks l G Pre Post := by
  intro a0 x1 x2 m ka0 hpre
  refine zMetD hL (by decide +kernel) rfl (Nat.le_of_ble_eq_true rfl) (fun C hF hQ hA hR hl hnm => ?_)
  exact h C _ ⟨hF, hQ, hR⟩ hl a0 x1 x2 m ka0 hpre (fun r hp => zRet_to hF (fun t hw hf => ⟨⟨r, m, rfl, ⟨rfl, hp⟩, hw⟩, hf.1, by rw [← hA]; exact hf.2⟩))
abbrev rm_X0_twinsOf : Room := { frames := 2, cells := 0, slots := 0, locals := 41 }
def Con_X0_twinsOf (l : Launch) (G : zG) (Pre : Nat → Nat → zM → Prop) (Post : Nat → Nat → zM → Int32 → Prop) : Prop := ∀ (a0 a1 : Nat) (m : zM), zK G a0 = some (0, a0) → zK G a1 = some (1, a1) → Pre a0 a1 m → Met l yX0_twinsOf wsX0_twinsOf rm_X0_twinsOf (va_Pc [.ref a0, .ref a1] (fun U => zW G m U)) (va_Qi (fun r m' => m' = m ∧ Post a0 a1 m r) (fun m' t => zW G m' t) (zdom G)) 0 0 (zdom G)
def St_X0_twinsOf (C : zC) (G : zG) (Qc : Array Value → State → Outcome → State → Prop) : Prop := zF C G cX0_twinsOf 7 wsX0_twinsOf RX0 ∧ zQm C Qc (some .int) 0 0 ∧ zRm C = rm_X0_twinsOf
def Pt_X0_twinsOf_0 (C : zC) (G : zG) (a0 a1 : Nat) (m : zM) : Prop := zX C 7 0 0 0 [(0, .ref a0), (1, .ref a1)] [] (zPic G m)
def Pt_X0_twinsOf_14 (C : zC) (G : zG) (a1 : Nat) (x2 x5 : Int32) (a0 : Nat) (m : zM) : Prop := zX C 7 0 0 14 [(1, .ref a1), (2, .int x2), (3, .ref (a0 + 10)), (4, .int 16), (5, .int x5)] [] (zPic G m)
set_option maxRecDepth 100000 in
theorem con_X0_twinsOf {l : Launch} {G : zG} (hL : zLay G) {Pre : Nat → Nat → zM → Prop} {Post : Nat → Nat → zM → Int32 → Prop} (h : ∀ (C : zC) (Qc : Array Value → State → Outcome → State → Prop), St_X0_twinsOf C G Qc → zl C = l → ∀ (a0 a1 : Nat) (m : zM), zK G a0 = some (0, a0) → zK G a1 = some (1, a1) → Pre a0 a1 m → (∀ (r : Int32), Post a0 a1 m r → zRet C G Qc (some (.int r)) m) → Pt_X0_twinsOf_0 C G a0 a1 m) : Con_X0_twinsOf l G Pre Post := by
  intro a0 a1 m ka0 ka1 hpre
  refine zMetD hL (by decide +kernel) rfl (Nat.le_of_ble_eq_true rfl) (fun C hF hQ hA hR hl hnm => ?_)
  exact h C _ ⟨hF, hQ, hR⟩ hl a0 a1 m ka0 ka1 hpre (fun r hp => zRet_to hF (fun t hw hf => ⟨⟨r, m, rfl, ⟨rfl, hp⟩, hw⟩, hf.1, by rw [← hA]; exact hf.2⟩))
abbrev rm_X5_tell : Room := { frames := 3, cells := 0, slots := 0, locals := 67 }
def Con_X5_tell (l : Launch) (G : zG) (Pre : Nat → Int32 → Int32 → zM → Prop) (Post : Nat → Int32 → Int32 → zM → Int32 → Prop) : Prop := ∀ (a0 : Nat) (x1 x2 : Int32) (m : zM), zK G a0 = some (5, a0) → Pre a0 x1 x2 m → Met l yX5_tell wsX5_tell rm_X5_tell (va_Pc [.ref a0, .int x1, .int x2] (fun U => zW G m U)) (va_Qi (fun r m' => m' = m ∧ Post a0 x1 x2 m r) (fun m' t => zW G m' t) (zdom G)) 0 0 (zdom G)
def St_X5_tell (C : zC) (G : zG) (Qc : Array Value → State → Outcome → State → Prop) : Prop := zF C G cX5_tell 4 wsX5_tell RX5 ∧ zQm C Qc (some .int) 0 0 ∧ zRm C = rm_X5_tell
def Pt_X5_tell_0 (C : zC) (G : zG) (a0 : Nat) (x1 x2 : Int32) (m : zM) : Prop := zX C 4 0 0 0 [(0, .ref a0), (1, .int x1), (2, .int x2)] [] (zPic G m)
set_option maxRecDepth 100000 in
theorem con_X5_tell {l : Launch} {G : zG} (hL : zLay G) {Pre : Nat → Int32 → Int32 → zM → Prop} {Post : Nat → Int32 → Int32 → zM → Int32 → Prop} (h : ∀ (C : zC) (Qc : Array Value → State → Outcome → State → Prop), St_X5_tell C G Qc → zl C = l → ∀ (a0 : Nat) (x1 x2 : Int32) (m : zM), zK G a0 = some (5, a0) → Pre a0 x1 x2 m → (∀ (r : Int32), Post a0 x1 x2 m r → zRet C G Qc (some (.int r)) m) → Pt_X5_tell_0 C G a0 x1 x2 m) : Con_X5_tell l G Pre Post := by
  intro a0 x1 x2 m ka0 hpre
  refine zMetD hL (by decide +kernel) rfl (Nat.le_of_ble_eq_true rfl) (fun C hF hQ hA hR hl hnm => ?_)
  exact h C _ ⟨hF, hQ, hR⟩ hl a0 x1 x2 m ka0 hpre (fun r hp => zRet_to hF (fun t hw hf => ⟨⟨r, m, rfl, ⟨rfl, hp⟩, hw⟩, hf.1, by rw [← hA]; exact hf.2⟩))
abbrev rm_X0_worstOf : Room := { frames := 1, cells := 0, slots := 0, locals := 26 }
def Con_X0_worstOf (l : Launch) (G : zG) (Pre : Nat → Nat → zM → Prop) (Post : Nat → Nat → zM → Int64 → Prop) : Prop := ∀ (a0 a1 : Nat) (m : zM), zK G a0 = some (0, a0) → zK G a1 = some (1, a1) → Pre a0 a1 m → Met l yX0_worstOf wsX0_worstOf rm_X0_worstOf (va_Pc [.ref a0, .ref a1] (fun U => zW G m U)) (va_Ql (fun r m' => m' = m ∧ Post a0 a1 m r) (fun m' t => zW G m' t) (zdom G)) 0 0 (zdom G)
def St_X0_worstOf (C : zC) (G : zG) (Qc : Array Value → State → Outcome → State → Prop) : Prop := zF C G cX0_worstOf 2 wsX0_worstOf RX0 ∧ zQm C Qc (some .long) 0 0 ∧ zRm C = rm_X0_worstOf
def Pt_X0_worstOf_0 (C : zC) (G : zG) (a0 a1 : Nat) (m : zM) : Prop := zX C 2 0 0 0 [(0, .ref a0), (1, .ref a1)] [] (zPic G m)
set_option maxRecDepth 100000 in
theorem con_X0_worstOf {l : Launch} {G : zG} (hL : zLay G) {Pre : Nat → Nat → zM → Prop} {Post : Nat → Nat → zM → Int64 → Prop} (h : ∀ (C : zC) (Qc : Array Value → State → Outcome → State → Prop), St_X0_worstOf C G Qc → zl C = l → ∀ (a0 a1 : Nat) (m : zM), zK G a0 = some (0, a0) → zK G a1 = some (1, a1) → Pre a0 a1 m → (∀ (r : Int64), Post a0 a1 m r → zRet C G Qc (some (.long r)) m) → Pt_X0_worstOf_0 C G a0 a1 m) : Con_X0_worstOf l G Pre Post := by
  intro a0 a1 m ka0 ka1 hpre
  refine zMetD hL (by decide +kernel) rfl (Nat.le_of_ble_eq_true rfl) (fun C hF hQ hA hR hl hnm => ?_)
  exact h C _ ⟨hF, hQ, hR⟩ hl a0 a1 m ka0 ka1 hpre (fun r hp => zRet_to hF (fun t hw hf => ⟨⟨r, m, rfl, ⟨rfl, hp⟩, hw⟩, hf.1, by rw [← hA]; exact hf.2⟩))
abbrev rm_X3_lienCoins : Room := { frames := 0, cells := 0, slots := 0, locals := 0 }
def Con_X3_lienCoins (l : Launch) (G : zG) (Pre : Nat → zM → Prop) (Post : Nat → zM → Int64 → Prop) : Prop := ∀ (a0 : Nat) (m : zM), zK G a0 = some (3, a0) → Pre a0 m → Met l yX3_lienCoins wsX3_lienCoins rm_X3_lienCoins (va_Pc [.ref a0] (fun U => zW G m U)) (va_Ql (fun r m' => m' = m ∧ Post a0 m r) (fun m' t => zW G m' t) (zdom G)) 0 0 (zdom G)
def St_X3_lienCoins (C : zC) (G : zG) (Qc : Array Value → State → Outcome → State → Prop) : Prop := zF C G cX3_lienCoins 4 wsX3_lienCoins RX3 ∧ zQm C Qc (some .long) 0 0 ∧ zRm C = rm_X3_lienCoins
def Pt_X3_lienCoins_0 (C : zC) (G : zG) (a0 : Nat) (m : zM) : Prop := zX C 4 0 0 0 [(0, .ref a0)] [] (zPic G m)
def Pt_X3_lienCoins_4 (C : zC) (G : zG) (a0 : Nat) (l1 : Int64) (x3 : Int32) (m : zM) : Prop := zX C 4 0 0 4 [(0, .ref a0), (1, .long l1), (3, .int x3)] [] (zPic G m)
set_option maxRecDepth 100000 in
theorem con_X3_lienCoins {l : Launch} {G : zG} (hL : zLay G) {Pre : Nat → zM → Prop} {Post : Nat → zM → Int64 → Prop} (h : ∀ (C : zC) (Qc : Array Value → State → Outcome → State → Prop), St_X3_lienCoins C G Qc → zl C = l → ∀ (a0 : Nat) (m : zM), zK G a0 = some (3, a0) → Pre a0 m → (∀ (r : Int64), Post a0 m r → zRet C G Qc (some (.long r)) m) → Pt_X3_lienCoins_0 C G a0 m) : Con_X3_lienCoins l G Pre Post := by
  intro a0 m ka0 hpre
  refine zMetD hL (by decide +kernel) rfl (Nat.le_of_ble_eq_true rfl) (fun C hF hQ hA hR hl hnm => ?_)
  exact h C _ ⟨hF, hQ, hR⟩ hl a0 m ka0 hpre (fun r hp => zRet_to hF (fun t hw hf => ⟨⟨r, m, rfl, ⟨rfl, hp⟩, hw⟩, hf.1, by rw [← hA]; exact hf.2⟩))
abbrev rm_X3_heirCoins : Room := { frames := 0, cells := 0, slots := 0, locals := 0 }
def Con_X3_heirCoins (l : Launch) (G : zG) (Pre : Nat → zM → Prop) (Post : Nat → zM → Int64 → Prop) : Prop := ∀ (a0 : Nat) (m : zM), zK G a0 = some (3, a0) → Pre a0 m → Met l yX3_heirCoins wsX3_heirCoins rm_X3_heirCoins (va_Pc [.ref a0] (fun U => zW G m U)) (va_Ql (fun r m' => m' = m ∧ Post a0 m r) (fun m' t => zW G m' t) (zdom G)) 0 0 (zdom G)
def St_X3_heirCoins (C : zC) (G : zG) (Qc : Array Value → State → Outcome → State → Prop) : Prop := zF C G cX3_heirCoins 4 wsX3_heirCoins RX3 ∧ zQm C Qc (some .long) 0 0 ∧ zRm C = rm_X3_heirCoins
def Pt_X3_heirCoins_0 (C : zC) (G : zG) (a0 : Nat) (m : zM) : Prop := zX C 4 0 0 0 [(0, .ref a0)] [] (zPic G m)
def Pt_X3_heirCoins_4 (C : zC) (G : zG) (a0 : Nat) (l1 : Int64) (x3 : Int32) (m : zM) : Prop := zX C 4 0 0 4 [(0, .ref a0), (1, .long l1), (3, .int x3)] [] (zPic G m)
set_option maxRecDepth 100000 in
theorem con_X3_heirCoins {l : Launch} {G : zG} (hL : zLay G) {Pre : Nat → zM → Prop} {Post : Nat → zM → Int64 → Prop} (h : ∀ (C : zC) (Qc : Array Value → State → Outcome → State → Prop), St_X3_heirCoins C G Qc → zl C = l → ∀ (a0 : Nat) (m : zM), zK G a0 = some (3, a0) → Pre a0 m → (∀ (r : Int64), Post a0 m r → zRet C G Qc (some (.long r)) m) → Pt_X3_heirCoins_0 C G a0 m) : Con_X3_heirCoins l G Pre Post := by
  intro a0 m ka0 hpre
  refine zMetD hL (by decide +kernel) rfl (Nat.le_of_ble_eq_true rfl) (fun C hF hQ hA hR hl hnm => ?_)
  exact h C _ ⟨hF, hQ, hR⟩ hl a0 m ka0 hpre (fun r hp => zRet_to hF (fun t hw hf => ⟨⟨r, m, rfl, ⟨rfl, hp⟩, hw⟩, hf.1, by rw [← hA]; exact hf.2⟩))
abbrev rm_X3_coinsOf : Room := { frames := 1, cells := 0, slots := 0, locals := 23 }
def Con_X3_coinsOf (l : Launch) (G : zG) (Pre : Nat → Int32 → zM → Prop) (Post : Nat → Int32 → zM → Int64 → Prop) : Prop := ∀ (a0 : Nat) (x1 : Int32) (m : zM), zK G a0 = some (3, a0) → Pre a0 x1 m → Met l yX3_coinsOf wsX3_coinsOf rm_X3_coinsOf (va_Pc [.ref a0, .int x1] (fun U => zW G m U)) (va_Ql (fun r m' => m' = m ∧ Post a0 x1 m r) (fun m' t => zW G m' t) (zdom G)) 0 0 (zdom G)
def St_X3_coinsOf (C : zC) (G : zG) (Qc : Array Value → State → Outcome → State → Prop) : Prop := zF C G cX3_coinsOf 2 wsX3_coinsOf RX3 ∧ zQm C Qc (some .long) 0 0 ∧ zRm C = rm_X3_coinsOf
def Pt_X3_coinsOf_0 (C : zC) (G : zG) (a0 : Nat) (x1 : Int32) (m : zM) : Prop := zX C 2 0 0 0 [(0, .ref a0), (1, .int x1)] [] (zPic G m)
def Pt_X3_coinsOf_39 (C : zC) (G : zG) (a0 : Nat) (x1 : Int32) (m : zM) : Prop := zX C 2 0 0 39 [(0, .ref a0), (1, .int x1)] [] (zPic G m)
def Pt_X3_coinsOf_78 (C : zC) (G : zG) (a0 : Nat) (x1 : Int32) (m : zM) : Prop := zX C 2 0 0 78 [(0, .ref a0), (1, .int x1)] [] (zPic G m)
set_option maxRecDepth 100000 in
theorem con_X3_coinsOf {l : Launch} {G : zG} (hL : zLay G) {Pre : Nat → Int32 → zM → Prop} {Post : Nat → Int32 → zM → Int64 → Prop} (h : ∀ (C : zC) (Qc : Array Value → State → Outcome → State → Prop), St_X3_coinsOf C G Qc → zl C = l → ∀ (a0 : Nat) (x1 : Int32) (m : zM), zK G a0 = some (3, a0) → Pre a0 x1 m → (∀ (r : Int64), Post a0 x1 m r → zRet C G Qc (some (.long r)) m) → Pt_X3_coinsOf_0 C G a0 x1 m) : Con_X3_coinsOf l G Pre Post := by
  intro a0 x1 m ka0 hpre
  refine zMetD hL (by decide +kernel) rfl (Nat.le_of_ble_eq_true rfl) (fun C hF hQ hA hR hl hnm => ?_)
  exact h C _ ⟨hF, hQ, hR⟩ hl a0 x1 m ka0 hpre (fun r hp => zRet_to hF (fun t hw hf => ⟨⟨r, m, rfl, ⟨rfl, hp⟩, hw⟩, hf.1, by rw [← hA]; exact hf.2⟩))
abbrev rm_X5_money : Room := { frames := 2, cells := 0, slots := 0, locals := 47 }
def Con_X5_money (l : Launch) (G : zG) (Pre : Nat → Int32 → Int32 → zM → Prop) (Post : Nat → Int32 → Int32 → zM → Int64 → Prop) : Prop := ∀ (a0 : Nat) (x1 x2 : Int32) (m : zM), zK G a0 = some (5, a0) → Pre a0 x1 x2 m → Met l yX5_money wsX5_money rm_X5_money (va_Pc [.ref a0, .int x1, .int x2] (fun U => zW G m U)) (va_Ql (fun r m' => m' = m ∧ Post a0 x1 x2 m r) (fun m' t => zW G m' t) (zdom G)) 0 0 (zdom G)
def St_X5_money (C : zC) (G : zG) (Qc : Array Value → State → Outcome → State → Prop) : Prop := zF C G cX5_money 4 wsX5_money RX5 ∧ zQm C Qc (some .long) 0 0 ∧ zRm C = rm_X5_money
def Pt_X5_money_0 (C : zC) (G : zG) (a0 : Nat) (x1 x2 : Int32) (m : zM) : Prop := zX C 4 0 0 0 [(0, .ref a0), (1, .int x1), (2, .int x2)] [] (zPic G m)
set_option maxRecDepth 100000 in
theorem con_X5_money {l : Launch} {G : zG} (hL : zLay G) {Pre : Nat → Int32 → Int32 → zM → Prop} {Post : Nat → Int32 → Int32 → zM → Int64 → Prop} (h : ∀ (C : zC) (Qc : Array Value → State → Outcome → State → Prop), St_X5_money C G Qc → zl C = l → ∀ (a0 : Nat) (x1 x2 : Int32) (m : zM), zK G a0 = some (5, a0) → Pre a0 x1 x2 m → (∀ (r : Int64), Post a0 x1 x2 m r → zRet C G Qc (some (.long r)) m) → Pt_X5_money_0 C G a0 x1 x2 m) : Con_X5_money l G Pre Post := by
  intro a0 x1 x2 m ka0 hpre
  refine zMetD hL (by decide +kernel) rfl (Nat.le_of_ble_eq_true rfl) (fun C hF hQ hA hR hl hnm => ?_)
  exact h C _ ⟨hF, hQ, hR⟩ hl a0 x1 x2 m ka0 hpre (fun r hp => zRet_to hF (fun t hw hf => ⟨⟨r, m, rfl, ⟨rfl, hp⟩, hw⟩, hf.1, by rw [← hA]; exact hf.2⟩))
abbrev rm_X5_fee : Room := { frames := 1, cells := 0, slots := 0, locals := 21 }
def Con_X5_fee (l : Launch) (G : zG) (Pre : Nat → Int32 → Int32 → zM → Prop) (Post : Nat → Int32 → Int32 → zM → Int32 → zM → Prop) : Prop := ∀ (a0 : Nat) (x1 x2 : Int32) (m : zM), zK G a0 = some (5, a0) → Pre a0 x1 x2 m → Met l yX5_fee wsX5_fee rm_X5_fee (va_Pc [.ref a0, .int x1, .int x2] (fun U => zW G m U)) (va_Qi (fun r m' => Post a0 x1 x2 m r m') (fun m' t => zW G m' t) (zdom G)) 0 0 (zdom G)
def St_X5_fee (C : zC) (G : zG) (Qc : Array Value → State → Outcome → State → Prop) : Prop := zF C G cX5_fee 4 wsX5_fee RX5 ∧ zQm C Qc (some .boolean) 0 0 ∧ zRm C = rm_X5_fee
def Pt_X5_fee_0 (C : zC) (G : zG) (a0 : Nat) (x1 x2 : Int32) (m : zM) : Prop := zX C 4 0 0 0 [(0, .ref a0), (1, .int x1), (2, .int x2)] [] (zPic G m)
set_option maxRecDepth 100000 in
theorem con_X5_fee {l : Launch} {G : zG} (hL : zLay G) {Pre : Nat → Int32 → Int32 → zM → Prop} {Post : Nat → Int32 → Int32 → zM → Int32 → zM → Prop} (h : ∀ (C : zC) (Qc : Array Value → State → Outcome → State → Prop), St_X5_fee C G Qc → zl C = l → ∀ (a0 : Nat) (x1 x2 : Int32) (m : zM), zK G a0 = some (5, a0) → Pre a0 x1 x2 m → (∀ (r : Int32) (m' : zM), Post a0 x1 x2 m r m' → zRet C G Qc (some (.int r)) m') → Pt_X5_fee_0 C G a0 x1 x2 m) : Con_X5_fee l G Pre Post := by
  intro a0 x1 x2 m ka0 hpre
  refine zMetD hL (by decide +kernel) rfl (Nat.le_of_ble_eq_true rfl) (fun C hF hQ hA hR hl hnm => ?_)
  exact h C _ ⟨hF, hQ, hR⟩ hl a0 x1 x2 m ka0 hpre (fun r m' hp => zRet_to hF (fun t hw hf => ⟨⟨r, m', rfl, hp, hw⟩, hf.1, by rw [← hA]; exact hf.2⟩))
abbrev rm_X3_addLien : Room := { frames := 0, cells := 0, slots := 0, locals := 0 }
def Con_X3_addLien (l : Launch) (G : zG) (Pre : Nat → Int32 → Int64 → zM → Prop) (Post : Nat → Int32 → Int64 → zM → Int32 → zM → Prop) : Prop := ∀ (a0 : Nat) (x1 : Int32) (l2 : Int64) (m : zM), zK G a0 = some (3, a0) → Pre a0 x1 l2 m → Met l yX3_addLien wsX3_addLien rm_X3_addLien (va_Pc [.ref a0, .int x1, .long l2] (fun U => zW G m U)) (va_Qi (fun r m' => Post a0 x1 l2 m r m') (fun m' t => zW G m' t) (zdom G)) 0 0 (zdom G)
def St_X3_addLien (C : zC) (G : zG) (Qc : Array Value → State → Outcome → State → Prop) : Prop := zF C G cX3_addLien 4 wsX3_addLien RX3 ∧ zQm C Qc (some .int) 0 0 ∧ zRm C = rm_X3_addLien
def Pt_X3_addLien_0 (C : zC) (G : zG) (a0 : Nat) (x1 : Int32) (l2 : Int64) (m : zM) : Prop := zX C 4 0 0 0 [(0, .ref a0), (1, .int x1), (2, .long l2)] [] (zPic G m)
set_option maxRecDepth 100000 in
theorem con_X3_addLien {l : Launch} {G : zG} (hL : zLay G) {Pre : Nat → Int32 → Int64 → zM → Prop} {Post : Nat → Int32 → Int64 → zM → Int32 → zM → Prop} (h : ∀ (C : zC) (Qc : Array Value → State → Outcome → State → Prop), St_X3_addLien C G Qc → zl C = l → ∀ (a0 : Nat) (x1 : Int32) (l2 : Int64) (m : zM), zK G a0 = some (3, a0) → Pre a0 x1 l2 m → (∀ (r : Int32) (m' : zM), Post a0 x1 l2 m r m' → zRet C G Qc (some (.int r)) m') → Pt_X3_addLien_0 C G a0 x1 l2 m) : Con_X3_addLien l G Pre Post := by
  intro a0 x1 l2 m ka0 hpre
  refine zMetD hL (by decide +kernel) rfl (Nat.le_of_ble_eq_true rfl) (fun C hF hQ hA hR hl hnm => ?_)
  exact h C _ ⟨hF, hQ, hR⟩ hl a0 x1 l2 m ka0 hpre (fun r m' hp => zRet_to hF (fun t hw hf => ⟨⟨r, m', rfl, hp, hw⟩, hf.1, by rw [← hA]; exact hf.2⟩))
abbrev rm_X5_lien : Room := { frames := 1, cells := 0, slots := 0, locals := 23 }
def Con_X5_lien (l : Launch) (G : zG) (Pre : Nat → Int32 → Int32 → Int64 → zM → Prop) (Post : Nat → Int32 → Int32 → Int64 → zM → Int32 → zM → Prop) : Prop := ∀ (a0 : Nat) (x1 x2 : Int32) (l3 : Int64) (m : zM), zK G a0 = some (5, a0) → Pre a0 x1 x2 l3 m → Met l yX5_lien wsX5_lien rm_X5_lien (va_Pc [.ref a0, .int x1, .int x2, .long l3] (fun U => zW G m U)) (va_Qi (fun r m' => Post a0 x1 x2 l3 m r m') (fun m' t => zW G m' t) (zdom G)) 0 0 (zdom G)
def St_X5_lien (C : zC) (G : zG) (Qc : Array Value → State → Outcome → State → Prop) : Prop := zF C G cX5_lien 7 wsX5_lien RX5 ∧ zQm C Qc (some .int) 0 0 ∧ zRm C = rm_X5_lien
def Pt_X5_lien_0 (C : zC) (G : zG) (a0 : Nat) (x1 x2 : Int32) (l3 : Int64) (m : zM) : Prop := zX C 7 0 0 0 [(0, .ref a0), (1, .int x1), (2, .int x2), (3, .long l3)] [] (zPic G m)
set_option maxRecDepth 100000 in
theorem con_X5_lien {l : Launch} {G : zG} (hL : zLay G) {Pre : Nat → Int32 → Int32 → Int64 → zM → Prop} {Post : Nat → Int32 → Int32 → Int64 → zM → Int32 → zM → Prop} (h : ∀ (C : zC) (Qc : Array Value → State → Outcome → State → Prop), St_X5_lien C G Qc → zl C = l → ∀ (a0 : Nat) (x1 x2 : Int32) (l3 : Int64) (m : zM), zK G a0 = some (5, a0) → Pre a0 x1 x2 l3 m → (∀ (r : Int32) (m' : zM), Post a0 x1 x2 l3 m r m' → zRet C G Qc (some (.int r)) m') → Pt_X5_lien_0 C G a0 x1 x2 l3 m) : Con_X5_lien l G Pre Post := by
  intro a0 x1 x2 l3 m ka0 hpre
  refine zMetD hL (by decide +kernel) rfl (Nat.le_of_ble_eq_true rfl) (fun C hF hQ hA hR hl hnm => ?_)
  exact h C _ ⟨hF, hQ, hR⟩ hl a0 x1 x2 l3 m ka0 hpre (fun r m' hp => zRet_to hF (fun t hw hf => ⟨⟨r, m', rfl, hp, hw⟩, hf.1, by rw [← hA]; exact hf.2⟩))
abbrev rm_X3_addHeir : Room := { frames := 0, cells := 0, slots := 0, locals := 0 }
def Con_X3_addHeir (l : Launch) (G : zG) (Pre : Nat → Int32 → zM → Prop) (Post : Nat → Int32 → zM → Int32 → zM → Prop) : Prop := ∀ (a0 : Nat) (x1 : Int32) (m : zM), zK G a0 = some (3, a0) → Pre a0 x1 m → Met l yX3_addHeir wsX3_addHeir rm_X3_addHeir (va_Pc [.ref a0, .int x1] (fun U => zW G m U)) (va_Qi (fun r m' => Post a0 x1 m r m') (fun m' t => zW G m' t) (zdom G)) 0 0 (zdom G)
def St_X3_addHeir (C : zC) (G : zG) (Qc : Array Value → State → Outcome → State → Prop) : Prop := zF C G cX3_addHeir 2 wsX3_addHeir RX3 ∧ zQm C Qc (some .int) 0 0 ∧ zRm C = rm_X3_addHeir
def Pt_X3_addHeir_0 (C : zC) (G : zG) (a0 : Nat) (x1 : Int32) (m : zM) : Prop := zX C 2 0 0 0 [(0, .ref a0), (1, .int x1)] [] (zPic G m)
set_option maxRecDepth 100000 in
theorem con_X3_addHeir {l : Launch} {G : zG} (hL : zLay G) {Pre : Nat → Int32 → zM → Prop} {Post : Nat → Int32 → zM → Int32 → zM → Prop} (h : ∀ (C : zC) (Qc : Array Value → State → Outcome → State → Prop), St_X3_addHeir C G Qc → zl C = l → ∀ (a0 : Nat) (x1 : Int32) (m : zM), zK G a0 = some (3, a0) → Pre a0 x1 m → (∀ (r : Int32) (m' : zM), Post a0 x1 m r m' → zRet C G Qc (some (.int r)) m') → Pt_X3_addHeir_0 C G a0 x1 m) : Con_X3_addHeir l G Pre Post := by
  intro a0 x1 m ka0 hpre
  refine zMetD hL (by decide +kernel) rfl (Nat.le_of_ble_eq_true rfl) (fun C hF hQ hA hR hl hnm => ?_)
  exact h C _ ⟨hF, hQ, hR⟩ hl a0 x1 m ka0 hpre (fun r m' hp => zRet_to hF (fun t hw hf => ⟨⟨r, m', rfl, hp, hw⟩, hf.1, by rw [← hA]; exact hf.2⟩))
abbrev rm_X5_heir : Room := { frames := 1, cells := 0, slots := 0, locals := 21 }
def Con_X5_heir (l : Launch) (G : zG) (Pre : Nat → Int32 → Int32 → zM → Prop) (Post : Nat → Int32 → Int32 → zM → Int32 → zM → Prop) : Prop := ∀ (a0 : Nat) (x1 x2 : Int32) (m : zM), zK G a0 = some (5, a0) → Pre a0 x1 x2 m → Met l yX5_heir wsX5_heir rm_X5_heir (va_Pc [.ref a0, .int x1, .int x2] (fun U => zW G m U)) (va_Qi (fun r m' => Post a0 x1 x2 m r m') (fun m' t => zW G m' t) (zdom G)) 0 0 (zdom G)
def St_X5_heir (C : zC) (G : zG) (Qc : Array Value → State → Outcome → State → Prop) : Prop := zF C G cX5_heir 4 wsX5_heir RX5 ∧ zQm C Qc (some .int) 0 0 ∧ zRm C = rm_X5_heir
def Pt_X5_heir_0 (C : zC) (G : zG) (a0 : Nat) (x1 x2 : Int32) (m : zM) : Prop := zX C 4 0 0 0 [(0, .ref a0), (1, .int x1), (2, .int x2)] [] (zPic G m)
set_option maxRecDepth 100000 in
theorem con_X5_heir {l : Launch} {G : zG} (hL : zLay G) {Pre : Nat → Int32 → Int32 → zM → Prop} {Post : Nat → Int32 → Int32 → zM → Int32 → zM → Prop} (h : ∀ (C : zC) (Qc : Array Value → State → Outcome → State → Prop), St_X5_heir C G Qc → zl C = l → ∀ (a0 : Nat) (x1 x2 : Int32) (m : zM), zK G a0 = some (5, a0) → Pre a0 x1 x2 m → (∀ (r : Int32) (m' : zM), Post a0 x1 x2 m r m' → zRet C G Qc (some (.int r)) m') → Pt_X5_heir_0 C G a0 x1 x2 m) : Con_X5_heir l G Pre Post := by
  intro a0 x1 x2 m ka0 hpre
  refine zMetD hL (by decide +kernel) rfl (Nat.le_of_ble_eq_true rfl) (fun C hF hQ hA hR hl hnm => ?_)
  exact h C _ ⟨hF, hQ, hR⟩ hl a0 x1 x2 m ka0 hpre (fun r m' hp => zRet_to hF (fun t hw hf => ⟨⟨r, m', rfl, hp, hw⟩, hf.1, by rw [← hA]; exact hf.2⟩))
abbrev rm_X3_payLiens : Room := { frames := 1, cells := 0, slots := 0, locals := 23 }
def Con_X3_payLiens (l : Launch) (G : zG) (Pre : Nat → Int64 → zM → Prop) (Post : Nat → Int64 → zM → Int64 → zM → Prop) : Prop := ∀ (a0 : Nat) (l1 : Int64) (m : zM), zK G a0 = some (3, a0) → Pre a0 l1 m → Met l yX3_payLiens wsX3_payLiens rm_X3_payLiens (va_Pc [.ref a0, .long l1] (fun U => zW G m U)) (va_Ql (fun r m' => Post a0 l1 m r m') (fun m' t => zW G m' t) (zdom G)) 0 0 (zdom G)
def St_X3_payLiens (C : zC) (G : zG) (Qc : Array Value → State → Outcome → State → Prop) : Prop := zF C G cX3_payLiens 9 wsX3_payLiens RX3 ∧ zQm C Qc (some .long) 0 0 ∧ zRm C = rm_X3_payLiens
def Pt_X3_payLiens_0 (C : zC) (G : zG) (a0 : Nat) (l1 : Int64) (m : zM) : Prop := zX C 9 0 0 0 [(0, .ref a0), (1, .long l1)] [] (zPic G m)
def Pt_X3_payLiens_5 (C : zC) (G : zG) (a0 : Nat) (l3 : Int64) (x5 : Int32) (m : zM) : Prop := zX C 9 0 0 5 [(0, .ref a0), (3, .long l3), (5, .int x5)] [] (zPic G m)
def Pt_X3_payLiens_15 (C : zC) (G : zG) (a0 : Nat) (l3 : Int64) (x5 x6 : Int32) (m : zM) : Prop := zX C 9 0 0 15 [(0, .ref a0), (3, .long l3), (5, .int x5), (6, .int x6)] [] (zPic G m)
set_option maxRecDepth 100000 in
theorem con_X3_payLiens {l : Launch} {G : zG} (hL : zLay G) {Pre : Nat → Int64 → zM → Prop} {Post : Nat → Int64 → zM → Int64 → zM → Prop} (h : ∀ (C : zC) (Qc : Array Value → State → Outcome → State → Prop), St_X3_payLiens C G Qc → zl C = l → ∀ (a0 : Nat) (l1 : Int64) (m : zM), zK G a0 = some (3, a0) → Pre a0 l1 m → (∀ (r : Int64) (m' : zM), Post a0 l1 m r m' → zRet C G Qc (some (.long r)) m') → Pt_X3_payLiens_0 C G a0 l1 m) : Con_X3_payLiens l G Pre Post := by
  intro a0 l1 m ka0 hpre
  refine zMetD hL (by decide +kernel) rfl (Nat.le_of_ble_eq_true rfl) (fun C hF hQ hA hR hl hnm => ?_)
  exact h C _ ⟨hF, hQ, hR⟩ hl a0 l1 m ka0 hpre (fun r m' hp => zRet_to hF (fun t hw hf => ⟨⟨r, m', rfl, hp, hw⟩, hf.1, by rw [← hA]; exact hf.2⟩))
abbrev rm_X3_allParts : Room := { frames := 0, cells := 0, slots := 0, locals := 0 }
def Con_X3_allParts (l : Launch) (G : zG) (Pre : Nat → zM → Prop) (Post : Nat → zM → Int32 → Prop) : Prop := ∀ (a0 : Nat) (m : zM), zK G a0 = some (3, a0) → Pre a0 m → Met l yX3_allParts wsX3_allParts rm_X3_allParts (va_Pc [.ref a0] (fun U => zW G m U)) (va_Qi (fun r m' => m' = m ∧ Post a0 m r) (fun m' t => zW G m' t) (zdom G)) 0 0 (zdom G)
def St_X3_allParts (C : zC) (G : zG) (Qc : Array Value → State → Outcome → State → Prop) : Prop := zF C G cX3_allParts 3 wsX3_allParts RX3 ∧ zQm C Qc (some .int) 0 0 ∧ zRm C = rm_X3_allParts
def Pt_X3_allParts_0 (C : zC) (G : zG) (a0 : Nat) (m : zM) : Prop := zX C 3 0 0 0 [(0, .ref a0)] [] (zPic G m)
def Pt_X3_allParts_4 (C : zC) (G : zG) (a0 : Nat) (x1 x2 : Int32) (m : zM) : Prop := zX C 3 0 0 4 [(0, .ref a0), (1, .int x1), (2, .int x2)] [] (zPic G m)
set_option maxRecDepth 100000 in
theorem con_X3_allParts {l : Launch} {G : zG} (hL : zLay G) {Pre : Nat → zM → Prop} {Post : Nat → zM → Int32 → Prop} (h : ∀ (C : zC) (Qc : Array Value → State → Outcome → State → Prop), St_X3_allParts C G Qc → zl C = l → ∀ (a0 : Nat) (m : zM), zK G a0 = some (3, a0) → Pre a0 m → (∀ (r : Int32), Post a0 m r → zRet C G Qc (some (.int r)) m) → Pt_X3_allParts_0 C G a0 m) : Con_X3_allParts l G Pre Post := by
  intro a0 m ka0 hpre
  refine zMetD hL (by decide +kernel) rfl (Nat.le_of_ble_eq_true rfl) (fun C hF hQ hA hR hl hnm => ?_)
  exact h C _ ⟨hF, hQ, hR⟩ hl a0 m ka0 hpre (fun r hp => zRet_to hF (fun t hw hf => ⟨⟨r, m, rfl, ⟨rfl, hp⟩, hw⟩, hf.1, by rw [← hA]; exact hf.2⟩))
abbrev rm_X3_payHeirs : Room := { frames := 1, cells := 0, slots := 0, locals := 22 }
def Con_X3_payHeirs (l : Launch) (G : zG) (Pre : Nat → Int64 → zM → Prop) (Post : Nat → Int64 → zM → zM → Prop) : Prop := ∀ (a0 : Nat) (l1 : Int64) (m : zM), zK G a0 = some (3, a0) → Pre a0 l1 m → Met l yX3_payHeirs wsX3_payHeirs rm_X3_payHeirs (va_Pc [.ref a0, .long l1] (fun U => zW G m U)) (va_Qv (fun m' => Post a0 l1 m m') (fun m' t => zW G m' t) (zdom G)) 0 0 (zdom G)
def St_X3_payHeirs (C : zC) (G : zG) (Qc : Array Value → State → Outcome → State → Prop) : Prop := zF C G cX3_payHeirs 9 wsX3_payHeirs RX3 ∧ zQm C Qc none 0 0 ∧ zRm C = rm_X3_payHeirs
def Pt_X3_payHeirs_0 (C : zC) (G : zG) (a0 : Nat) (l1 : Int64) (m : zM) : Prop := zX C 9 0 0 0 [(0, .ref a0), (1, .long l1)] [] (zPic G m)
def Pt_X3_payHeirs_26 (C : zC) (G : zG) (a0 : Nat) (l1 : Int64) (x3 : Int32) (l4 : Int64) (x6 : Int32) (m : zM) : Prop := zX C 9 0 0 26 [(0, .ref a0), (1, .long l1), (3, .int x3), (4, .long l4), (6, .int x6)] [] (zPic G m)
def Pt_X3_payHeirs_81 (C : zC) (G : zG) (a0 : Nat) (l4 : Int64) (m : zM) : Prop := zX C 9 0 0 81 [(0, .ref a0), (4, .long l4)] [] (zPic G m)
set_option maxRecDepth 100000 in
theorem con_X3_payHeirs {l : Launch} {G : zG} (hL : zLay G) {Pre : Nat → Int64 → zM → Prop} {Post : Nat → Int64 → zM → zM → Prop} (h : ∀ (C : zC) (Qc : Array Value → State → Outcome → State → Prop), St_X3_payHeirs C G Qc → zl C = l → ∀ (a0 : Nat) (l1 : Int64) (m : zM), zK G a0 = some (3, a0) → Pre a0 l1 m → (∀ (m' : zM), Post a0 l1 m m' → zRet C G Qc none m') → Pt_X3_payHeirs_0 C G a0 l1 m) : Con_X3_payHeirs l G Pre Post := by
  intro a0 l1 m ka0 hpre
  refine zMetD hL (by decide +kernel) rfl (Nat.le_of_ble_eq_true rfl) (fun C hF hQ hA hR hl hnm => ?_)
  exact h C _ ⟨hF, hQ, hR⟩ hl a0 l1 m ka0 hpre (fun m' hp => zRet_to hF (fun t hw hf => ⟨⟨m', rfl, hp, hw⟩, hf.1, by rw [← hA]; exact hf.2⟩))
abbrev rm_X3_pay : Room := { frames := 2, cells := 0, slots := 0, locals := 51 }
def Con_X3_pay (l : Launch) (G : zG) (Pre : Nat → Int64 → zM → Prop) (Post : Nat → Int64 → zM → zM → Prop) : Prop := ∀ (a0 : Nat) (l1 : Int64) (m : zM), zK G a0 = some (3, a0) → Pre a0 l1 m → Met l yX3_pay wsX3_pay rm_X3_pay (va_Pc [.ref a0, .long l1] (fun U => zW G m U)) (va_Qv (fun m' => Post a0 l1 m m') (fun m' t => zW G m' t) (zdom G)) 0 0 (zdom G)
def St_X3_pay (C : zC) (G : zG) (Qc : Array Value → State → Outcome → State → Prop) : Prop := zF C G cX3_pay 5 wsX3_pay RX3 ∧ zQm C Qc none 0 0 ∧ zRm C = rm_X3_pay
def Pt_X3_pay_0 (C : zC) (G : zG) (a0 : Nat) (l1 : Int64) (m : zM) : Prop := zX C 5 0 0 0 [(0, .ref a0), (1, .long l1)] [] (zPic G m)
set_option maxRecDepth 100000 in
theorem con_X3_pay {l : Launch} {G : zG} (hL : zLay G) {Pre : Nat → Int64 → zM → Prop} {Post : Nat → Int64 → zM → zM → Prop} (h : ∀ (C : zC) (Qc : Array Value → State → Outcome → State → Prop), St_X3_pay C G Qc → zl C = l → ∀ (a0 : Nat) (l1 : Int64) (m : zM), zK G a0 = some (3, a0) → Pre a0 l1 m → (∀ (m' : zM), Post a0 l1 m m' → zRet C G Qc none m') → Pt_X3_pay_0 C G a0 l1 m) : Con_X3_pay l G Pre Post := by
  intro a0 l1 m ka0 hpre
  refine zMetD hL (by decide +kernel) rfl (Nat.le_of_ble_eq_true rfl) (fun C hF hQ hA hR hl hnm => ?_)
  exact h C _ ⟨hF, hQ, hR⟩ hl a0 l1 m ka0 hpre (fun m' hp => zRet_to hF (fun t hw hf => ⟨⟨m', rfl, hp, hw⟩, hf.1, by rw [← hA]; exact hf.2⟩))
abbrev rm_X3_payUpTo : Room := { frames := 3, cells := 0, slots := 0, locals := 75 }
def Con_X3_payUpTo (l : Launch) (G : zG) (Pre : Nat → Int64 → zM → Prop) (Post : Nat → Int64 → zM → zM → Prop) : Prop := ∀ (a0 : Nat) (l1 : Int64) (m : zM), zK G a0 = some (3, a0) → Pre a0 l1 m → Met l yX3_payUpTo wsX3_payUpTo rm_X3_payUpTo (va_Pc [.ref a0, .long l1] (fun U => zW G m U)) (va_Qv (fun m' => Post a0 l1 m m') (fun m' t => zW G m' t) (zdom G)) 0 0 (zdom G)
def St_X3_payUpTo (C : zC) (G : zG) (Qc : Array Value → State → Outcome → State → Prop) : Prop := zF C G cX3_payUpTo 3 wsX3_payUpTo RX3 ∧ zQm C Qc none 0 0 ∧ zRm C = rm_X3_payUpTo
def Pt_X3_payUpTo_0 (C : zC) (G : zG) (a0 : Nat) (l1 : Int64) (m : zM) : Prop := zX C 3 0 0 0 [(0, .ref a0), (1, .long l1)] [] (zPic G m)
set_option maxRecDepth 100000 in
theorem con_X3_payUpTo {l : Launch} {G : zG} (hL : zLay G) {Pre : Nat → Int64 → zM → Prop} {Post : Nat → Int64 → zM → zM → Prop} (h : ∀ (C : zC) (Qc : Array Value → State → Outcome → State → Prop), St_X3_payUpTo C G Qc → zl C = l → ∀ (a0 : Nat) (l1 : Int64) (m : zM), zK G a0 = some (3, a0) → Pre a0 l1 m → (∀ (m' : zM), Post a0 l1 m m' → zRet C G Qc none m') → Pt_X3_payUpTo_0 C G a0 l1 m) : Con_X3_payUpTo l G Pre Post := by
  intro a0 l1 m ka0 hpre
  refine zMetD hL (by decide +kernel) rfl (Nat.le_of_ble_eq_true rfl) (fun C hF hQ hA hR hl hnm => ?_)
  exact h C _ ⟨hF, hQ, hR⟩ hl a0 l1 m ka0 hpre (fun m' hp => zRet_to hF (fun t hw hf => ⟨⟨m', rfl, hp, hw⟩, hf.1, by rw [← hA]; exact hf.2⟩))
abbrev rm_X0_payWave : Room := { frames := 4, cells := 0, slots := 0, locals := 97 }
def Con_X0_payWave (l : Launch) (G : zG) (Pre : Nat → Int32 → zM → Prop) (Post : Nat → Int32 → zM → Int64 → zM → Prop) : Prop := ∀ (a0 : Nat) (x1 : Int32) (m : zM), zK G a0 = some (0, a0) → Pre a0 x1 m → Met l yX0_payWave wsX0_payWave rm_X0_payWave (va_Pc [.ref a0, .int x1] (fun U => zW G m U)) (va_Ql (fun r m' => Post a0 x1 m r m') (fun m' t => zW G m' t) (zdom G)) 0 0 (zdom G)
def St_X0_payWave (C : zC) (G : zG) (Qc : Array Value → State → Outcome → State → Prop) : Prop := zF C G cX0_payWave 10 wsX0_payWave RX0 ∧ zQm C Qc (some .long) 0 0 ∧ zRm C = rm_X0_payWave
def Pt_X0_payWave_0 (C : zC) (G : zG) (a0 : Nat) (x1 : Int32) (m : zM) : Prop := zX C 10 0 0 0 [(0, .ref a0), (1, .int x1)] [] (zPic G m)
def Pt_X0_payWave_25 (C : zC) (G : zG) (a0 : Nat) (x1 : Int32) (l2 l4 : Int64) (x8 : Int32) (m : zM) : Prop := zX C 10 0 0 25 [(0, .ref a0), (1, .int x1), (2, .long l2), (4, .long l4), (6, .ref (a0 + 10)), (7, .int 16), (8, .int x8)] [] (zPic G m)
set_option maxRecDepth 100000 in
theorem con_X0_payWave {l : Launch} {G : zG} (hL : zLay G) {Pre : Nat → Int32 → zM → Prop} {Post : Nat → Int32 → zM → Int64 → zM → Prop} (h : ∀ (C : zC) (Qc : Array Value → State → Outcome → State → Prop), St_X0_payWave C G Qc → zl C = l → ∀ (a0 : Nat) (x1 : Int32) (m : zM), zK G a0 = some (0, a0) → Pre a0 x1 m → (∀ (r : Int64) (m' : zM), Post a0 x1 m r m' → zRet C G Qc (some (.long r)) m') → Pt_X0_payWave_0 C G a0 x1 m) : Con_X0_payWave l G Pre Post := by
  intro a0 x1 m ka0 hpre
  refine zMetD hL (by decide +kernel) rfl (Nat.le_of_ble_eq_true rfl) (fun C hF hQ hA hR hl hnm => ?_)
  exact h C _ ⟨hF, hQ, hR⟩ hl a0 x1 m ka0 hpre (fun r m' hp => zRet_to hF (fun t hw hf => ⟨⟨r, m', rfl, hp, hw⟩, hf.1, by rw [← hA]; exact hf.2⟩))
abbrev rm_X5_wave : Room := { frames := 5, cells := 0, slots := 0, locals := 126 }
def Con_X5_wave (l : Launch) (G : zG) (Pre : Nat → Int32 → zM → Prop) (Post : Nat → Int32 → zM → Int64 → zM → Prop) : Prop := ∀ (a0 : Nat) (x1 : Int32) (m : zM), zK G a0 = some (5, a0) → Pre a0 x1 m → Met l yX5_wave wsX5_wave rm_X5_wave (va_Pc [.ref a0, .int x1] (fun U => zW G m U)) (va_Ql (fun r m' => Post a0 x1 m r m') (fun m' t => zW G m' t) (zdom G)) 0 0 (zdom G)
def St_X5_wave (C : zC) (G : zG) (Qc : Array Value → State → Outcome → State → Prop) : Prop := zF C G cX5_wave 2 wsX5_wave RX5 ∧ zQm C Qc (some .long) 0 0 ∧ zRm C = rm_X5_wave
def Pt_X5_wave_0 (C : zC) (G : zG) (a0 : Nat) (x1 : Int32) (m : zM) : Prop := zX C 2 0 0 0 [(0, .ref a0), (1, .int x1)] [] (zPic G m)
set_option maxRecDepth 100000 in
theorem con_X5_wave {l : Launch} {G : zG} (hL : zLay G) {Pre : Nat → Int32 → zM → Prop} {Post : Nat → Int32 → zM → Int64 → zM → Prop} (h : ∀ (C : zC) (Qc : Array Value → State → Outcome → State → Prop), St_X5_wave C G Qc → zl C = l → ∀ (a0 : Nat) (x1 : Int32) (m : zM), zK G a0 = some (5, a0) → Pre a0 x1 m → (∀ (r : Int64) (m' : zM), Post a0 x1 m r m' → zRet C G Qc (some (.long r)) m') → Pt_X5_wave_0 C G a0 x1 m) : Con_X5_wave l G Pre Post := by
  intro a0 x1 m ka0 hpre
  refine zMetD hL (by decide +kernel) rfl (Nat.le_of_ble_eq_true rfl) (fun C hF hQ hA hR hl hnm => ?_)
  exact h C _ ⟨hF, hQ, hR⟩ hl a0 x1 m ka0 hpre (fun r m' hp => zRet_to hF (fun t hw hf => ⟨⟨r, m', rfl, hp, hw⟩, hf.1, by rw [← hA]; exact hf.2⟩))
abbrev rm_X0_inState : Room := { frames := 0, cells := 0, slots := 0, locals := 0 }
def Con_X0_inState (l : Launch) (G : zG) (Pre : Nat → Int32 → zM → Prop) (Post : Nat → Int32 → zM → Int32 → Prop) : Prop := ∀ (a0 : Nat) (x1 : Int32) (m : zM), zK G a0 = some (0, a0) → Pre a0 x1 m → Met l yX0_inState wsX0_inState rm_X0_inState (va_Pc [.ref a0, .int x1] (fun U => zW G m U)) (va_Qi (fun r m' => m' = m ∧ Post a0 x1 m r) (fun m' t => zW G m' t) (zdom G)) 0 0 (zdom G)
def St_X0_inState (C : zC) (G : zG) (Qc : Array Value → State → Outcome → State → Prop) : Prop := zF C G cX0_inState 7 wsX0_inState RX0 ∧ zQm C Qc (some .int) 0 0 ∧ zRm C = rm_X0_inState
def Pt_X0_inState_0 (C : zC) (G : zG) (a0 : Nat) (x1 : Int32) (m : zM) : Prop := zX C 7 0 0 0 [(0, .ref a0), (1, .int x1)] [] (zPic G m)
def Pt_X0_inState_14 (C : zC) (G : zG) (x1 x2 x5 : Int32) (a0 : Nat) (m : zM) : Prop := zX C 7 0 0 14 [(1, .int x1), (2, .int x2), (3, .ref (a0 + 10)), (4, .int 16), (5, .int x5)] [] (zPic G m)
set_option maxRecDepth 100000 in
theorem con_X0_inState {l : Launch} {G : zG} (hL : zLay G) {Pre : Nat → Int32 → zM → Prop} {Post : Nat → Int32 → zM → Int32 → Prop} (h : ∀ (C : zC) (Qc : Array Value → State → Outcome → State → Prop), St_X0_inState C G Qc → zl C = l → ∀ (a0 : Nat) (x1 : Int32) (m : zM), zK G a0 = some (0, a0) → Pre a0 x1 m → (∀ (r : Int32), Post a0 x1 m r → zRet C G Qc (some (.int r)) m) → Pt_X0_inState_0 C G a0 x1 m) : Con_X0_inState l G Pre Post := by
  intro a0 x1 m ka0 hpre
  refine zMetD hL (by decide +kernel) rfl (Nat.le_of_ble_eq_true rfl) (fun C hF hQ hA hR hl hnm => ?_)
  exact h C _ ⟨hF, hQ, hR⟩ hl a0 x1 m ka0 hpre (fun r hp => zRet_to hF (fun t hw hf => ⟨⟨r, m, rfl, ⟨rfl, hp⟩, hw⟩, hf.1, by rw [← hA]; exact hf.2⟩))
abbrev rm_X0_restOf : Room := { frames := 0, cells := 0, slots := 0, locals := 0 }
def Con_X0_restOf (l : Launch) (G : zG) (Pre : Nat → Int32 → Int64 → zM → Prop) (Post : Nat → Int32 → Int64 → zM → Int64 → Prop) : Prop := ∀ (a0 : Nat) (x1 : Int32) (l2 : Int64) (m : zM), zK G a0 = some (0, a0) → Pre a0 x1 l2 m → Met l yX0_restOf wsX0_restOf rm_X0_restOf (va_Pc [.ref a0, .int x1, .long l2] (fun U => zW G m U)) (va_Ql (fun r m' => m' = m ∧ Post a0 x1 l2 m r) (fun m' t => zW G m' t) (zdom G)) 0 0 (zdom G)
def St_X0_restOf (C : zC) (G : zG) (Qc : Array Value → State → Outcome → State → Prop) : Prop := zF C G cX0_restOf 4 wsX0_restOf RX0 ∧ zQm C Qc (some .long) 0 0 ∧ zRm C = rm_X0_restOf
def Pt_X0_restOf_0 (C : zC) (G : zG) (a0 : Nat) (x1 : Int32) (l2 : Int64) (m : zM) : Prop := zX C 4 0 0 0 [(0, .ref a0), (1, .int x1), (2, .long l2)] [] (zPic G m)
set_option maxRecDepth 100000 in
theorem con_X0_restOf {l : Launch} {G : zG} (hL : zLay G) {Pre : Nat → Int32 → Int64 → zM → Prop} {Post : Nat → Int32 → Int64 → zM → Int64 → Prop} (h : ∀ (C : zC) (Qc : Array Value → State → Outcome → State → Prop), St_X0_restOf C G Qc → zl C = l → ∀ (a0 : Nat) (x1 : Int32) (l2 : Int64) (m : zM), zK G a0 = some (0, a0) → Pre a0 x1 l2 m → (∀ (r : Int64), Post a0 x1 l2 m r → zRet C G Qc (some (.long r)) m) → Pt_X0_restOf_0 C G a0 x1 l2 m) : Con_X0_restOf l G Pre Post := by
  intro a0 x1 l2 m ka0 hpre
  refine zMetD hL (by decide +kernel) rfl (Nat.le_of_ble_eq_true rfl) (fun C hF hQ hA hR hl hnm => ?_)
  exact h C _ ⟨hF, hQ, hR⟩ hl a0 x1 l2 m ka0 hpre (fun r hp => zRet_to hF (fun t hw hf => ⟨⟨r, m, rfl, ⟨rfl, hp⟩, hw⟩, hf.1, by rw [← hA]; exact hf.2⟩))
abbrev rm_X0_greatestRest : Room := { frames := 1, cells := 0, slots := 0, locals := 23 }
def Con_X0_greatestRest (l : Launch) (G : zG) (Pre : Nat → Int64 → Int32 → zM → Prop) (Post : Nat → Int64 → Int32 → zM → Int32 → Prop) : Prop := ∀ (a0 : Nat) (l1 : Int64) (x3 : Int32) (m : zM), zK G a0 = some (0, a0) → Pre a0 l1 x3 m → Met l yX0_greatestRest wsX0_greatestRest rm_X0_greatestRest (va_Pc [.ref a0, .long l1, .int x3] (fun U => zW G m U)) (va_Qi (fun r m' => m' = m ∧ Post a0 l1 x3 m r) (fun m' t => zW G m' t) (zdom G)) 0 0 (zdom G)
def St_X0_greatestRest (C : zC) (G : zG) (Qc : Array Value → State → Outcome → State → Prop) : Prop := zF C G cX0_greatestRest 11 wsX0_greatestRest RX0 ∧ zQm C Qc (some .int) 0 0 ∧ zRm C = rm_X0_greatestRest
def Pt_X0_greatestRest_0 (C : zC) (G : zG) (a0 : Nat) (l1 : Int64) (x3 : Int32) (m : zM) : Prop := zX C 11 0 0 0 [(0, .ref a0), (1, .long l1), (3, .int x3)] [] (zPic G m)
def Pt_X0_greatestRest_11 (C : zC) (G : zG) (a0 : Nat) (l1 : Int64) (x3 x4 : Int32) (l5 : Int64) (x7 : Int32) (m : zM) : Prop := zX C 11 0 0 11 [(0, .ref a0), (1, .long l1), (3, .int x3), (4, .int x4), (5, .long l5), (7, .int x7)] [] (zPic G m)
set_option maxRecDepth 100000 in
theorem con_X0_greatestRest {l : Launch} {G : zG} (hL : zLay G) {Pre : Nat → Int64 → Int32 → zM → Prop} {Post : Nat → Int64 → Int32 → zM → Int32 → Prop} (h : ∀ (C : zC) (Qc : Array Value → State → Outcome → State → Prop), St_X0_greatestRest C G Qc → zl C = l → ∀ (a0 : Nat) (l1 : Int64) (x3 : Int32) (m : zM), zK G a0 = some (0, a0) → Pre a0 l1 x3 m → (∀ (r : Int32), Post a0 l1 x3 m r → zRet C G Qc (some (.int r)) m) → Pt_X0_greatestRest_0 C G a0 l1 x3 m) : Con_X0_greatestRest l G Pre Post := by
  intro a0 l1 x3 m ka0 hpre
  refine zMetD hL (by decide +kernel) rfl (Nat.le_of_ble_eq_true rfl) (fun C hF hQ hA hR hl hnm => ?_)
  exact h C _ ⟨hF, hQ, hR⟩ hl a0 l1 x3 m ka0 hpre (fun r hp => zRet_to hF (fun t hw hf => ⟨⟨r, m, rfl, ⟨rfl, hp⟩, hw⟩, hf.1, by rw [← hA]; exact hf.2⟩))
abbrev rm_X0_payRests : Room := { frames := 3, cells := 0, slots := 0, locals := 75 }
def Con_X0_payRests (l : Launch) (G : zG) (Pre : Nat → Int64 → zM → Prop) (Post : Nat → Int64 → zM → zM → Prop) : Prop := ∀ (a0 : Nat) (l1 : Int64) (m : zM), zK G a0 = some (0, a0) → Pre a0 l1 m → Met l yX0_payRests wsX0_payRests rm_X0_payRests (va_Pc [.ref a0, .long l1] (fun U => zW G m U)) (va_Qv (fun m' => Post a0 l1 m m') (fun m' t => zW G m' t) (zdom G)) 0 0 (zdom G)
def St_X0_payRests (C : zC) (G : zG) (Qc : Array Value → State → Outcome → State → Prop) : Prop := zF C G cX0_payRests 8 wsX0_payRests RX0 ∧ zQm C Qc none 0 0 ∧ zRm C = rm_X0_payRests
def Pt_X0_payRests_0 (C : zC) (G : zG) (a0 : Nat) (l1 : Int64) (m : zM) : Prop := zX C 8 0 0 0 [(0, .ref a0), (1, .long l1)] [] (zPic G m)
def Pt_X0_payRests_16 (C : zC) (G : zG) (a0 : Nat) (l1 l3 : Int64) (x5 x6 : Int32) (m : zM) : Prop := zX C 8 0 0 16 [(0, .ref a0), (1, .long l1), (3, .long l3), (5, .int x5), (6, .int x6)] [] (zPic G m)
set_option maxRecDepth 100000 in
theorem con_X0_payRests {l : Launch} {G : zG} (hL : zLay G) {Pre : Nat → Int64 → zM → Prop} {Post : Nat → Int64 → zM → zM → Prop} (h : ∀ (C : zC) (Qc : Array Value → State → Outcome → State → Prop), St_X0_payRests C G Qc → zl C = l → ∀ (a0 : Nat) (l1 : Int64) (m : zM), zK G a0 = some (0, a0) → Pre a0 l1 m → (∀ (m' : zM), Post a0 l1 m m' → zRet C G Qc none m') → Pt_X0_payRests_0 C G a0 l1 m) : Con_X0_payRests l G Pre Post := by
  intro a0 l1 m ka0 hpre
  refine zMetD hL (by decide +kernel) rfl (Nat.le_of_ble_eq_true rfl) (fun C hF hQ hA hR hl hnm => ?_)
  exact h C _ ⟨hF, hQ, hR⟩ hl a0 l1 m ka0 hpre (fun m' hp => zRet_to hF (fun t hw hf => ⟨⟨m', rfl, hp, hw⟩, hf.1, by rw [← hA]; exact hf.2⟩))
abbrev rm_X0_payAll : Room := { frames := 4, cells := 0, slots := 0, locals := 102 }
def Con_X0_payAll (l : Launch) (G : zG) (Pre : Nat → zM → Prop) (Post : Nat → zM → Int64 → zM → Prop) : Prop := ∀ (a0 : Nat) (m : zM), zK G a0 = some (0, a0) → Pre a0 m → Met l yX0_payAll wsX0_payAll rm_X0_payAll (va_Pc [.ref a0] (fun U => zW G m U)) (va_Ql (fun r m' => Post a0 m r m') (fun m' t => zW G m' t) (zdom G)) 0 0 (zdom G)
def St_X0_payAll (C : zC) (G : zG) (Qc : Array Value → State → Outcome → State → Prop) : Prop := zF C G cX0_payAll 9 wsX0_payAll RX0 ∧ zQm C Qc (some .long) 0 0 ∧ zRm C = rm_X0_payAll
def Pt_X0_payAll_0 (C : zC) (G : zG) (a0 : Nat) (m : zM) : Prop := zX C 9 0 0 0 [(0, .ref a0)] [] (zPic G m)
def Pt_X0_payAll_34 (C : zC) (G : zG) (a0 : Nat) (l1 l3 : Int64) (x7 : Int32) (m : zM) : Prop := zX C 9 0 0 34 [(0, .ref a0), (1, .long l1), (3, .long l3), (5, .ref (a0 + 10)), (6, .int 16), (7, .int x7)] [] (zPic G m)
set_option maxRecDepth 100000 in
theorem con_X0_payAll {l : Launch} {G : zG} (hL : zLay G) {Pre : Nat → zM → Prop} {Post : Nat → zM → Int64 → zM → Prop} (h : ∀ (C : zC) (Qc : Array Value → State → Outcome → State → Prop), St_X0_payAll C G Qc → zl C = l → ∀ (a0 : Nat) (m : zM), zK G a0 = some (0, a0) → Pre a0 m → (∀ (r : Int64) (m' : zM), Post a0 m r m' → zRet C G Qc (some (.long r)) m') → Pt_X0_payAll_0 C G a0 m) : Con_X0_payAll l G Pre Post := by
  intro a0 m ka0 hpre
  refine zMetD hL (by decide +kernel) rfl (Nat.le_of_ble_eq_true rfl) (fun C hF hQ hA hR hl hnm => ?_)
  exact h C _ ⟨hF, hQ, hR⟩ hl a0 m ka0 hpre (fun r m' hp => zRet_to hF (fun t hw hf => ⟨⟨r, m', rfl, hp, hw⟩, hf.1, by rw [← hA]; exact hf.2⟩))
abbrev rm_X5_finish : Room := { frames := 5, cells := 0, slots := 0, locals := 130 }
def Con_X5_finish (l : Launch) (G : zG) (Pre : Nat → zM → Prop) (Post : Nat → zM → Int64 → zM → Prop) : Prop := ∀ (a0 : Nat) (m : zM), zK G a0 = some (5, a0) → Pre a0 m → Met l yX5_finish wsX5_finish rm_X5_finish (va_Pc [.ref a0] (fun U => zW G m U)) (va_Ql (fun r m' => Post a0 m r m') (fun m' t => zW G m' t) (zdom G)) 0 0 (zdom G)
def St_X5_finish (C : zC) (G : zG) (Qc : Array Value → State → Outcome → State → Prop) : Prop := zF C G cX5_finish 1 wsX5_finish RX5 ∧ zQm C Qc (some .long) 0 0 ∧ zRm C = rm_X5_finish
def Pt_X5_finish_0 (C : zC) (G : zG) (a0 : Nat) (m : zM) : Prop := zX C 1 0 0 0 [(0, .ref a0)] [] (zPic G m)
set_option maxRecDepth 100000 in
theorem con_X5_finish {l : Launch} {G : zG} (hL : zLay G) {Pre : Nat → zM → Prop} {Post : Nat → zM → Int64 → zM → Prop} (h : ∀ (C : zC) (Qc : Array Value → State → Outcome → State → Prop), St_X5_finish C G Qc → zl C = l → ∀ (a0 : Nat) (m : zM), zK G a0 = some (5, a0) → Pre a0 m → (∀ (r : Int64) (m' : zM), Post a0 m r m' → zRet C G Qc (some (.long r)) m') → Pt_X5_finish_0 C G a0 m) : Con_X5_finish l G Pre Post := by
  intro a0 m ka0 hpre
  refine zMetD hL (by decide +kernel) rfl (Nat.le_of_ble_eq_true rfl) (fun C hF hQ hA hR hl hnm => ?_)
  exact h C _ ⟨hF, hQ, hR⟩ hl a0 m ka0 hpre (fun r m' hp => zRet_to hF (fun t hw hf => ⟨⟨r, m', rfl, hp, hw⟩, hf.1, by rw [← hA]; exact hf.2⟩))
abbrev rm_X0_leastInAll : Room := { frames := 0, cells := 0, slots := 0, locals := 0 }
def Con_X0_leastInAll (l : Launch) (G : zG) (Pre : Nat → zM → Prop) (Post : Nat → zM → Int64 → Prop) : Prop := ∀ (a0 : Nat) (m : zM), zK G a0 = some (0, a0) → Pre a0 m → Met l yX0_leastInAll wsX0_leastInAll rm_X0_leastInAll (va_Pc [.ref a0] (fun U => zW G m U)) (va_Ql (fun r m' => m' = m ∧ Post a0 m r) (fun m' t => zW G m' t) (zdom G)) 0 0 (zdom G)
def St_X0_leastInAll (C : zC) (G : zG) (Qc : Array Value → State → Outcome → State → Prop) : Prop := zF C G cX0_leastInAll 7 wsX0_leastInAll RX0 ∧ zQm C Qc (some .long) 0 0 ∧ zRm C = rm_X0_leastInAll
def Pt_X0_leastInAll_0 (C : zC) (G : zG) (a0 : Nat) (m : zM) : Prop := zX C 7 0 0 0 [(0, .ref a0)] [] (zPic G m)
def Pt_X0_leastInAll_14 (C : zC) (G : zG) (l1 : Int64) (x5 : Int32) (a0 : Nat) (m : zM) : Prop := zX C 7 0 0 14 [(1, .long l1), (3, .ref (a0 + 10)), (4, .int 16), (5, .int x5)] [] (zPic G m)
set_option maxRecDepth 100000 in
theorem con_X0_leastInAll {l : Launch} {G : zG} (hL : zLay G) {Pre : Nat → zM → Prop} {Post : Nat → zM → Int64 → Prop} (h : ∀ (C : zC) (Qc : Array Value → State → Outcome → State → Prop), St_X0_leastInAll C G Qc → zl C = l → ∀ (a0 : Nat) (m : zM), zK G a0 = some (0, a0) → Pre a0 m → (∀ (r : Int64), Post a0 m r → zRet C G Qc (some (.long r)) m) → Pt_X0_leastInAll_0 C G a0 m) : Con_X0_leastInAll l G Pre Post := by
  intro a0 m ka0 hpre
  refine zMetD hL (by decide +kernel) rfl (Nat.le_of_ble_eq_true rfl) (fun C hF hQ hA hR hl hnm => ?_)
  exact h C _ ⟨hF, hQ, hR⟩ hl a0 m ka0 hpre (fun r hp => zRet_to hF (fun t hw hf => ⟨⟨r, m, rfl, ⟨rfl, hp⟩, hw⟩, hf.1, by rw [← hA]; exact hf.2⟩))
abbrev rm_X5_sum : Room := { frames := 1, cells := 0, slots := 0, locals := 26 }
def Con_X5_sum (l : Launch) (G : zG) (Pre : Nat → Int32 → zM → Prop) (Post : Nat → Int32 → zM → Int64 → Prop) : Prop := ∀ (a0 : Nat) (x1 : Int32) (m : zM), zK G a0 = some (5, a0) → Pre a0 x1 m → Met l yX5_sum wsX5_sum rm_X5_sum (va_Pc [.ref a0, .int x1] (fun U => zW G m U)) (va_Ql (fun r m' => m' = m ∧ Post a0 x1 m r) (fun m' t => zW G m' t) (zdom G)) 0 0 (zdom G)
def St_X5_sum (C : zC) (G : zG) (Qc : Array Value → State → Outcome → State → Prop) : Prop := zF C G cX5_sum 2 wsX5_sum RX5 ∧ zQm C Qc (some .long) 0 0 ∧ zRm C = rm_X5_sum
def Pt_X5_sum_0 (C : zC) (G : zG) (a0 : Nat) (x1 : Int32) (m : zM) : Prop := zX C 2 0 0 0 [(0, .ref a0), (1, .int x1)] [] (zPic G m)
set_option maxRecDepth 100000 in
theorem con_X5_sum {l : Launch} {G : zG} (hL : zLay G) {Pre : Nat → Int32 → zM → Prop} {Post : Nat → Int32 → zM → Int64 → Prop} (h : ∀ (C : zC) (Qc : Array Value → State → Outcome → State → Prop), St_X5_sum C G Qc → zl C = l → ∀ (a0 : Nat) (x1 : Int32) (m : zM), zK G a0 = some (5, a0) → Pre a0 x1 m → (∀ (r : Int64), Post a0 x1 m r → zRet C G Qc (some (.long r)) m) → Pt_X5_sum_0 C G a0 x1 m) : Con_X5_sum l G Pre Post := by
  intro a0 x1 m ka0 hpre
  refine zMetD hL (by decide +kernel) rfl (Nat.le_of_ble_eq_true rfl) (fun C hF hQ hA hR hl hnm => ?_)
  exact h C _ ⟨hF, hQ, hR⟩ hl a0 x1 m ka0 hpre (fun r hp => zRet_to hF (fun t hw hf => ⟨⟨r, m, rfl, ⟨rfl, hp⟩, hw⟩, hf.1, by rw [← hA]; exact hf.2⟩))
abbrev rm_X5_count : Room := { frames := 1, cells := 0, slots := 0, locals := 26 }
def Con_X5_count (l : Launch) (G : zG) (Pre : Nat → Int32 → zM → Prop) (Post : Nat → Int32 → zM → Int32 → Prop) : Prop := ∀ (a0 : Nat) (x1 : Int32) (m : zM), zK G a0 = some (5, a0) → Pre a0 x1 m → Met l yX5_count wsX5_count rm_X5_count (va_Pc [.ref a0, .int x1] (fun U => zW G m U)) (va_Qi (fun r m' => m' = m ∧ Post a0 x1 m r) (fun m' t => zW G m' t) (zdom G)) 0 0 (zdom G)
def St_X5_count (C : zC) (G : zG) (Qc : Array Value → State → Outcome → State → Prop) : Prop := zF C G cX5_count 2 wsX5_count RX5 ∧ zQm C Qc (some .int) 0 0 ∧ zRm C = rm_X5_count
def Pt_X5_count_0 (C : zC) (G : zG) (a0 : Nat) (x1 : Int32) (m : zM) : Prop := zX C 2 0 0 0 [(0, .ref a0), (1, .int x1)] [] (zPic G m)
set_option maxRecDepth 100000 in
theorem con_X5_count {l : Launch} {G : zG} (hL : zLay G) {Pre : Nat → Int32 → zM → Prop} {Post : Nat → Int32 → zM → Int32 → Prop} (h : ∀ (C : zC) (Qc : Array Value → State → Outcome → State → Prop), St_X5_count C G Qc → zl C = l → ∀ (a0 : Nat) (x1 : Int32) (m : zM), zK G a0 = some (5, a0) → Pre a0 x1 m → (∀ (r : Int32), Post a0 x1 m r → zRet C G Qc (some (.int r)) m) → Pt_X5_count_0 C G a0 x1 m) : Con_X5_count l G Pre Post := by
  intro a0 x1 m ka0 hpre
  refine zMetD hL (by decide +kernel) rfl (Nat.le_of_ble_eq_true rfl) (fun C hF hQ hA hR hl hnm => ?_)
  exact h C _ ⟨hF, hQ, hR⟩ hl a0 x1 m ka0 hpre (fun r hp => zRet_to hF (fun t hw hf => ⟨⟨r, m, rfl, ⟨rfl, hp⟩, hw⟩, hf.1, by rw [← hA]; exact hf.2⟩))
abbrev rm_X2_copyFrom : Room := { frames := 1, cells := 0, slots := 0, locals := 48 }
def Con_X2_copyFrom (l : Launch) (G : zG) (Pre : Nat → Nat → zM → Prop) (Post : Nat → Nat → zM → zM → Prop) : Prop := ∀ (a0 a1 : Nat) (m : zM), zK G a0 = some (2, a0) → zK G a1 = some (2, a1) → Pre a0 a1 m → Met l yX2_copyFrom wsX2_copyFrom rm_X2_copyFrom (va_Pc [.ref a0, .ref a1] (fun U => zW G m U)) (va_Qv (fun m' => Post a0 a1 m m') (fun m' t => zW G m' t) (zdom G)) 0 0 (zdom G)
def St_X2_copyFrom (C : zC) (G : zG) (Qc : Array Value → State → Outcome → State → Prop) : Prop := zF C G cX2_copyFrom 2 wsX2_copyFrom RX2 ∧ zQm C Qc none 0 0 ∧ zRm C = rm_X2_copyFrom
def Pt_X2_copyFrom_0 (C : zC) (G : zG) (a0 a1 : Nat) (m : zM) : Prop := zX C 2 0 0 0 [(0, .ref a0), (1, .ref a1)] [] (zPic G m)
set_option maxRecDepth 100000 in
theorem con_X2_copyFrom {l : Launch} {G : zG} (hL : zLay G) {Pre : Nat → Nat → zM → Prop} {Post : Nat → Nat → zM → zM → Prop} (h : ∀ (C : zC) (Qc : Array Value → State → Outcome → State → Prop), St_X2_copyFrom C G Qc → zl C = l → ∀ (a0 a1 : Nat) (m : zM), zK G a0 = some (2, a0) → zK G a1 = some (2, a1) → Pre a0 a1 m → (∀ (m' : zM), Post a0 a1 m m' → zRet C G Qc none m') → Pt_X2_copyFrom_0 C G a0 a1 m) : Con_X2_copyFrom l G Pre Post := by
  intro a0 a1 m ka0 ka1 hpre
  refine zMetD hL (by decide +kernel) rfl (Nat.le_of_ble_eq_true rfl) (fun C hF hQ hA hR hl hnm => ?_)
  exact h C _ ⟨hF, hQ, hR⟩ hl a0 a1 m ka0 ka1 hpre (fun m' hp => zRet_to hF (fun t hw hf => ⟨⟨m', rfl, hp, hw⟩, hf.1, by rw [← hA]; exact hf.2⟩))
abbrev rm_X3_copyFrom : Room := { frames := 1, cells := 0, slots := 0, locals := 48 }
def Con_X3_copyFrom (l : Launch) (G : zG) (Pre : Nat → Nat → zM → Prop) (Post : Nat → Nat → zM → zM → Prop) : Prop := ∀ (a0 a1 : Nat) (m : zM), zK G a0 = some (3, a0) → zK G a1 = some (3, a1) → Pre a0 a1 m → Met l yX3_copyFrom wsX3_copyFrom rm_X3_copyFrom (va_Pc [.ref a0, .ref a1] (fun U => zW G m U)) (va_Qv (fun m' => Post a0 a1 m m') (fun m' t => zW G m' t) (zdom G)) 0 0 (zdom G)
def St_X3_copyFrom (C : zC) (G : zG) (Qc : Array Value → State → Outcome → State → Prop) : Prop := zF C G cX3_copyFrom 2 wsX3_copyFrom RX3 ∧ zQm C Qc none 0 0 ∧ zRm C = rm_X3_copyFrom
def Pt_X3_copyFrom_0 (C : zC) (G : zG) (a0 a1 : Nat) (m : zM) : Prop := zX C 2 0 0 0 [(0, .ref a0), (1, .ref a1)] [] (zPic G m)
set_option maxRecDepth 100000 in
theorem con_X3_copyFrom {l : Launch} {G : zG} (hL : zLay G) {Pre : Nat → Nat → zM → Prop} {Post : Nat → Nat → zM → zM → Prop} (h : ∀ (C : zC) (Qc : Array Value → State → Outcome → State → Prop), St_X3_copyFrom C G Qc → zl C = l → ∀ (a0 a1 : Nat) (m : zM), zK G a0 = some (3, a0) → zK G a1 = some (3, a1) → Pre a0 a1 m → (∀ (m' : zM), Post a0 a1 m m' → zRet C G Qc none m') → Pt_X3_copyFrom_0 C G a0 a1 m) : Con_X3_copyFrom l G Pre Post := by
  intro a0 a1 m ka0 ka1 hpre
  refine zMetD hL (by decide +kernel) rfl (Nat.le_of_ble_eq_true rfl) (fun C hF hQ hA hR hl hnm => ?_)
  exact h C _ ⟨hF, hQ, hR⟩ hl a0 a1 m ka0 ka1 hpre (fun m' hp => zRet_to hF (fun t hw hf => ⟨⟨m', rfl, hp, hw⟩, hf.1, by rw [← hA]; exact hf.2⟩))
abbrev rm_X1_copyFrom : Room := { frames := 2, cells := 0, slots := 0, locals := 69 }
def Con_X1_copyFrom (l : Launch) (G : zG) (Pre : Nat → Nat → zM → Prop) (Post : Nat → Nat → zM → zM → Prop) : Prop := ∀ (a0 a1 : Nat) (m : zM), zK G a0 = some (1, a0) → zK G a1 = some (1, a1) → Pre a0 a1 m → Met l yX1_copyFrom wsX1_copyFrom rm_X1_copyFrom (va_Pc [.ref a0, .ref a1] (fun U => zW G m U)) (va_Qv (fun m' => Post a0 a1 m m') (fun m' t => zW G m' t) (zdom G)) 0 0 (zdom G)
def St_X1_copyFrom (C : zC) (G : zG) (Qc : Array Value → State → Outcome → State → Prop) : Prop := zF C G cX1_copyFrom 2 wsX1_copyFrom RX1 ∧ zQm C Qc none 0 0 ∧ zRm C = rm_X1_copyFrom
def Pt_X1_copyFrom_0 (C : zC) (G : zG) (a0 a1 : Nat) (m : zM) : Prop := zX C 2 0 0 0 [(0, .ref a0), (1, .ref a1)] [] (zPic G m)
set_option maxRecDepth 100000 in
theorem con_X1_copyFrom {l : Launch} {G : zG} (hL : zLay G) {Pre : Nat → Nat → zM → Prop} {Post : Nat → Nat → zM → zM → Prop} (h : ∀ (C : zC) (Qc : Array Value → State → Outcome → State → Prop), St_X1_copyFrom C G Qc → zl C = l → ∀ (a0 a1 : Nat) (m : zM), zK G a0 = some (1, a0) → zK G a1 = some (1, a1) → Pre a0 a1 m → (∀ (m' : zM), Post a0 a1 m m' → zRet C G Qc none m') → Pt_X1_copyFrom_0 C G a0 a1 m) : Con_X1_copyFrom l G Pre Post := by
  intro a0 a1 m ka0 ka1 hpre
  refine zMetD hL (by decide +kernel) rfl (Nat.le_of_ble_eq_true rfl) (fun C hF hQ hA hR hl hnm => ?_)
  exact h C _ ⟨hF, hQ, hR⟩ hl a0 a1 m ka0 ka1 hpre (fun m' hp => zRet_to hF (fun t hw hf => ⟨⟨m', rfl, hp, hw⟩, hf.1, by rw [← hA]; exact hf.2⟩))
abbrev rm_X0_copyFrom : Room := { frames := 3, cells := 0, slots := 0, locals := 90 }
def Con_X0_copyFrom (l : Launch) (G : zG) (Pre : Nat → Nat → zM → Prop) (Post : Nat → Nat → zM → zM → Prop) : Prop := ∀ (a0 a1 : Nat) (m : zM), zK G a0 = some (0, a0) → zK G a1 = some (0, a1) → Pre a0 a1 m → Met l yX0_copyFrom wsX0_copyFrom rm_X0_copyFrom (va_Pc [.ref a0, .ref a1] (fun U => zW G m U)) (va_Qv (fun m' => Post a0 a1 m m') (fun m' t => zW G m' t) (zdom G)) 0 0 (zdom G)
def St_X0_copyFrom (C : zC) (G : zG) (Qc : Array Value → State → Outcome → State → Prop) : Prop := zF C G cX0_copyFrom 3 wsX0_copyFrom RX0 ∧ zQm C Qc none 0 0 ∧ zRm C = rm_X0_copyFrom
def Pt_X0_copyFrom_0 (C : zC) (G : zG) (a0 a1 : Nat) (m : zM) : Prop := zX C 3 0 0 0 [(0, .ref a0), (1, .ref a1)] [] (zPic G m)
def Pt_X0_copyFrom_61 (C : zC) (G : zG) (a0 a1 : Nat) (x2 : Int32) (m : zM) : Prop := zX C 3 0 0 61 [(0, .ref a0), (1, .ref a1), (2, .int x2)] [] (zPic G m)
set_option maxRecDepth 100000 in
theorem con_X0_copyFrom {l : Launch} {G : zG} (hL : zLay G) {Pre : Nat → Nat → zM → Prop} {Post : Nat → Nat → zM → zM → Prop} (h : ∀ (C : zC) (Qc : Array Value → State → Outcome → State → Prop), St_X0_copyFrom C G Qc → zl C = l → ∀ (a0 a1 : Nat) (m : zM), zK G a0 = some (0, a0) → zK G a1 = some (0, a1) → Pre a0 a1 m → (∀ (m' : zM), Post a0 a1 m m' → zRet C G Qc none m') → Pt_X0_copyFrom_0 C G a0 a1 m) : Con_X0_copyFrom l G Pre Post := by
  intro a0 a1 m ka0 ka1 hpre
  refine zMetD hL (by decide +kernel) rfl (Nat.le_of_ble_eq_true rfl) (fun C hF hQ hA hR hl hnm => ?_)
  exact h C _ ⟨hF, hQ, hR⟩ hl a0 a1 m ka0 ka1 hpre (fun m' hp => zRet_to hF (fun t hw hf => ⟨⟨m', rfl, hp, hw⟩, hf.1, by rw [← hA]; exact hf.2⟩))
abbrev rm_X5_again : Room := { frames := 4, cells := 0, slots := 0, locals := 112 }
def Con_X5_again (l : Launch) (G : zG) (Pre : Nat → Int32 → zM → Prop) (Post : Nat → Int32 → zM → Int32 → zM → Prop) : Prop := ∀ (a0 : Nat) (x1 : Int32) (m : zM), zK G a0 = some (5, a0) → Pre a0 x1 m → Met l yX5_again wsX5_again rm_X5_again (va_Pc [.ref a0, .int x1] (fun U => zW G m U)) (va_Qi (fun r m' => Post a0 x1 m r m') (fun m' t => zW G m' t) (zdom G)) 0 0 (zdom G)
def St_X5_again (C : zC) (G : zG) (Qc : Array Value → State → Outcome → State → Prop) : Prop := zF C G cX5_again 3 wsX5_again RX5 ∧ zQm C Qc (some .boolean) 0 0 ∧ zRm C = rm_X5_again
def Pt_X5_again_0 (C : zC) (G : zG) (a0 : Nat) (x1 : Int32) (m : zM) : Prop := zX C 3 0 0 0 [(0, .ref a0), (1, .int x1)] [] (zPic G m)
set_option maxRecDepth 100000 in
theorem con_X5_again {l : Launch} {G : zG} (hL : zLay G) {Pre : Nat → Int32 → zM → Prop} {Post : Nat → Int32 → zM → Int32 → zM → Prop} (h : ∀ (C : zC) (Qc : Array Value → State → Outcome → State → Prop), St_X5_again C G Qc → zl C = l → ∀ (a0 : Nat) (x1 : Int32) (m : zM), zK G a0 = some (5, a0) → Pre a0 x1 m → (∀ (r : Int32) (m' : zM), Post a0 x1 m r m' → zRet C G Qc (some (.int r)) m') → Pt_X5_again_0 C G a0 x1 m) : Con_X5_again l G Pre Post := by
  intro a0 x1 m ka0 hpre
  refine zMetD hL (by decide +kernel) rfl (Nat.le_of_ble_eq_true rfl) (fun C hF hQ hA hR hl hnm => ?_)
  exact h C _ ⟨hF, hQ, hR⟩ hl a0 x1 m ka0 hpre (fun r m' hp => zRet_to hF (fun t hw hf => ⟨⟨r, m', rfl, hp, hw⟩, hf.1, by rw [← hA]; exact hf.2⟩))
abbrev rm_X6_in : Room := { frames := 0, cells := 0, slots := 0, locals := 0 }
def Con_X6_in (l : Launch) (G : zG) (Pre : Int32 → Int32 → Int32 → zM → Prop) (Post : Int32 → Int32 → Int32 → zM → Int32 → Prop) : Prop := ∀ (x0 x1 x2 : Int32) (m : zM), Pre x0 x1 x2 m → Met l yX6_in wsX6_in rm_X6_in (va_Pc [.int x0, .int x1, .int x2] (fun U => zW G m U)) (va_Qi (fun r m' => m' = m ∧ Post x0 x1 x2 m r) (fun m' t => zW G m' t) (zdom G)) 0 0 (zdom G)
def St_X6_in (C : zC) (G : zG) (Qc : Array Value → State → Outcome → State → Prop) : Prop := zF C G cX6_in 3 wsX6_in RX6 ∧ zQm C Qc (some .boolean) 0 0 ∧ zRm C = rm_X6_in
def Pt_X6_in_0 (C : zC) (G : zG) (x0 x1 x2 : Int32) (m : zM) : Prop := zX C 3 0 0 0 [(0, .int x0), (1, .int x1), (2, .int x2)] [] (zPic G m)
set_option maxRecDepth 100000 in
theorem con_X6_in {l : Launch} {G : zG} (hL : zLay G) {Pre : Int32 → Int32 → Int32 → zM → Prop} {Post : Int32 → Int32 → Int32 → zM → Int32 → Prop} (h : ∀ (C : zC) (Qc : Array Value → State → Outcome → State → Prop), St_X6_in C G Qc → zl C = l → ∀ (x0 x1 x2 : Int32) (m : zM), Pre x0 x1 x2 m → (∀ (r : Int32), Post x0 x1 x2 m r → zRet C G Qc (some (.int r)) m) → Pt_X6_in_0 C G x0 x1 x2 m) : Con_X6_in l G Pre Post := by
  intro x0 x1 x2 m  hpre
  refine zMetD hL (by decide +kernel) rfl (Nat.le_of_ble_eq_true rfl) (fun C hF hQ hA hR hl hnm => ?_)
  exact h C _ ⟨hF, hQ, hR⟩ hl x0 x1 x2 m  hpre (fun r hp => zRet_to hF (fun t hw hf => ⟨⟨r, m, rfl, ⟨rfl, hp⟩, hw⟩, hf.1, by rw [← hA]; exact hf.2⟩))
abbrev rm_X6_move : Room := { frames := 0, cells := 0, slots := 0, locals := 0 }
def Con_X6_move (l : Launch) (G : zG) (Pre : Nat → Nat → Nat → Int32 → Int32 → Int32 → zM → Prop) (Post : Nat → Nat → Nat → Int32 → Int32 → Int32 → zM → zM → Prop) : Prop := ∀ (a0 c0 o0 : Nat) (x1 x2 x3 : Int32) (m : zM), zK G a0 = some (c0, o0) → ¬ c0 < 1000 → zty c0 = 1 → (∀ v, zfitv c0 v) → Pre a0 c0 o0 x1 x2 x3 m → Met l yX6_move wsX6_move rm_X6_move (va_Pc [.ref a0, .int x1, .int x2, .int x3] (fun U => zW G m U)) (va_Qv (fun m' => Post a0 c0 o0 x1 x2 x3 m m') (fun m' t => zW G m' t) (zdom G)) 0 0 (zdom G)
def St_X6_move (C : zC) (G : zG) (Qc : Array Value → State → Outcome → State → Prop) : Prop := zF C G cX6_move 5 wsX6_move RX6 ∧ zQm C Qc none 0 0 ∧ zRm C = rm_X6_move
def Pt_X6_move_0 (C : zC) (G : zG) (a0 c0 o0 : Nat) (x1 x2 x3 : Int32) (m : zM) : Prop := zX C 5 0 0 0 [(0, .ref a0), (1, .int x1), (2, .int x2), (3, .int x3)] [] (zPic G m)
def Pt_X6_move_3 (C : zC) (G : zG) (a0 : Nat) (x1 x2 x3 x4 : Int32) (o0 c0 : Nat) (m : zM) : Prop := zX C 5 0 0 3 [(0, .ref a0), (1, .int x1), (2, .int x2), (3, .int x3), (4, .int x4)] [] (zPic G m)
set_option maxRecDepth 100000 in
theorem con_X6_move {l : Launch} {G : zG} (hL : zLay G) {Pre : Nat → Nat → Nat → Int32 → Int32 → Int32 → zM → Prop} {Post : Nat → Nat → Nat → Int32 → Int32 → Int32 → zM → zM → Prop} (h : ∀ (C : zC) (Qc : Array Value → State → Outcome → State → Prop), St_X6_move C G Qc → zl C = l → ∀ (a0 c0 o0 : Nat) (x1 x2 x3 : Int32) (m : zM), zK G a0 = some (c0, o0) → ¬ c0 < 1000 → zty c0 = 1 → (∀ v, zfitv c0 v) → Pre a0 c0 o0 x1 x2 x3 m → (∀ (m' : zM), Post a0 c0 o0 x1 x2 x3 m m' → zRet C G Qc none m') → Pt_X6_move_0 C G a0 c0 o0 x1 x2 x3 m) : Con_X6_move l G Pre Post := by
  intro a0 c0 o0 x1 x2 x3 m ka0 kc0 ky0 kf0 hpre
  refine zMetD hL (by decide +kernel) rfl (Nat.le_of_ble_eq_true rfl) (fun C hF hQ hA hR hl hnm => ?_)
  exact h C _ ⟨hF, hQ, hR⟩ hl a0 c0 o0 x1 x2 x3 m ka0 kc0 ky0 kf0 hpre (fun m' hp => zRet_to hF (fun t hw hf => ⟨⟨m', rfl, hp, hw⟩, hf.1, by rw [← hA]; exact hf.2⟩))
abbrev rm_X6_moveLong : Room := { frames := 0, cells := 0, slots := 0, locals := 0 }
def Con_X6_moveLong (l : Launch) (G : zG) (Pre : Nat → Nat → Nat → Int32 → Int32 → Int32 → zM → Prop) (Post : Nat → Nat → Nat → Int32 → Int32 → Int32 → zM → zM → Prop) : Prop := ∀ (a0 c0 o0 : Nat) (x1 x2 x3 : Int32) (m : zM), zK G a0 = some (c0, o0) → ¬ c0 < 1000 → zty c0 = 2 → (∀ v, zfitv c0 v) → Pre a0 c0 o0 x1 x2 x3 m → Met l yX6_moveLong wsX6_moveLong rm_X6_moveLong (va_Pc [.ref a0, .int x1, .int x2, .int x3] (fun U => zW G m U)) (va_Qv (fun m' => Post a0 c0 o0 x1 x2 x3 m m') (fun m' t => zW G m' t) (zdom G)) 0 0 (zdom G)
def St_X6_moveLong (C : zC) (G : zG) (Qc : Array Value → State → Outcome → State → Prop) : Prop := zF C G cX6_moveLong 5 wsX6_moveLong RX6 ∧ zQm C Qc none 0 0 ∧ zRm C = rm_X6_moveLong
def Pt_X6_moveLong_0 (C : zC) (G : zG) (a0 c0 o0 : Nat) (x1 x2 x3 : Int32) (m : zM) : Prop := zX C 5 0 0 0 [(0, .ref a0), (1, .int x1), (2, .int x2), (3, .int x3)] [] (zPic G m)
def Pt_X6_moveLong_3 (C : zC) (G : zG) (a0 : Nat) (x1 x2 x3 x4 : Int32) (o0 c0 : Nat) (m : zM) : Prop := zX C 5 0 0 3 [(0, .ref a0), (1, .int x1), (2, .int x2), (3, .int x3), (4, .int x4)] [] (zPic G m)
set_option maxRecDepth 100000 in
theorem con_X6_moveLong {l : Launch} {G : zG} (hL : zLay G) {Pre : Nat → Nat → Nat → Int32 → Int32 → Int32 → zM → Prop} {Post : Nat → Nat → Nat → Int32 → Int32 → Int32 → zM → zM → Prop} (h : ∀ (C : zC) (Qc : Array Value → State → Outcome → State → Prop), St_X6_moveLong C G Qc → zl C = l → ∀ (a0 c0 o0 : Nat) (x1 x2 x3 : Int32) (m : zM), zK G a0 = some (c0, o0) → ¬ c0 < 1000 → zty c0 = 2 → (∀ v, zfitv c0 v) → Pre a0 c0 o0 x1 x2 x3 m → (∀ (m' : zM), Post a0 c0 o0 x1 x2 x3 m m' → zRet C G Qc none m') → Pt_X6_moveLong_0 C G a0 c0 o0 x1 x2 x3 m) : Con_X6_moveLong l G Pre Post := by
  intro a0 c0 o0 x1 x2 x3 m ka0 kc0 ky0 kf0 hpre
  refine zMetD hL (by decide +kernel) rfl (Nat.le_of_ble_eq_true rfl) (fun C hF hQ hA hR hl hnm => ?_)
  exact h C _ ⟨hF, hQ, hR⟩ hl a0 c0 o0 x1 x2 x3 m ka0 kc0 ky0 kf0 hpre (fun m' hp => zRet_to hF (fun t hw hf => ⟨⟨m', rfl, hp, hw⟩, hf.1, by rw [← hA]; exact hf.2⟩))
abbrev rm_X6_copyGrid : Room := { frames := 1, cells := 0, slots := 0, locals := 24 }
def Con_X6_copyGrid (l : Launch) (G : zG) (Pre : Nat → Int32 → Int32 → zM → Prop) (Post : Nat → Int32 → Int32 → zM → zM → Prop) : Prop := ∀ (a0 : Nat) (x1 x2 : Int32) (m : zM), zK G a0 = some (6, a0) → Pre a0 x1 x2 m → Met l yX6_copyGrid wsX6_copyGrid rm_X6_copyGrid (va_Pc [.ref a0, .int x1, .int x2] (fun U => zW G m U)) (va_Qv (fun m' => Post a0 x1 x2 m m') (fun m' t => zW G m' t) (zdom G)) 0 0 (zdom G)
def St_X6_copyGrid (C : zC) (G : zG) (Qc : Array Value → State → Outcome → State → Prop) : Prop := zF C G cX6_copyGrid 3 wsX6_copyGrid RX6 ∧ zQm C Qc none 0 0 ∧ zRm C = rm_X6_copyGrid
def Pt_X6_copyGrid_0 (C : zC) (G : zG) (a0 : Nat) (x1 x2 : Int32) (m : zM) : Prop := zX C 3 0 0 0 [(0, .ref a0), (1, .int x1), (2, .int x2)] [] (zPic G m)
set_option maxRecDepth 100000 in
theorem con_X6_copyGrid {l : Launch} {G : zG} (hL : zLay G) {Pre : Nat → Int32 → Int32 → zM → Prop} {Post : Nat → Int32 → Int32 → zM → zM → Prop} (h : ∀ (C : zC) (Qc : Array Value → State → Outcome → State → Prop), St_X6_copyGrid C G Qc → zl C = l → ∀ (a0 : Nat) (x1 x2 : Int32) (m : zM), zK G a0 = some (6, a0) → Pre a0 x1 x2 m → (∀ (m' : zM), Post a0 x1 x2 m m' → zRet C G Qc none m') → Pt_X6_copyGrid_0 C G a0 x1 x2 m) : Con_X6_copyGrid l G Pre Post := by
  intro a0 x1 x2 m ka0 hpre
  refine zMetD hL (by decide +kernel) rfl (Nat.le_of_ble_eq_true rfl) (fun C hF hQ hA hR hl hnm => ?_)
  exact h C _ ⟨hF, hQ, hR⟩ hl a0 x1 x2 m ka0 hpre (fun m' hp => zRet_to hF (fun t hw hf => ⟨⟨m', rfl, hp, hw⟩, hf.1, by rw [← hA]; exact hf.2⟩))
abbrev rm_X6_copy : Room := { frames := 2, cells := 0, slots := 0, locals := 46 }
def Con_X6_copy (l : Launch) (G : zG) (Pre : Nat → Int32 → Int32 → zM → Prop) (Post : Nat → Int32 → Int32 → zM → zM → Prop) : Prop := ∀ (a0 : Nat) (x1 x2 : Int32) (m : zM), zK G a0 = some (6, a0) → Pre a0 x1 x2 m → Met l yX6_copy wsX6_copy rm_X6_copy (va_Pc [.ref a0, .int x1, .int x2] (fun U => zW G m U)) (va_Qv (fun m' => Post a0 x1 x2 m m') (fun m' t => zW G m' t) (zdom G)) 0 0 (zdom G)
def St_X6_copy (C : zC) (G : zG) (Qc : Array Value → State → Outcome → State → Prop) : Prop := zF C G cX6_copy 4 wsX6_copy RX6 ∧ zQm C Qc none 0 0 ∧ zRm C = rm_X6_copy
def Pt_X6_copy_0 (C : zC) (G : zG) (a0 : Nat) (x1 x2 : Int32) (m : zM) : Prop := zX C 4 0 0 0 [(0, .ref a0), (1, .int x1), (2, .int x2)] [] (zPic G m)
def Pt_X6_copy_2 (C : zC) (G : zG) (a0 : Nat) (x1 x2 x3 : Int32) (m : zM) : Prop := zX C 4 0 0 2 [(0, .ref a0), (1, .int x1), (2, .int x2), (3, .int x3)] [] (zPic G m)
set_option maxRecDepth 100000 in
theorem con_X6_copy {l : Launch} {G : zG} (hL : zLay G) {Pre : Nat → Int32 → Int32 → zM → Prop} {Post : Nat → Int32 → Int32 → zM → zM → Prop} (h : ∀ (C : zC) (Qc : Array Value → State → Outcome → State → Prop), St_X6_copy C G Qc → zl C = l → ∀ (a0 : Nat) (x1 x2 : Int32) (m : zM), zK G a0 = some (6, a0) → Pre a0 x1 x2 m → (∀ (m' : zM), Post a0 x1 x2 m m' → zRet C G Qc none m') → Pt_X6_copy_0 C G a0 x1 x2 m) : Con_X6_copy l G Pre Post := by
  intro a0 x1 x2 m ka0 hpre
  refine zMetD hL (by decide +kernel) rfl (Nat.le_of_ble_eq_true rfl) (fun C hF hQ hA hR hl hnm => ?_)
  exact h C _ ⟨hF, hQ, hR⟩ hl a0 x1 x2 m ka0 hpre (fun m' hp => zRet_to hF (fun t hw hf => ⟨⟨m', rfl, hp, hw⟩, hf.1, by rw [← hA]; exact hf.2⟩))
abbrev rm_X6_isClaim : Room := { frames := 1, cells := 0, slots := 0, locals := 22 }
def Con_X6_isClaim (l : Launch) (G : zG) (Pre : Nat → Int32 → zM → Prop) (Post : Nat → Int32 → zM → Int32 → Prop) : Prop := ∀ (a0 : Nat) (x1 : Int32) (m : zM), zK G a0 = some (6, a0) → Pre a0 x1 m → Met l yX6_isClaim wsX6_isClaim rm_X6_isClaim (va_Pc [.ref a0, .int x1] (fun U => zW G m U)) (va_Qi (fun r m' => m' = m ∧ Post a0 x1 m r) (fun m' t => zW G m' t) (zdom G)) 0 0 (zdom G)
def St_X6_isClaim (C : zC) (G : zG) (Qc : Array Value → State → Outcome → State → Prop) : Prop := zF C G cX6_isClaim 2 wsX6_isClaim RX6 ∧ zQm C Qc (some .boolean) 0 0 ∧ zRm C = rm_X6_isClaim
def Pt_X6_isClaim_0 (C : zC) (G : zG) (a0 : Nat) (x1 : Int32) (m : zM) : Prop := zX C 2 0 0 0 [(0, .ref a0), (1, .int x1)] [] (zPic G m)
set_option maxRecDepth 100000 in
theorem con_X6_isClaim {l : Launch} {G : zG} (hL : zLay G) {Pre : Nat → Int32 → zM → Prop} {Post : Nat → Int32 → zM → Int32 → Prop} (h : ∀ (C : zC) (Qc : Array Value → State → Outcome → State → Prop), St_X6_isClaim C G Qc → zl C = l → ∀ (a0 : Nat) (x1 : Int32) (m : zM), zK G a0 = some (6, a0) → Pre a0 x1 m → (∀ (r : Int32), Post a0 x1 m r → zRet C G Qc (some (.int r)) m) → Pt_X6_isClaim_0 C G a0 x1 m) : Con_X6_isClaim l G Pre Post := by
  intro a0 x1 m ka0 hpre
  refine zMetD hL (by decide +kernel) rfl (Nat.le_of_ble_eq_true rfl) (fun C hF hQ hA hR hl hnm => ?_)
  exact h C _ ⟨hF, hQ, hR⟩ hl a0 x1 m ka0 hpre (fun r hp => zRet_to hF (fun t hw hf => ⟨⟨r, m, rfl, ⟨rfl, hp⟩, hw⟩, hf.1, by rw [← hA]; exact hf.2⟩))
abbrev rm_X6_of : Room := { frames := 0, cells := 0, slots := 0, locals := 0 }
def Con_X6_of (l : Launch) (G : zG) (Pre : Nat → Int32 → Int32 → zM → Prop) (Post : Nat → Int32 → Int32 → zM → Int32 → Prop) : Prop := ∀ (a0 : Nat) (x1 x2 : Int32) (m : zM), zK G a0 = some (6, a0) → Pre a0 x1 x2 m → Met l yX6_of wsX6_of rm_X6_of (va_Pc [.ref a0, .int x1, .int x2] (fun U => zW G m U)) (va_Qi (fun r m' => m' = m ∧ Post a0 x1 x2 m r) (fun m' t => zW G m' t) (zdom G)) 0 0 (zdom G)
def St_X6_of (C : zC) (G : zG) (Qc : Array Value → State → Outcome → State → Prop) : Prop := zF C G cX6_of 3 wsX6_of RX6 ∧ zQm C Qc (some .int) 0 0 ∧ zRm C = rm_X6_of
def Pt_X6_of_0 (C : zC) (G : zG) (a0 : Nat) (x1 x2 : Int32) (m : zM) : Prop := zX C 3 0 0 0 [(0, .ref a0), (1, .int x1), (2, .int x2)] [] (zPic G m)
set_option maxRecDepth 100000 in
theorem con_X6_of {l : Launch} {G : zG} (hL : zLay G) {Pre : Nat → Int32 → Int32 → zM → Prop} {Post : Nat → Int32 → Int32 → zM → Int32 → Prop} (h : ∀ (C : zC) (Qc : Array Value → State → Outcome → State → Prop), St_X6_of C G Qc → zl C = l → ∀ (a0 : Nat) (x1 x2 : Int32) (m : zM), zK G a0 = some (6, a0) → Pre a0 x1 x2 m → (∀ (r : Int32), Post a0 x1 x2 m r → zRet C G Qc (some (.int r)) m) → Pt_X6_of_0 C G a0 x1 x2 m) : Con_X6_of l G Pre Post := by
  intro a0 x1 x2 m ka0 hpre
  refine zMetD hL (by decide +kernel) rfl (Nat.le_of_ble_eq_true rfl) (fun C hF hQ hA hR hl hnm => ?_)
  exact h C _ ⟨hF, hQ, hR⟩ hl a0 x1 x2 m ka0 hpre (fun r hp => zRet_to hF (fun t hw hf => ⟨⟨r, m, rfl, ⟨rfl, hp⟩, hw⟩, hf.1, by rw [← hA]; exact hf.2⟩))
abbrev rm_X6_is : Room := { frames := 2, cells := 0, slots := 0, locals := 43 }
def Con_X6_is (l : Launch) (G : zG) (Pre : Nat → Int32 → Int32 → zM → Prop) (Post : Nat → Int32 → Int32 → zM → Int32 → Prop) : Prop := ∀ (a0 : Nat) (x1 x2 : Int32) (m : zM), zK G a0 = some (6, a0) → Pre a0 x1 x2 m → Met l yX6_is wsX6_is rm_X6_is (va_Pc [.ref a0, .int x1, .int x2] (fun U => zW G m U)) (va_Qi (fun r m' => m' = m ∧ Post a0 x1 x2 m r) (fun m' t => zW G m' t) (zdom G)) 0 0 (zdom G)
def St_X6_is (C : zC) (G : zG) (Qc : Array Value → State → Outcome → State → Prop) : Prop := zF C G cX6_is 3 wsX6_is RX6 ∧ zQm C Qc (some .boolean) 0 0 ∧ zRm C = rm_X6_is
def Pt_X6_is_0 (C : zC) (G : zG) (a0 : Nat) (x1 x2 : Int32) (m : zM) : Prop := zX C 3 0 0 0 [(0, .ref a0), (1, .int x1), (2, .int x2)] [] (zPic G m)
set_option maxRecDepth 100000 in
theorem con_X6_is {l : Launch} {G : zG} (hL : zLay G) {Pre : Nat → Int32 → Int32 → zM → Prop} {Post : Nat → Int32 → Int32 → zM → Int32 → Prop} (h : ∀ (C : zC) (Qc : Array Value → State → Outcome → State → Prop), St_X6_is C G Qc → zl C = l → ∀ (a0 : Nat) (x1 x2 : Int32) (m : zM), zK G a0 = some (6, a0) → Pre a0 x1 x2 m → (∀ (r : Int32), Post a0 x1 x2 m r → zRet C G Qc (some (.int r)) m) → Pt_X6_is_0 C G a0 x1 x2 m) : Con_X6_is l G Pre Post := by
  intro a0 x1 x2 m ka0 hpre
  refine zMetD hL (by decide +kernel) rfl (Nat.le_of_ble_eq_true rfl) (fun C hF hQ hA hR hl hnm => ?_)
  exact h C _ ⟨hF, hQ, hR⟩ hl a0 x1 x2 m ka0 hpre (fun r hp => zRet_to hF (fun t hw hf => ⟨⟨r, m, rfl, ⟨rfl, hp⟩, hw⟩, hf.1, by rw [← hA]; exact hf.2⟩))
abbrev rm_X6_paidAll : Room := { frames := 0, cells := 0, slots := 0, locals := 0 }
def Con_X6_paidAll (l : Launch) (G : zG) (Pre : Nat → zM → Prop) (Post : Nat → zM → Int64 → Prop) : Prop := ∀ (a0 : Nat) (m : zM), zK G a0 = some (6, a0) → Pre a0 m → Met l yX6_paidAll wsX6_paidAll rm_X6_paidAll (va_Pc [.ref a0] (fun U => zW G m U)) (va_Ql (fun r m' => m' = m ∧ Post a0 m r) (fun m' t => zW G m' t) (zdom G)) 0 0 (zdom G)
def St_X6_paidAll (C : zC) (G : zG) (Qc : Array Value → State → Outcome → State → Prop) : Prop := zF C G cX6_paidAll 4 wsX6_paidAll RX6 ∧ zQm C Qc (some .long) 0 0 ∧ zRm C = rm_X6_paidAll
def Pt_X6_paidAll_0 (C : zC) (G : zG) (a0 : Nat) (m : zM) : Prop := zX C 4 0 0 0 [(0, .ref a0)] [] (zPic G m)
def Pt_X6_paidAll_4 (C : zC) (G : zG) (a0 : Nat) (l1 : Int64) (x3 : Int32) (m : zM) : Prop := zX C 4 0 0 4 [(0, .ref a0), (1, .long l1), (3, .int x3)] [] (zPic G m)
set_option maxRecDepth 100000 in
theorem con_X6_paidAll {l : Launch} {G : zG} (hL : zLay G) {Pre : Nat → zM → Prop} {Post : Nat → zM → Int64 → Prop} (h : ∀ (C : zC) (Qc : Array Value → State → Outcome → State → Prop), St_X6_paidAll C G Qc → zl C = l → ∀ (a0 : Nat) (m : zM), zK G a0 = some (6, a0) → Pre a0 m → (∀ (r : Int64), Post a0 m r → zRet C G Qc (some (.long r)) m) → Pt_X6_paidAll_0 C G a0 m) : Con_X6_paidAll l G Pre Post := by
  intro a0 m ka0 hpre
  refine zMetD hL (by decide +kernel) rfl (Nat.le_of_ble_eq_true rfl) (fun C hF hQ hA hR hl hnm => ?_)
  exact h C _ ⟨hF, hQ, hR⟩ hl a0 m ka0 hpre (fun r hp => zRet_to hF (fun t hw hf => ⟨⟨r, m, rfl, ⟨rfl, hp⟩, hw⟩, hf.1, by rw [← hA]; exact hf.2⟩))
abbrev rm_X6_fund : Room := { frames := 1, cells := 0, slots := 0, locals := 23 }
def Con_X6_fund (l : Launch) (G : zG) (Pre : Nat → Int64 → zM → Prop) (Post : Nat → Int64 → zM → Int32 → zM → Prop) : Prop := ∀ (a0 : Nat) (l1 : Int64) (m : zM), zK G a0 = some (6, a0) → Pre a0 l1 m → Met l yX6_fund wsX6_fund rm_X6_fund (va_Pc [.ref a0, .long l1] (fun U => zW G m U)) (va_Qi (fun r m' => Post a0 l1 m r m') (fun m' t => zW G m' t) (zdom G)) 0 0 (zdom G)
def St_X6_fund (C : zC) (G : zG) (Qc : Array Value → State → Outcome → State → Prop) : Prop := zF C G cX6_fund 3 wsX6_fund RX6 ∧ zQm C Qc (some .boolean) 0 0 ∧ zRm C = rm_X6_fund
def Pt_X6_fund_0 (C : zC) (G : zG) (a0 : Nat) (l1 : Int64) (m : zM) : Prop := zX C 3 0 0 0 [(0, .ref a0), (1, .long l1)] [] (zPic G m)
set_option maxRecDepth 100000 in
theorem con_X6_fund {l : Launch} {G : zG} (hL : zLay G) {Pre : Nat → Int64 → zM → Prop} {Post : Nat → Int64 → zM → Int32 → zM → Prop} (h : ∀ (C : zC) (Qc : Array Value → State → Outcome → State → Prop), St_X6_fund C G Qc → zl C = l → ∀ (a0 : Nat) (l1 : Int64) (m : zM), zK G a0 = some (6, a0) → Pre a0 l1 m → (∀ (r : Int32) (m' : zM), Post a0 l1 m r m' → zRet C G Qc (some (.int r)) m') → Pt_X6_fund_0 C G a0 l1 m) : Con_X6_fund l G Pre Post := by
  intro a0 l1 m ka0 hpre
  refine zMetD hL (by decide +kernel) rfl (Nat.le_of_ble_eq_true rfl) (fun C hF hQ hA hR hl hnm => ?_)
  exact h C _ ⟨hF, hQ, hR⟩ hl a0 l1 m ka0 hpre (fun r m' hp => zRet_to hF (fun t hw hf => ⟨⟨r, m', rfl, hp, hw⟩, hf.1, by rw [← hA]; exact hf.2⟩))
abbrev rm_X6_four : Room := { frames := 0, cells := 0, slots := 0, locals := 0 }
def Con_X6_four (l : Launch) (G : zG) (Pre : Nat → Int32 → zM → Prop) (Post : Nat → Int32 → zM → zM → Prop) : Prop := ∀ (a0 : Nat) (x1 : Int32) (m : zM), zK G a0 = some (6, a0) → Pre a0 x1 m → Met l yX6_four wsX6_four rm_X6_four (va_Pc [.ref a0, .int x1] (fun U => zW G m U)) (va_Qv (fun m' => Post a0 x1 m m') (fun m' t => zW G m' t) (zdom G)) 0 0 (zdom G)
def St_X6_four (C : zC) (G : zG) (Qc : Array Value → State → Outcome → State → Prop) : Prop := zF C G cX6_four 3 wsX6_four RX6 ∧ zQm C Qc none 0 0 ∧ zRm C = rm_X6_four
def Pt_X6_four_0 (C : zC) (G : zG) (a0 : Nat) (x1 : Int32) (m : zM) : Prop := zX C 3 0 0 0 [(0, .ref a0), (1, .int x1)] [] (zPic G m)
def Pt_X6_four_3 (C : zC) (G : zG) (a0 : Nat) (x1 x2 : Int32) (m : zM) : Prop := zX C 3 0 0 3 [(0, .ref a0), (1, .int x1), (2, .int x2)] [] (zPic G m)
set_option maxRecDepth 100000 in
theorem con_X6_four {l : Launch} {G : zG} (hL : zLay G) {Pre : Nat → Int32 → zM → Prop} {Post : Nat → Int32 → zM → zM → Prop} (h : ∀ (C : zC) (Qc : Array Value → State → Outcome → State → Prop), St_X6_four C G Qc → zl C = l → ∀ (a0 : Nat) (x1 : Int32) (m : zM), zK G a0 = some (6, a0) → Pre a0 x1 m → (∀ (m' : zM), Post a0 x1 m m' → zRet C G Qc none m') → Pt_X6_four_0 C G a0 x1 m) : Con_X6_four l G Pre Post := by
  intro a0 x1 m ka0 hpre
  refine zMetD hL (by decide +kernel) rfl (Nat.le_of_ble_eq_true rfl) (fun C hF hQ hA hR hl hnm => ?_)
  exact h C _ ⟨hF, hQ, hR⟩ hl a0 x1 m ka0 hpre (fun m' hp => zRet_to hF (fun t hw hf => ⟨⟨m', rfl, hp, hw⟩, hf.1, by rw [← hA]; exact hf.2⟩))
abbrev rm_X6_feed : Room := { frames := 1, cells := 0, slots := 0, locals := 22 }
def Con_X6_feed (l : Launch) (G : zG) (Pre : Nat → Int32 → Int32 → Int32 → Int32 → Int32 → zM → Prop) (Post : Nat → Int32 → Int32 → Int32 → Int32 → Int32 → zM → Int32 → zM → Prop) : Prop := ∀ (a0 : Nat) (x1 x2 x3 x4 x5 : Int32) (m : zM), zK G a0 = some (6, a0) → Pre a0 x1 x2 x3 x4 x5 m → Met l yX6_feed wsX6_feed rm_X6_feed (va_Pc [.ref a0, .int x1, .int x2, .int x3, .int x4, .int x5] (fun U => zW G m U)) (va_Qi (fun r m' => Post a0 x1 x2 x3 x4 x5 m r m') (fun m' t => zW G m' t) (zdom G)) 0 0 (zdom G)
def St_X6_feed (C : zC) (G : zG) (Qc : Array Value → State → Outcome → State → Prop) : Prop := zF C G cX6_feed 6 wsX6_feed RX6 ∧ zQm C Qc (some .int) 0 0 ∧ zRm C = rm_X6_feed
def Pt_X6_feed_0 (C : zC) (G : zG) (a0 : Nat) (x1 x2 x3 x4 x5 : Int32) (m : zM) : Prop := zX C 6 0 0 0 [(0, .ref a0), (1, .int x1), (2, .int x2), (3, .int x3), (4, .int x4), (5, .int x5)] [] (zPic G m)
set_option maxRecDepth 100000 in
theorem con_X6_feed {l : Launch} {G : zG} (hL : zLay G) {Pre : Nat → Int32 → Int32 → Int32 → Int32 → Int32 → zM → Prop} {Post : Nat → Int32 → Int32 → Int32 → Int32 → Int32 → zM → Int32 → zM → Prop} (h : ∀ (C : zC) (Qc : Array Value → State → Outcome → State → Prop), St_X6_feed C G Qc → zl C = l → ∀ (a0 : Nat) (x1 x2 x3 x4 x5 : Int32) (m : zM), zK G a0 = some (6, a0) → Pre a0 x1 x2 x3 x4 x5 m → (∀ (r : Int32) (m' : zM), Post a0 x1 x2 x3 x4 x5 m r m' → zRet C G Qc (some (.int r)) m') → Pt_X6_feed_0 C G a0 x1 x2 x3 x4 x5 m) : Con_X6_feed l G Pre Post := by
  intro a0 x1 x2 x3 x4 x5 m ka0 hpre
  refine zMetD hL (by decide +kernel) rfl (Nat.le_of_ble_eq_true rfl) (fun C hF hQ hA hR hl hnm => ?_)
  exact h C _ ⟨hF, hQ, hR⟩ hl a0 x1 x2 x3 x4 x5 m ka0 hpre (fun r m' hp => zRet_to hF (fun t hw hf => ⟨⟨r, m', rfl, hp, hw⟩, hf.1, by rw [← hA]; exact hf.2⟩))
abbrev rm_X6_end : Room := { frames := 1, cells := 0, slots := 0, locals := 22 }
def Con_X6_end (l : Launch) (G : zG) (Pre : Nat → Int32 → zM → Prop) (Post : Nat → Int32 → zM → Int32 → zM → Prop) : Prop := ∀ (a0 : Nat) (x1 : Int32) (m : zM), zK G a0 = some (6, a0) → Pre a0 x1 m → Met l yX6_end wsX6_end rm_X6_end (va_Pc [.ref a0, .int x1] (fun U => zW G m U)) (va_Qi (fun r m' => Post a0 x1 m r m') (fun m' t => zW G m' t) (zdom G)) 0 0 (zdom G)
def St_X6_end (C : zC) (G : zG) (Qc : Array Value → State → Outcome → State → Prop) : Prop := zF C G cX6_end 2 wsX6_end RX6 ∧ zQm C Qc (some .int) 0 0 ∧ zRm C = rm_X6_end
def Pt_X6_end_0 (C : zC) (G : zG) (a0 : Nat) (x1 : Int32) (m : zM) : Prop := zX C 2 0 0 0 [(0, .ref a0), (1, .int x1)] [] (zPic G m)
set_option maxRecDepth 100000 in
theorem con_X6_end {l : Launch} {G : zG} (hL : zLay G) {Pre : Nat → Int32 → zM → Prop} {Post : Nat → Int32 → zM → Int32 → zM → Prop} (h : ∀ (C : zC) (Qc : Array Value → State → Outcome → State → Prop), St_X6_end C G Qc → zl C = l → ∀ (a0 : Nat) (x1 : Int32) (m : zM), zK G a0 = some (6, a0) → Pre a0 x1 m → (∀ (r : Int32) (m' : zM), Post a0 x1 m r m' → zRet C G Qc (some (.int r)) m') → Pt_X6_end_0 C G a0 x1 m) : Con_X6_end l G Pre Post := by
  intro a0 x1 m ka0 hpre
  refine zMetD hL (by decide +kernel) rfl (Nat.le_of_ble_eq_true rfl) (fun C hF hQ hA hR hl hnm => ?_)
  exact h C _ ⟨hF, hQ, hR⟩ hl a0 x1 m ka0 hpre (fun r m' hp => zRet_to hF (fun t hw hf => ⟨⟨r, m', rfl, hp, hw⟩, hf.1, by rw [← hA]; exact hf.2⟩))
abbrev rm_X6_see : Room := { frames := 0, cells := 0, slots := 0, locals := 0 }
def Con_X6_see (l : Launch) (G : zG) (Pre : Nat → zM → Prop) (Post : Nat → zM → Int32 → Prop) : Prop := ∀ (a0 : Nat) (m : zM), zK G a0 = some (6, a0) → Pre a0 m → Met l yX6_see wsX6_see rm_X6_see (va_Pc [.ref a0] (fun U => zW G m U)) (va_Qi (fun r m' => m' = m ∧ Post a0 m r) (fun m' t => zW G m' t) (zdom G)) 0 0 (zdom G)
def St_X6_see (C : zC) (G : zG) (Qc : Array Value → State → Outcome → State → Prop) : Prop := zF C G cX6_see 1 wsX6_see RX6 ∧ zQm C Qc (some .int) 0 0 ∧ zRm C = rm_X6_see
def Pt_X6_see_0 (C : zC) (G : zG) (a0 : Nat) (m : zM) : Prop := zX C 1 0 0 0 [(0, .ref a0)] [] (zPic G m)
set_option maxRecDepth 100000 in
theorem con_X6_see {l : Launch} {G : zG} (hL : zLay G) {Pre : Nat → zM → Prop} {Post : Nat → zM → Int32 → Prop} (h : ∀ (C : zC) (Qc : Array Value → State → Outcome → State → Prop), St_X6_see C G Qc → zl C = l → ∀ (a0 : Nat) (m : zM), zK G a0 = some (6, a0) → Pre a0 m → (∀ (r : Int32), Post a0 m r → zRet C G Qc (some (.int r)) m) → Pt_X6_see_0 C G a0 m) : Con_X6_see l G Pre Post := by
  intro a0 m ka0 hpre
  refine zMetD hL (by decide +kernel) rfl (Nat.le_of_ble_eq_true rfl) (fun C hF hQ hA hR hl hnm => ?_)
  exact h C _ ⟨hF, hQ, hR⟩ hl a0 m ka0 hpre (fun r hp => zRet_to hF (fun t hw hf => ⟨⟨r, m, rfl, ⟨rfl, hp⟩, hw⟩, hf.1, by rw [← hA]; exact hf.2⟩))
abbrev rm_X6_next : Room := { frames := 1, cells := 0, slots := 0, locals := 22 }
def Con_X6_next (l : Launch) (G : zG) (Pre : Nat → zM → Prop) (Post : Nat → zM → zM → Prop) : Prop := ∀ (a0 : Nat) (m : zM), zK G a0 = some (6, a0) → Pre a0 m → Met l yX6_next wsX6_next rm_X6_next (va_Pc [.ref a0] (fun U => zW G m U)) (va_Qv (fun m' => Post a0 m m') (fun m' t => zW G m' t) (zdom G)) 0 0 (zdom G)
def St_X6_next (C : zC) (G : zG) (Qc : Array Value → State → Outcome → State → Prop) : Prop := zF C G cX6_next 3 wsX6_next RX6 ∧ zQm C Qc none 0 0 ∧ zRm C = rm_X6_next
def Pt_X6_next_0 (C : zC) (G : zG) (a0 : Nat) (m : zM) : Prop := zX C 3 0 0 0 [(0, .ref a0)] [] (zPic G m)
def Pt_X6_next_79 (C : zC) (G : zG) (a0 : Nat) (x2 : Int32) (m : zM) : Prop := zX C 3 0 0 79 [(0, .ref a0), (2, .int x2)] [] (zPic G m)
def Pt_X6_next_168 (C : zC) (G : zG) (a0 : Nat) (x2 : Int32) (m : zM) : Prop := zX C 3 0 0 168 [(0, .ref a0), (2, .int x2)] [] (zPic G m)
def Pt_X6_next_210 (C : zC) (G : zG) (a0 : Nat) (x2 s0 : Int32) (m : zM) : Prop := zX C 3 0 0 210 [(0, .ref a0), (2, .int x2)] [.int s0, .ref a0] (zPic G m)
set_option maxRecDepth 100000 in
theorem con_X6_next {l : Launch} {G : zG} (hL : zLay G) {Pre : Nat → zM → Prop} {Post : Nat → zM → zM → Prop} (h : ∀ (C : zC) (Qc : Array Value → State → Outcome → State → Prop), St_X6_next C G Qc → zl C = l → ∀ (a0 : Nat) (m : zM), zK G a0 = some (6, a0) → Pre a0 m → (∀ (m' : zM), Post a0 m m' → zRet C G Qc none m') → Pt_X6_next_0 C G a0 m) : Con_X6_next l G Pre Post := by
  intro a0 m ka0 hpre
  refine zMetD hL (by decide +kernel) rfl (Nat.le_of_ble_eq_true rfl) (fun C hF hQ hA hR hl hnm => ?_)
  exact h C _ ⟨hF, hQ, hR⟩ hl a0 m ka0 hpre (fun m' hp => zRet_to hF (fun t hw hf => ⟨⟨m', rfl, hp, hw⟩, hf.1, by rw [← hA]; exact hf.2⟩))
abbrev rm_X6_isWord : Room := { frames := 0, cells := 0, slots := 0, locals := 0 }
def Con_X6_isWord (l : Launch) (G : zG) (Pre : Nat → Int64 → zM → Prop) (Post : Nat → Int64 → zM → Int32 → Prop) : Prop := ∀ (a0 : Nat) (l1 : Int64) (m : zM), zK G a0 = some (6, a0) → Pre a0 l1 m → Met l yX6_isWord wsX6_isWord rm_X6_isWord (va_Pc [.ref a0, .long l1] (fun U => zW G m U)) (va_Qi (fun r m' => m' = m ∧ Post a0 l1 m r) (fun m' t => zW G m' t) (zdom G)) 0 0 (zdom G)
def St_X6_isWord (C : zC) (G : zG) (Qc : Array Value → State → Outcome → State → Prop) : Prop := zF C G cX6_isWord 3 wsX6_isWord RX6 ∧ zQm C Qc (some .boolean) 0 0 ∧ zRm C = rm_X6_isWord
def Pt_X6_isWord_0 (C : zC) (G : zG) (a0 : Nat) (l1 : Int64) (m : zM) : Prop := zX C 3 0 0 0 [(0, .ref a0), (1, .long l1)] [] (zPic G m)
set_option maxRecDepth 100000 in
theorem con_X6_isWord {l : Launch} {G : zG} (hL : zLay G) {Pre : Nat → Int64 → zM → Prop} {Post : Nat → Int64 → zM → Int32 → Prop} (h : ∀ (C : zC) (Qc : Array Value → State → Outcome → State → Prop), St_X6_isWord C G Qc → zl C = l → ∀ (a0 : Nat) (l1 : Int64) (m : zM), zK G a0 = some (6, a0) → Pre a0 l1 m → (∀ (r : Int32), Post a0 l1 m r → zRet C G Qc (some (.int r)) m) → Pt_X6_isWord_0 C G a0 l1 m) : Con_X6_isWord l G Pre Post := by
  intro a0 l1 m ka0 hpre
  refine zMetD hL (by decide +kernel) rfl (Nat.le_of_ble_eq_true rfl) (fun C hF hQ hA hR hl hnm => ?_)
  exact h C _ ⟨hF, hQ, hR⟩ hl a0 l1 m ka0 hpre (fun r hp => zRet_to hF (fun t hw hf => ⟨⟨r, m, rfl, ⟨rfl, hp⟩, hw⟩, hf.1, by rw [← hA]; exact hf.2⟩))
abbrev rm_X6_isSign : Room := { frames := 0, cells := 0, slots := 0, locals := 0 }
def Con_X6_isSign (l : Launch) (G : zG) (Pre : Nat → Int32 → zM → Prop) (Post : Nat → Int32 → zM → Int32 → Prop) : Prop := ∀ (a0 : Nat) (x1 : Int32) (m : zM), zK G a0 = some (6, a0) → Pre a0 x1 m → Met l yX6_isSign wsX6_isSign rm_X6_isSign (va_Pc [.ref a0, .int x1] (fun U => zW G m U)) (va_Qi (fun r m' => m' = m ∧ Post a0 x1 m r) (fun m' t => zW G m' t) (zdom G)) 0 0 (zdom G)
def St_X6_isSign (C : zC) (G : zG) (Qc : Array Value → State → Outcome → State → Prop) : Prop := zF C G cX6_isSign 2 wsX6_isSign RX6 ∧ zQm C Qc (some .boolean) 0 0 ∧ zRm C = rm_X6_isSign
def Pt_X6_isSign_0 (C : zC) (G : zG) (a0 : Nat) (x1 : Int32) (m : zM) : Prop := zX C 2 0 0 0 [(0, .ref a0), (1, .int x1)] [] (zPic G m)
set_option maxRecDepth 100000 in
theorem con_X6_isSign {l : Launch} {G : zG} (hL : zLay G) {Pre : Nat → Int32 → zM → Prop} {Post : Nat → Int32 → zM → Int32 → Prop} (h : ∀ (C : zC) (Qc : Array Value → State → Outcome → State → Prop), St_X6_isSign C G Qc → zl C = l → ∀ (a0 : Nat) (x1 : Int32) (m : zM), zK G a0 = some (6, a0) → Pre a0 x1 m → (∀ (r : Int32), Post a0 x1 m r → zRet C G Qc (some (.int r)) m) → Pt_X6_isSign_0 C G a0 x1 m) : Con_X6_isSign l G Pre Post := by
  intro a0 x1 m ka0 hpre
  refine zMetD hL (by decide +kernel) rfl (Nat.le_of_ble_eq_true rfl) (fun C hF hQ hA hR hl hnm => ?_)
  exact h C _ ⟨hF, hQ, hR⟩ hl a0 x1 m ka0 hpre (fun r hp => zRet_to hF (fun t hw hf => ⟨⟨r, m, rfl, ⟨rfl, hp⟩, hw⟩, hf.1, by rw [← hA]; exact hf.2⟩))
abbrev rm_X6_wrong : Room := { frames := 0, cells := 0, slots := 0, locals := 0 }
def Con_X6_wrong (l : Launch) (G : zG) (Pre : Nat → zM → Prop) (Post : Nat → zM → Int32 → zM → Prop) : Prop := ∀ (a0 : Nat) (m : zM), zK G a0 = some (6, a0) → Pre a0 m → Met l yX6_wrong wsX6_wrong rm_X6_wrong (va_Pc [.ref a0] (fun U => zW G m U)) (va_Qi (fun r m' => Post a0 m r m') (fun m' t => zW G m' t) (zdom G)) 0 0 (zdom G)
def St_X6_wrong (C : zC) (G : zG) (Qc : Array Value → State → Outcome → State → Prop) : Prop := zF C G cX6_wrong 1 wsX6_wrong RX6 ∧ zQm C Qc (some .boolean) 0 0 ∧ zRm C = rm_X6_wrong
def Pt_X6_wrong_0 (C : zC) (G : zG) (a0 : Nat) (m : zM) : Prop := zX C 1 0 0 0 [(0, .ref a0)] [] (zPic G m)
set_option maxRecDepth 100000 in
theorem con_X6_wrong {l : Launch} {G : zG} (hL : zLay G) {Pre : Nat → zM → Prop} {Post : Nat → zM → Int32 → zM → Prop} (h : ∀ (C : zC) (Qc : Array Value → State → Outcome → State → Prop), St_X6_wrong C G Qc → zl C = l → ∀ (a0 : Nat) (m : zM), zK G a0 = some (6, a0) → Pre a0 m → (∀ (r : Int32) (m' : zM), Post a0 m r m' → zRet C G Qc (some (.int r)) m') → Pt_X6_wrong_0 C G a0 m) : Con_X6_wrong l G Pre Post := by
  intro a0 m ka0 hpre
  refine zMetD hL (by decide +kernel) rfl (Nat.le_of_ble_eq_true rfl) (fun C hF hQ hA hR hl hnm => ?_)
  exact h C _ ⟨hF, hQ, hR⟩ hl a0 m ka0 hpre (fun r m' hp => zRet_to hF (fun t hw hf => ⟨⟨r, m', rfl, hp, hw⟩, hf.1, by rw [← hA]; exact hf.2⟩))
abbrev rm_X6_later : Room := { frames := 0, cells := 0, slots := 0, locals := 0 }
def Con_X6_later (l : Launch) (G : zG) (Pre : Nat → Int32 → Int32 → zM → Prop) (Post : Nat → Int32 → Int32 → zM → zM → Prop) : Prop := ∀ (a0 : Nat) (x1 x2 : Int32) (m : zM), zK G a0 = some (6, a0) → Pre a0 x1 x2 m → Met l yX6_later wsX6_later rm_X6_later (va_Pc [.ref a0, .int x1, .int x2] (fun U => zW G m U)) (va_Qv (fun m' => Post a0 x1 x2 m m') (fun m' t => zW G m' t) (zdom G)) 0 0 (zdom G)
def St_X6_later (C : zC) (G : zG) (Qc : Array Value → State → Outcome → State → Prop) : Prop := zF C G cX6_later 3 wsX6_later RX6 ∧ zQm C Qc none 0 0 ∧ zRm C = rm_X6_later
def Pt_X6_later_0 (C : zC) (G : zG) (a0 : Nat) (x1 x2 : Int32) (m : zM) : Prop := zX C 3 0 0 0 [(0, .ref a0), (1, .int x1), (2, .int x2)] [] (zPic G m)
set_option maxRecDepth 100000 in
theorem con_X6_later {l : Launch} {G : zG} (hL : zLay G) {Pre : Nat → Int32 → Int32 → zM → Prop} {Post : Nat → Int32 → Int32 → zM → zM → Prop} (h : ∀ (C : zC) (Qc : Array Value → State → Outcome → State → Prop), St_X6_later C G Qc → zl C = l → ∀ (a0 : Nat) (x1 x2 : Int32) (m : zM), zK G a0 = some (6, a0) → Pre a0 x1 x2 m → (∀ (m' : zM), Post a0 x1 x2 m m' → zRet C G Qc none m') → Pt_X6_later_0 C G a0 x1 x2 m) : Con_X6_later l G Pre Post := by
  intro a0 x1 x2 m ka0 hpre
  refine zMetD hL (by decide +kernel) rfl (Nat.le_of_ble_eq_true rfl) (fun C hF hQ hA hR hl hnm => ?_)
  exact h C _ ⟨hF, hQ, hR⟩ hl a0 x1 x2 m ka0 hpre (fun m' hp => zRet_to hF (fun t hw hf => ⟨⟨m', rfl, hp, hw⟩, hf.1, by rw [← hA]; exact hf.2⟩))
abbrev rm_X6_need : Room := { frames := 2, cells := 0, slots := 0, locals := 44 }
def Con_X6_need (l : Launch) (G : zG) (Pre : Nat → Int32 → zM → Prop) (Post : Nat → Int32 → zM → Int32 → zM → Prop) : Prop := ∀ (a0 : Nat) (x1 : Int32) (m : zM), zK G a0 = some (6, a0) → Pre a0 x1 m → Met l yX6_need wsX6_need rm_X6_need (va_Pc [.ref a0, .int x1] (fun U => zW G m U)) (va_Qi (fun r m' => Post a0 x1 m r m') (fun m' t => zW G m' t) (zdom G)) 0 0 (zdom G)
def St_X6_need (C : zC) (G : zG) (Qc : Array Value → State → Outcome → State → Prop) : Prop := zF C G cX6_need 2 wsX6_need RX6 ∧ zQm C Qc (some .boolean) 0 0 ∧ zRm C = rm_X6_need
def Pt_X6_need_0 (C : zC) (G : zG) (a0 : Nat) (x1 : Int32) (m : zM) : Prop := zX C 2 0 0 0 [(0, .ref a0), (1, .int x1)] [] (zPic G m)
set_option maxRecDepth 100000 in
theorem con_X6_need {l : Launch} {G : zG} (hL : zLay G) {Pre : Nat → Int32 → zM → Prop} {Post : Nat → Int32 → zM → Int32 → zM → Prop} (h : ∀ (C : zC) (Qc : Array Value → State → Outcome → State → Prop), St_X6_need C G Qc → zl C = l → ∀ (a0 : Nat) (x1 : Int32) (m : zM), zK G a0 = some (6, a0) → Pre a0 x1 m → (∀ (r : Int32) (m' : zM), Post a0 x1 m r m' → zRet C G Qc (some (.int r)) m') → Pt_X6_need_0 C G a0 x1 m) : Con_X6_need l G Pre Post := by
  intro a0 x1 m ka0 hpre
  refine zMetD hL (by decide +kernel) rfl (Nat.le_of_ble_eq_true rfl) (fun C hF hQ hA hR hl hnm => ?_)
  exact h C _ ⟨hF, hQ, hR⟩ hl a0 x1 m ka0 hpre (fun r m' hp => zRet_to hF (fun t hw hf => ⟨⟨r, m', rfl, hp, hw⟩, hf.1, by rw [← hA]; exact hf.2⟩))
abbrev rm_X6_test : Room := { frames := 2, cells := 0, slots := 0, locals := 44 }
def Con_X6_test (l : Launch) (G : zG) (Pre : Nat → Int32 → Int32 → zM → Prop) (Post : Nat → Int32 → Int32 → zM → Int32 → zM → Prop) : Prop := ∀ (a0 : Nat) (x1 x2 : Int32) (m : zM), zK G a0 = some (6, a0) → Pre a0 x1 x2 m → Met l yX6_test wsX6_test rm_X6_test (va_Pc [.ref a0, .int x1, .int x2] (fun U => zW G m U)) (va_Qi (fun r m' => Post a0 x1 x2 m r m') (fun m' t => zW G m' t) (zdom G)) 0 0 (zdom G)
def St_X6_test (C : zC) (G : zG) (Qc : Array Value → State → Outcome → State → Prop) : Prop := zF C G cX6_test 8 wsX6_test RX6 ∧ zQm C Qc (some .boolean) 0 0 ∧ zRm C = rm_X6_test
def Pt_X6_test_0 (C : zC) (G : zG) (a0 : Nat) (x1 x2 : Int32) (m : zM) : Prop := zX C 8 0 0 0 [(0, .ref a0), (1, .int x1), (2, .int x2)] [] (zPic G m)
def Pt_X6_test_30 (C : zC) (G : zG) (a0 : Nat) (x1 x2 x3 : Int32) (m : zM) : Prop := zX C 8 0 0 30 [(0, .ref a0), (1, .int x1), (2, .int x2), (3, .int x3)] [] (zPic G m)
def Pt_X6_test_115 (C : zC) (G : zG) (a0 : Nat) (x1 x2 x3 s0 : Int32) (m : zM) : Prop := zX C 8 0 0 115 [(0, .ref a0), (1, .int x1), (2, .int x2), (3, .int x3)] [.int s0] (zPic G m)
def Pt_X6_test_186 (C : zC) (G : zG) (a0 : Nat) (x1 x2 x3 x4 x5 : Int32) (m : zM) : Prop := zX C 8 0 0 186 [(0, .ref a0), (1, .int x1), (2, .int x2), (3, .int x3), (4, .int x4), (5, .int x5)] [] (zPic G m)
def Pt_X6_test_227 (C : zC) (G : zG) (a0 : Nat) (x1 x2 x3 x4 x5 x6 : Int32) (m : zM) : Prop := zX C 8 0 0 227 [(0, .ref a0), (1, .int x1), (2, .int x2), (3, .int x3), (4, .int x4), (5, .int x5), (6, .int x6)] [] (zPic G m)
def Pt_X6_test_269 (C : zC) (G : zG) (a0 : Nat) (x1 x2 x5 x6 x7 s0 s1 : Int32) (m : zM) : Prop := zX C 8 0 0 269 [(0, .ref a0), (1, .int x1), (2, .int x2), (5, .int x5), (6, .int x6), (7, .int x7)] [.int s0, .int s1, .ref (a0 + 26)] (zPic G m)
set_option maxRecDepth 100000 in
theorem con_X6_test {l : Launch} {G : zG} (hL : zLay G) {Pre : Nat → Int32 → Int32 → zM → Prop} {Post : Nat → Int32 → Int32 → zM → Int32 → zM → Prop} (h : ∀ (C : zC) (Qc : Array Value → State → Outcome → State → Prop), St_X6_test C G Qc → zl C = l → ∀ (a0 : Nat) (x1 x2 : Int32) (m : zM), zK G a0 = some (6, a0) → Pre a0 x1 x2 m → (∀ (r : Int32) (m' : zM), Post a0 x1 x2 m r m' → zRet C G Qc (some (.int r)) m') → Pt_X6_test_0 C G a0 x1 x2 m) : Con_X6_test l G Pre Post := by
  intro a0 x1 x2 m ka0 hpre
  refine zMetD hL (by decide +kernel) rfl (Nat.le_of_ble_eq_true rfl) (fun C hF hQ hA hR hl hnm => ?_)
  exact h C _ ⟨hF, hQ, hR⟩ hl a0 x1 x2 m ka0 hpre (fun r m' hp => zRet_to hF (fun t hw hf => ⟨⟨r, m', rfl, hp, hw⟩, hf.1, by rw [← hA]; exact hf.2⟩))
abbrev rm_X6_oneLine : Room := { frames := 3, cells := 0, slots := 0, locals := 71 }
def Con_X6_oneLine (l : Launch) (G : zG) (Pre : Nat → zM → Prop) (Post : Nat → zM → Int32 → zM → Prop) : Prop := ∀ (a0 : Nat) (m : zM), zK G a0 = some (6, a0) → Pre a0 m → Met l yX6_oneLine wsX6_oneLine rm_X6_oneLine (va_Pc [.ref a0] (fun U => zW G m U)) (va_Qi (fun r m' => Post a0 m r m') (fun m' t => zW G m' t) (zdom G)) 0 0 (zdom G)
def St_X6_oneLine (C : zC) (G : zG) (Qc : Array Value → State → Outcome → State → Prop) : Prop := zF C G cX6_oneLine 4 wsX6_oneLine RX6 ∧ zQm C Qc (some .boolean) 0 0 ∧ zRm C = rm_X6_oneLine
def Pt_X6_oneLine_0 (C : zC) (G : zG) (a0 : Nat) (m : zM) : Prop := zX C 4 0 0 0 [(0, .ref a0)] [] (zPic G m)
def Pt_X6_oneLine_18 (C : zC) (G : zG) (a0 : Nat) (s0 : Int32) (m : zM) : Prop := zX C 4 0 0 18 [(0, .ref a0)] [.int s0] (zPic G m)
def Pt_X6_oneLine_37 (C : zC) (G : zG) (a0 : Nat) (x1 : Int32) (m : zM) : Prop := zX C 4 0 0 37 [(0, .ref a0), (1, .int x1)] [] (zPic G m)
def Pt_X6_oneLine_58 (C : zC) (G : zG) (a0 : Nat) (x1 x2 x3 : Int32) (m : zM) : Prop := zX C 4 0 0 58 [(0, .ref a0), (1, .int x1), (2, .int x2), (3, .int x3)] [] (zPic G m)
def Pt_X6_oneLine_102 (C : zC) (G : zG) (a0 : Nat) (x1 : Int32) (m : zM) : Prop := zX C 4 0 0 102 [(0, .ref a0), (1, .int x1)] [] (zPic G m)
def Pt_X6_oneLine_164 (C : zC) (G : zG) (a0 : Nat) (x1 s0 s1 : Int32) (m : zM) : Prop := zX C 4 0 0 164 [(0, .ref a0), (1, .int x1)] [.int s0, .int s1, .ref (a0 + 29)] (zPic G m)
def Pt_X6_oneLine_228 (C : zC) (G : zG) (a0 : Nat) (m : zM) : Prop := zX C 4 0 0 228 [(0, .ref a0)] [] (zPic G m)
set_option maxRecDepth 100000 in
theorem con_X6_oneLine {l : Launch} {G : zG} (hL : zLay G) {Pre : Nat → zM → Prop} {Post : Nat → zM → Int32 → zM → Prop} (h : ∀ (C : zC) (Qc : Array Value → State → Outcome → State → Prop), St_X6_oneLine C G Qc → zl C = l → ∀ (a0 : Nat) (m : zM), zK G a0 = some (6, a0) → Pre a0 m → (∀ (r : Int32) (m' : zM), Post a0 m r m' → zRet C G Qc (some (.int r)) m') → Pt_X6_oneLine_0 C G a0 m) : Con_X6_oneLine l G Pre Post := by
  intro a0 m ka0 hpre
  refine zMetD hL (by decide +kernel) rfl (Nat.le_of_ble_eq_true rfl) (fun C hF hQ hA hR hl hnm => ?_)
  exact h C _ ⟨hF, hQ, hR⟩ hl a0 m ka0 hpre (fun r m' hp => zRet_to hF (fun t hw hf => ⟨⟨r, m', rfl, hp, hw⟩, hf.1, by rw [← hA]; exact hf.2⟩))
abbrev rm_X6_keepGrid : Room := { frames := 0, cells := 0, slots := 0, locals := 0 }
def Con_X6_keepGrid (l : Launch) (G : zG) (Pre : Nat → zM → Prop) (Post : Nat → zM → zM → Prop) : Prop := ∀ (a0 : Nat) (m : zM), zK G a0 = some (6, a0) → Pre a0 m → Met l yX6_keepGrid wsX6_keepGrid rm_X6_keepGrid (va_Pc [.ref a0] (fun U => zW G m U)) (va_Qv (fun m' => Post a0 m m') (fun m' t => zW G m' t) (zdom G)) 0 0 (zdom G)
def St_X6_keepGrid (C : zC) (G : zG) (Qc : Array Value → State → Outcome → State → Prop) : Prop := zF C G cX6_keepGrid 2 wsX6_keepGrid RX6 ∧ zQm C Qc none 0 0 ∧ zRm C = rm_X6_keepGrid
def Pt_X6_keepGrid_0 (C : zC) (G : zG) (a0 : Nat) (m : zM) : Prop := zX C 2 0 0 0 [(0, .ref a0)] [] (zPic G m)
def Pt_X6_keepGrid_12 (C : zC) (G : zG) (a0 : Nat) (x1 : Int32) (m : zM) : Prop := zX C 2 0 0 12 [(0, .ref a0), (1, .int x1)] [] (zPic G m)
def Pt_X6_keepGrid_62 (C : zC) (G : zG) (a0 : Nat) (x1 : Int32) (m : zM) : Prop := zX C 2 0 0 62 [(0, .ref a0), (1, .int x1)] [] (zPic G m)
set_option maxRecDepth 100000 in
theorem con_X6_keepGrid {l : Launch} {G : zG} (hL : zLay G) {Pre : Nat → zM → Prop} {Post : Nat → zM → zM → Prop} (h : ∀ (C : zC) (Qc : Array Value → State → Outcome → State → Prop), St_X6_keepGrid C G Qc → zl C = l → ∀ (a0 : Nat) (m : zM), zK G a0 = some (6, a0) → Pre a0 m → (∀ (m' : zM), Post a0 m m' → zRet C G Qc none m') → Pt_X6_keepGrid_0 C G a0 m) : Con_X6_keepGrid l G Pre Post := by
  intro a0 m ka0 hpre
  refine zMetD hL (by decide +kernel) rfl (Nat.le_of_ble_eq_true rfl) (fun C hF hQ hA hR hl hnm => ?_)
  exact h C _ ⟨hF, hQ, hR⟩ hl a0 m ka0 hpre (fun m' hp => zRet_to hF (fun t hw hf => ⟨⟨m', rfl, hp, hw⟩, hf.1, by rw [← hA]; exact hf.2⟩))
abbrev rm_X6_setGrid : Room := { frames := 0, cells := 0, slots := 0, locals := 0 }
def Con_X6_setGrid (l : Launch) (G : zG) (Pre : Nat → zM → Prop) (Post : Nat → zM → zM → Prop) : Prop := ∀ (a0 : Nat) (m : zM), zK G a0 = some (6, a0) → Pre a0 m → Met l yX6_setGrid wsX6_setGrid rm_X6_setGrid (va_Pc [.ref a0] (fun U => zW G m U)) (va_Qv (fun m' => Post a0 m m') (fun m' t => zW G m' t) (zdom G)) 0 0 (zdom G)
def St_X6_setGrid (C : zC) (G : zG) (Qc : Array Value → State → Outcome → State → Prop) : Prop := zF C G cX6_setGrid 3 wsX6_setGrid RX6 ∧ zQm C Qc none 0 0 ∧ zRm C = rm_X6_setGrid
def Pt_X6_setGrid_0 (C : zC) (G : zG) (a0 : Nat) (m : zM) : Prop := zX C 3 0 0 0 [(0, .ref a0)] [] (zPic G m)
def Pt_X6_setGrid_12 (C : zC) (G : zG) (a0 : Nat) (x1 : Int32) (m : zM) : Prop := zX C 3 0 0 12 [(0, .ref a0), (1, .int x1)] [] (zPic G m)
def Pt_X6_setGrid_60 (C : zC) (G : zG) (a0 : Nat) (x1 x2 : Int32) (m : zM) : Prop := zX C 3 0 0 60 [(0, .ref a0), (1, .int x1), (2, .int x2)] [] (zPic G m)
set_option maxRecDepth 100000 in
theorem con_X6_setGrid {l : Launch} {G : zG} (hL : zLay G) {Pre : Nat → zM → Prop} {Post : Nat → zM → zM → Prop} (h : ∀ (C : zC) (Qc : Array Value → State → Outcome → State → Prop), St_X6_setGrid C G Qc → zl C = l → ∀ (a0 : Nat) (m : zM), zK G a0 = some (6, a0) → Pre a0 m → (∀ (m' : zM), Post a0 m m' → zRet C G Qc none m') → Pt_X6_setGrid_0 C G a0 m) : Con_X6_setGrid l G Pre Post := by
  intro a0 m ka0 hpre
  refine zMetD hL (by decide +kernel) rfl (Nat.le_of_ble_eq_true rfl) (fun C hF hQ hA hR hl hnm => ?_)
  exact h C _ ⟨hF, hQ, hR⟩ hl a0 m ka0 hpre (fun m' hp => zRet_to hF (fun t hw hf => ⟨⟨m', rfl, hp, hw⟩, hf.1, by rw [← hA]; exact hf.2⟩))
abbrev rm_X6_ones : Room := { frames := 0, cells := 0, slots := 0, locals := 0 }
def Con_X6_ones (l : Launch) (G : zG) (Pre : Int32 → zM → Prop) (Post : Int32 → zM → Int32 → Prop) : Prop := ∀ (x0 : Int32) (m : zM), Pre x0 m → Met l yX6_ones wsX6_ones rm_X6_ones (va_Pc [.int x0] (fun U => zW G m U)) (va_Qi (fun r m' => m' = m ∧ Post x0 m r) (fun m' t => zW G m' t) (zdom G)) 0 0 (zdom G)
def St_X6_ones (C : zC) (G : zG) (Qc : Array Value → State → Outcome → State → Prop) : Prop := zF C G cX6_ones 3 wsX6_ones RX6 ∧ zQm C Qc (some .int) 0 0 ∧ zRm C = rm_X6_ones
def Pt_X6_ones_0 (C : zC) (G : zG) (x0 : Int32) (m : zM) : Prop := zX C 3 0 0 0 [(0, .int x0)] [] (zPic G m)
def Pt_X6_ones_4 (C : zC) (G : zG) (x1 x2 : Int32) (m : zM) : Prop := zX C 3 0 0 4 [(1, .int x1), (2, .int x2)] [] (zPic G m)
set_option maxRecDepth 100000 in
theorem con_X6_ones {l : Launch} {G : zG} (hL : zLay G) {Pre : Int32 → zM → Prop} {Post : Int32 → zM → Int32 → Prop} (h : ∀ (C : zC) (Qc : Array Value → State → Outcome → State → Prop), St_X6_ones C G Qc → zl C = l → ∀ (x0 : Int32) (m : zM), Pre x0 m → (∀ (r : Int32), Post x0 m r → zRet C G Qc (some (.int r)) m) → Pt_X6_ones_0 C G x0 m) : Con_X6_ones l G Pre Post := by
  intro x0 m  hpre
  refine zMetD hL (by decide +kernel) rfl (Nat.le_of_ble_eq_true rfl) (fun C hF hQ hA hR hl hnm => ?_)
  exact h C _ ⟨hF, hQ, hR⟩ hl x0 m  hpre (fun r hp => zRet_to hF (fun t hw hf => ⟨⟨r, m, rfl, ⟨rfl, hp⟩, hw⟩, hf.1, by rw [← hA]; exact hf.2⟩))
abbrev rm_X6_lineHolds : Room := { frames := 1, cells := 0, slots := 0, locals := 22 }
def Con_X6_lineHolds (l : Launch) (G : zG) (Pre : Nat → Int32 → Int32 → Int32 → Int32 → Int32 → Int64 → zM → Prop) (Post : Nat → Int32 → Int32 → Int32 → Int32 → Int32 → Int64 → zM → Int32 → Prop) : Prop := ∀ (a0 : Nat) (x1 x2 x3 x4 x5 : Int32) (l6 : Int64) (m : zM), zK G a0 = some (6, a0) → Pre a0 x1 x2 x3 x4 x5 l6 m → Met l yX6_lineHolds wsX6_lineHolds rm_X6_lineHolds (va_Pc [.ref a0, .int x1, .int x2, .int x3, .int x4, .int x5, .long l6] (fun U => zW G m U)) (va_Qi (fun r m' => m' = m ∧ Post a0 x1 x2 x3 x4 x5 l6 m r) (fun m' t => zW G m' t) (zdom G)) 0 0 (zdom G)
def St_X6_lineHolds (C : zC) (G : zG) (Qc : Array Value → State → Outcome → State → Prop) : Prop := zF C G cX6_lineHolds 14 wsX6_lineHolds RX6 ∧ zQm C Qc (some .boolean) 0 0 ∧ zRm C = rm_X6_lineHolds
def Pt_X6_lineHolds_0 (C : zC) (G : zG) (a0 : Nat) (x1 x2 x3 x4 x5 : Int32) (l6 : Int64) (m : zM) : Prop := zX C 14 0 0 0 [(0, .ref a0), (1, .int x1), (2, .int x2), (3, .int x3), (4, .int x4), (5, .int x5), (6, .long l6)] [] (zPic G m)
def Pt_X6_lineHolds_5 (C : zC) (G : zG) (a0 : Nat) (x1 x2 x3 x4 x5 : Int32) (l6 : Int64) (x8 : Int32) (m : zM) : Prop := zX C 14 0 0 5 [(0, .ref a0), (1, .int x1), (2, .int x2), (3, .int x3), (4, .int x4), (5, .int x5), (6, .long l6), (8, .int x8)] [] (zPic G m)
def Pt_X6_lineHolds_117 (C : zC) (G : zG) (a0 : Nat) (x1 x2 x3 x4 x5 : Int32) (l6 : Int64) (x8 x10 : Int32) (s0 : Int64) (m : zM) : Prop := zX C 14 0 0 117 [(0, .ref a0), (1, .int x1), (2, .int x2), (3, .int x3), (4, .int x4), (5, .int x5), (6, .long l6), (8, .int x8), (10, .int x10)] [.long s0] (zPic G m)
def Pt_X6_lineHolds_193 (C : zC) (G : zG) (a0 : Nat) (x1 x2 x3 x4 x5 : Int32) (l6 : Int64) (x8 x11 : Int32) (m : zM) : Prop := zX C 14 0 0 193 [(0, .ref a0), (1, .int x1), (2, .int x2), (3, .int x3), (4, .int x4), (5, .int x5), (6, .long l6), (8, .int x8), (11, .int x11)] [] (zPic G m)
set_option maxRecDepth 100000 in
theorem con_X6_lineHolds {l : Launch} {G : zG} (hL : zLay G) {Pre : Nat → Int32 → Int32 → Int32 → Int32 → Int32 → Int64 → zM → Prop} {Post : Nat → Int32 → Int32 → Int32 → Int32 → Int32 → Int64 → zM → Int32 → Prop} (h : ∀ (C : zC) (Qc : Array Value → State → Outcome → State → Prop), St_X6_lineHolds C G Qc → zl C = l → ∀ (a0 : Nat) (x1 x2 x3 x4 x5 : Int32) (l6 : Int64) (m : zM), zK G a0 = some (6, a0) → Pre a0 x1 x2 x3 x4 x5 l6 m → (∀ (r : Int32), Post a0 x1 x2 x3 x4 x5 l6 m r → zRet C G Qc (some (.int r)) m) → Pt_X6_lineHolds_0 C G a0 x1 x2 x3 x4 x5 l6 m) : Con_X6_lineHolds l G Pre Post := by
  intro a0 x1 x2 x3 x4 x5 l6 m ka0 hpre
  refine zMetD hL (by decide +kernel) rfl (Nat.le_of_ble_eq_true rfl) (fun C hF hQ hA hR hl hnm => ?_)
  exact h C _ ⟨hF, hQ, hR⟩ hl a0 x1 x2 x3 x4 x5 l6 m ka0 hpre (fun r hp => zRet_to hF (fun t hw hf => ⟨⟨r, m, rfl, ⟨rfl, hp⟩, hw⟩, hf.1, by rw [← hA]; exact hf.2⟩))
abbrev rm_X6_pointsOf : Room := { frames := 2, cells := 0, slots := 0, locals := 55 }
def Con_X6_pointsOf (l : Launch) (G : zG) (Pre : Nat → Int32 → Int32 → Int32 → Int32 → zM → Prop) (Post : Nat → Int32 → Int32 → Int32 → Int32 → zM → Int32 → Prop) : Prop := ∀ (a0 : Nat) (x1 x2 x3 x4 : Int32) (m : zM), zK G a0 = some (6, a0) → Pre a0 x1 x2 x3 x4 m → Met l yX6_pointsOf wsX6_pointsOf rm_X6_pointsOf (va_Pc [.ref a0, .int x1, .int x2, .int x3, .int x4] (fun U => zW G m U)) (va_Qi (fun r m' => m' = m ∧ Post a0 x1 x2 x3 x4 m r) (fun m' t => zW G m' t) (zdom G)) 0 0 (zdom G)
def St_X6_pointsOf (C : zC) (G : zG) (Qc : Array Value → State → Outcome → State → Prop) : Prop := zF C G cX6_pointsOf 9 wsX6_pointsOf RX6 ∧ zQm C Qc (some .int) 0 0 ∧ zRm C = rm_X6_pointsOf
def Pt_X6_pointsOf_0 (C : zC) (G : zG) (a0 : Nat) (x1 x2 x3 x4 : Int32) (m : zM) : Prop := zX C 9 0 0 0 [(0, .ref a0), (1, .int x1), (2, .int x2), (3, .int x3), (4, .int x4)] [] (zPic G m)
def Pt_X6_pointsOf_6 (C : zC) (G : zG) (a0 : Nat) (x1 x2 x3 x4 : Int32) (l5 : Int64) (x7 : Int32) (m : zM) : Prop := zX C 9 0 0 6 [(0, .ref a0), (1, .int x1), (2, .int x2), (3, .int x3), (4, .int x4), (5, .long l5), (7, .int x7)] [] (zPic G m)
def Pt_X6_pointsOf_104 (C : zC) (G : zG) (a0 : Nat) (x1 x2 x3 x4 x7 : Int32) (s0 : Int64) (m : zM) : Prop := zX C 9 0 0 104 [(0, .ref a0), (1, .int x1), (2, .int x2), (3, .int x3), (4, .int x4), (7, .int x7)] [.long s0] (zPic G m)
set_option maxRecDepth 100000 in
theorem con_X6_pointsOf {l : Launch} {G : zG} (hL : zLay G) {Pre : Nat → Int32 → Int32 → Int32 → Int32 → zM → Prop} {Post : Nat → Int32 → Int32 → Int32 → Int32 → zM → Int32 → Prop} (h : ∀ (C : zC) (Qc : Array Value → State → Outcome → State → Prop), St_X6_pointsOf C G Qc → zl C = l → ∀ (a0 : Nat) (x1 x2 x3 x4 : Int32) (m : zM), zK G a0 = some (6, a0) → Pre a0 x1 x2 x3 x4 m → (∀ (r : Int32), Post a0 x1 x2 x3 x4 m r → zRet C G Qc (some (.int r)) m) → Pt_X6_pointsOf_0 C G a0 x1 x2 x3 x4 m) : Con_X6_pointsOf l G Pre Post := by
  intro a0 x1 x2 x3 x4 m ka0 hpre
  refine zMetD hL (by decide +kernel) rfl (Nat.le_of_ble_eq_true rfl) (fun C hF hQ hA hR hl hnm => ?_)
  exact h C _ ⟨hF, hQ, hR⟩ hl a0 x1 x2 x3 x4 m ka0 hpre (fun r hp => zRet_to hF (fun t hw hf => ⟨⟨r, m, rfl, ⟨rfl, hp⟩, hw⟩, hf.1, by rw [← hA]; exact hf.2⟩))
abbrev rm_X6_pointsNow : Room := { frames := 3, cells := 0, slots := 0, locals := 83 }
def Con_X6_pointsNow (l : Launch) (G : zG) (Pre : Nat → Int32 → Int32 → zM → Prop) (Post : Nat → Int32 → Int32 → zM → Int32 → Prop) : Prop := ∀ (a0 : Nat) (x1 x2 : Int32) (m : zM), zK G a0 = some (6, a0) → Pre a0 x1 x2 m → Met l yX6_pointsNow wsX6_pointsNow rm_X6_pointsNow (va_Pc [.ref a0, .int x1, .int x2] (fun U => zW G m U)) (va_Qi (fun r m' => m' = m ∧ Post a0 x1 x2 m r) (fun m' t => zW G m' t) (zdom G)) 0 0 (zdom G)
def St_X6_pointsNow (C : zC) (G : zG) (Qc : Array Value → State → Outcome → State → Prop) : Prop := zF C G cX6_pointsNow 3 wsX6_pointsNow RX6 ∧ zQm C Qc (some .int) 0 0 ∧ zRm C = rm_X6_pointsNow
def Pt_X6_pointsNow_0 (C : zC) (G : zG) (a0 : Nat) (x1 x2 : Int32) (m : zM) : Prop := zX C 3 0 0 0 [(0, .ref a0), (1, .int x1), (2, .int x2)] [] (zPic G m)
set_option maxRecDepth 100000 in
theorem con_X6_pointsNow {l : Launch} {G : zG} (hL : zLay G) {Pre : Nat → Int32 → Int32 → zM → Prop} {Post : Nat → Int32 → Int32 → zM → Int32 → Prop} (h : ∀ (C : zC) (Qc : Array Value → State → Outcome → State → Prop), St_X6_pointsNow C G Qc → zl C = l → ∀ (a0 : Nat) (x1 x2 : Int32) (m : zM), zK G a0 = some (6, a0) → Pre a0 x1 x2 m → (∀ (r : Int32), Post a0 x1 x2 m r → zRet C G Qc (some (.int r)) m) → Pt_X6_pointsNow_0 C G a0 x1 x2 m) : Con_X6_pointsNow l G Pre Post := by
  intro a0 x1 x2 m ka0 hpre
  refine zMetD hL (by decide +kernel) rfl (Nat.le_of_ble_eq_true rfl) (fun C hF hQ hA hR hl hnm => ?_)
  exact h C _ ⟨hF, hQ, hR⟩ hl a0 x1 x2 m ka0 hpre (fun r hp => zRet_to hF (fun t hw hf => ⟨⟨r, m, rfl, ⟨rfl, hp⟩, hw⟩, hf.1, by rw [← hA]; exact hf.2⟩))
abbrev rm_X6_mostOf : Room := { frames := 4, cells := 0, slots := 0, locals := 105 }
def Con_X6_mostOf (l : Launch) (G : zG) (Pre : Nat → Int32 → zM → Prop) (Post : Nat → Int32 → zM → Int32 → Prop) : Prop := ∀ (a0 : Nat) (x1 : Int32) (m : zM), zK G a0 = some (6, a0) → Pre a0 x1 m → Met l yX6_mostOf wsX6_mostOf rm_X6_mostOf (va_Pc [.ref a0, .int x1] (fun U => zW G m U)) (va_Qi (fun r m' => m' = m ∧ Post a0 x1 m r) (fun m' t => zW G m' t) (zdom G)) 0 0 (zdom G)
def St_X6_mostOf (C : zC) (G : zG) (Qc : Array Value → State → Outcome → State → Prop) : Prop := zF C G cX6_mostOf 5 wsX6_mostOf RX6 ∧ zQm C Qc (some .int) 0 0 ∧ zRm C = rm_X6_mostOf
def Pt_X6_mostOf_0 (C : zC) (G : zG) (a0 : Nat) (x1 : Int32) (m : zM) : Prop := zX C 5 0 0 0 [(0, .ref a0), (1, .int x1)] [] (zPic G m)
def Pt_X6_mostOf_35 (C : zC) (G : zG) (a0 : Nat) (x1 x2 x3 : Int32) (m : zM) : Prop := zX C 5 0 0 35 [(0, .ref a0), (1, .int x1), (2, .int x2), (3, .int x3)] [] (zPic G m)
set_option maxRecDepth 100000 in
theorem con_X6_mostOf {l : Launch} {G : zG} (hL : zLay G) {Pre : Nat → Int32 → zM → Prop} {Post : Nat → Int32 → zM → Int32 → Prop} (h : ∀ (C : zC) (Qc : Array Value → State → Outcome → State → Prop), St_X6_mostOf C G Qc → zl C = l → ∀ (a0 : Nat) (x1 : Int32) (m : zM), zK G a0 = some (6, a0) → Pre a0 x1 m → (∀ (r : Int32), Post a0 x1 m r → zRet C G Qc (some (.int r)) m) → Pt_X6_mostOf_0 C G a0 x1 m) : Con_X6_mostOf l G Pre Post := by
  intro a0 x1 m ka0 hpre
  refine zMetD hL (by decide +kernel) rfl (Nat.le_of_ble_eq_true rfl) (fun C hF hQ hA hR hl hnm => ?_)
  exact h C _ ⟨hF, hQ, hR⟩ hl a0 x1 m ka0 hpre (fun r hp => zRet_to hF (fun t hw hf => ⟨⟨r, m, rfl, ⟨rfl, hp⟩, hw⟩, hf.1, by rw [← hA]; exact hf.2⟩))
abbrev rm_X6_all : Room := { frames := 5, cells := 0, slots := 0, locals := 129 }
def Con_X6_all (l : Launch) (G : zG) (Pre : Nat → zM → Prop) (Post : Nat → zM → Int64 → Prop) : Prop := ∀ (a0 : Nat) (m : zM), zK G a0 = some (6, a0) → Pre a0 m → Met l yX6_all wsX6_all rm_X6_all (va_Pc [.ref a0] (fun U => zW G m U)) (va_Ql (fun r m' => m' = m ∧ Post a0 m r) (fun m' t => zW G m' t) (zdom G)) 0 0 (zdom G)
def St_X6_all (C : zC) (G : zG) (Qc : Array Value → State → Outcome → State → Prop) : Prop := zF C G cX6_all 4 wsX6_all RX6 ∧ zQm C Qc (some .long) 0 0 ∧ zRm C = rm_X6_all
def Pt_X6_all_0 (C : zC) (G : zG) (a0 : Nat) (m : zM) : Prop := zX C 4 0 0 0 [(0, .ref a0)] [] (zPic G m)
def Pt_X6_all_4 (C : zC) (G : zG) (a0 : Nat) (l1 : Int64) (x3 : Int32) (m : zM) : Prop := zX C 4 0 0 4 [(0, .ref a0), (1, .long l1), (3, .int x3)] [] (zPic G m)
set_option maxRecDepth 100000 in
theorem con_X6_all {l : Launch} {G : zG} (hL : zLay G) {Pre : Nat → zM → Prop} {Post : Nat → zM → Int64 → Prop} (h : ∀ (C : zC) (Qc : Array Value → State → Outcome → State → Prop), St_X6_all C G Qc → zl C = l → ∀ (a0 : Nat) (m : zM), zK G a0 = some (6, a0) → Pre a0 m → (∀ (r : Int64), Post a0 m r → zRet C G Qc (some (.long r)) m) → Pt_X6_all_0 C G a0 m) : Con_X6_all l G Pre Post := by
  intro a0 m ka0 hpre
  refine zMetD hL (by decide +kernel) rfl (Nat.le_of_ble_eq_true rfl) (fun C hF hQ hA hR hl hnm => ?_)
  exact h C _ ⟨hF, hQ, hR⟩ hl a0 m ka0 hpre (fun r hp => zRet_to hF (fun t hw hf => ⟨⟨r, m, rfl, ⟨rfl, hp⟩, hw⟩, hf.1, by rw [← hA]; exact hf.2⟩))
abbrev rm_X6_leastOf : Room := { frames := 4, cells := 0, slots := 0, locals := 105 }
def Con_X6_leastOf (l : Launch) (G : zG) (Pre : Nat → Int32 → zM → Prop) (Post : Nat → Int32 → zM → Int32 → Prop) : Prop := ∀ (a0 : Nat) (x1 : Int32) (m : zM), zK G a0 = some (6, a0) → Pre a0 x1 m → Met l yX6_leastOf wsX6_leastOf rm_X6_leastOf (va_Pc [.ref a0, .int x1] (fun U => zW G m U)) (va_Qi (fun r m' => m' = m ∧ Post a0 x1 m r) (fun m' t => zW G m' t) (zdom G)) 0 0 (zdom G)
def St_X6_leastOf (C : zC) (G : zG) (Qc : Array Value → State → Outcome → State → Prop) : Prop := zF C G cX6_leastOf 5 wsX6_leastOf RX6 ∧ zQm C Qc (some .int) 0 0 ∧ zRm C = rm_X6_leastOf
def Pt_X6_leastOf_0 (C : zC) (G : zG) (a0 : Nat) (x1 : Int32) (m : zM) : Prop := zX C 5 0 0 0 [(0, .ref a0), (1, .int x1)] [] (zPic G m)
def Pt_X6_leastOf_37 (C : zC) (G : zG) (a0 : Nat) (x1 x2 x3 : Int32) (m : zM) : Prop := zX C 5 0 0 37 [(0, .ref a0), (1, .int x1), (2, .int x2), (3, .int x3)] [] (zPic G m)
set_option maxRecDepth 100000 in
theorem con_X6_leastOf {l : Launch} {G : zG} (hL : zLay G) {Pre : Nat → Int32 → zM → Prop} {Post : Nat → Int32 → zM → Int32 → Prop} (h : ∀ (C : zC) (Qc : Array Value → State → Outcome → State → Prop), St_X6_leastOf C G Qc → zl C = l → ∀ (a0 : Nat) (x1 : Int32) (m : zM), zK G a0 = some (6, a0) → Pre a0 x1 m → (∀ (r : Int32), Post a0 x1 m r → zRet C G Qc (some (.int r)) m) → Pt_X6_leastOf_0 C G a0 x1 m) : Con_X6_leastOf l G Pre Post := by
  intro a0 x1 m ka0 hpre
  refine zMetD hL (by decide +kernel) rfl (Nat.le_of_ble_eq_true rfl) (fun C hF hQ hA hR hl hnm => ?_)
  exact h C _ ⟨hF, hQ, hR⟩ hl a0 x1 m ka0 hpre (fun r hp => zRet_to hF (fun t hw hf => ⟨⟨r, m, rfl, ⟨rfl, hp⟩, hw⟩, hf.1, by rw [← hA]; exact hf.2⟩))
abbrev rm_X6_worst : Room := { frames := 5, cells := 0, slots := 0, locals := 129 }
def Con_X6_worst (l : Launch) (G : zG) (Pre : Nat → Int32 → Int64 → zM → Prop) (Post : Nat → Int32 → Int64 → zM → Int64 → Prop) : Prop := ∀ (a0 : Nat) (x1 : Int32) (l2 : Int64) (m : zM), zK G a0 = some (6, a0) → Pre a0 x1 l2 m → Met l yX6_worst wsX6_worst rm_X6_worst (va_Pc [.ref a0, .int x1, .long l2] (fun U => zW G m U)) (va_Ql (fun r m' => m' = m ∧ Post a0 x1 l2 m r) (fun m' t => zW G m' t) (zdom G)) 0 0 (zdom G)
def St_X6_worst (C : zC) (G : zG) (Qc : Array Value → State → Outcome → State → Prop) : Prop := zF C G cX6_worst 4 wsX6_worst RX6 ∧ zQm C Qc (some .long) 0 0 ∧ zRm C = rm_X6_worst
def Pt_X6_worst_0 (C : zC) (G : zG) (a0 : Nat) (x1 : Int32) (l2 : Int64) (m : zM) : Prop := zX C 4 0 0 0 [(0, .ref a0), (1, .int x1), (2, .long l2)] [] (zPic G m)
set_option maxRecDepth 100000 in
theorem con_X6_worst {l : Launch} {G : zG} (hL : zLay G) {Pre : Nat → Int32 → Int64 → zM → Prop} {Post : Nat → Int32 → Int64 → zM → Int64 → Prop} (h : ∀ (C : zC) (Qc : Array Value → State → Outcome → State → Prop), St_X6_worst C G Qc → zl C = l → ∀ (a0 : Nat) (x1 : Int32) (l2 : Int64) (m : zM), zK G a0 = some (6, a0) → Pre a0 x1 l2 m → (∀ (r : Int64), Post a0 x1 l2 m r → zRet C G Qc (some (.long r)) m) → Pt_X6_worst_0 C G a0 x1 l2 m) : Con_X6_worst l G Pre Post := by
  intro a0 x1 l2 m ka0 hpre
  refine zMetD hL (by decide +kernel) rfl (Nat.le_of_ble_eq_true rfl) (fun C hF hQ hA hR hl hnm => ?_)
  exact h C _ ⟨hF, hQ, hR⟩ hl a0 x1 l2 m ka0 hpre (fun r hp => zRet_to hF (fun t hw hf => ⟨⟨r, m, rfl, ⟨rfl, hp⟩, hw⟩, hf.1, by rw [← hA]; exact hf.2⟩))
abbrev rm_X6_holds : Room := { frames := 6, cells := 0, slots := 0, locals := 152 }
def Con_X6_holds (l : Launch) (G : zG) (Pre : Nat → zM → Prop) (Post : Nat → zM → Int32 → Prop) : Prop := ∀ (a0 : Nat) (m : zM), zK G a0 = some (6, a0) → Pre a0 m → Met l yX6_holds wsX6_holds rm_X6_holds (va_Pc [.ref a0] (fun U => zW G m U)) (va_Qi (fun r m' => m' = m ∧ Post a0 m r) (fun m' t => zW G m' t) (zdom G)) 0 0 (zdom G)
def St_X6_holds (C : zC) (G : zG) (Qc : Array Value → State → Outcome → State → Prop) : Prop := zF C G cX6_holds 4 wsX6_holds RX6 ∧ zQm C Qc (some .boolean) 0 0 ∧ zRm C = rm_X6_holds
def Pt_X6_holds_0 (C : zC) (G : zG) (a0 : Nat) (m : zM) : Prop := zX C 4 0 0 0 [(0, .ref a0)] [] (zPic G m)
def Pt_X6_holds_7 (C : zC) (G : zG) (a0 : Nat) (l1 : Int64) (x3 : Int32) (m : zM) : Prop := zX C 4 0 0 7 [(0, .ref a0), (1, .long l1), (3, .int x3)] [] (zPic G m)
set_option maxRecDepth 100000 in
theorem con_X6_holds {l : Launch} {G : zG} (hL : zLay G) {Pre : Nat → zM → Prop} {Post : Nat → zM → Int32 → Prop} (h : ∀ (C : zC) (Qc : Array Value → State → Outcome → State → Prop), St_X6_holds C G Qc → zl C = l → ∀ (a0 : Nat) (m : zM), zK G a0 = some (6, a0) → Pre a0 m → (∀ (r : Int32), Post a0 m r → zRet C G Qc (some (.int r)) m) → Pt_X6_holds_0 C G a0 m) : Con_X6_holds l G Pre Post := by
  intro a0 m ka0 hpre
  refine zMetD hL (by decide +kernel) rfl (Nat.le_of_ble_eq_true rfl) (fun C hF hQ hA hR hl hnm => ?_)
  exact h C _ ⟨hF, hQ, hR⟩ hl a0 m ka0 hpre (fun r hp => zRet_to hF (fun t hw hf => ⟨⟨r, m, rfl, ⟨rfl, hp⟩, hw⟩, hf.1, by rw [← hA]; exact hf.2⟩))
abbrev rm_X6_oldGrid : Room := { frames := 0, cells := 0, slots := 0, locals := 0 }
def Con_X6_oldGrid (l : Launch) (G : zG) (Pre : Nat → zM → Prop) (Post : Nat → zM → zM → Prop) : Prop := ∀ (a0 : Nat) (m : zM), zK G a0 = some (6, a0) → Pre a0 m → Met l yX6_oldGrid wsX6_oldGrid rm_X6_oldGrid (va_Pc [.ref a0] (fun U => zW G m U)) (va_Qv (fun m' => Post a0 m m') (fun m' t => zW G m' t) (zdom G)) 0 0 (zdom G)
def St_X6_oldGrid (C : zC) (G : zG) (Qc : Array Value → State → Outcome → State → Prop) : Prop := zF C G cX6_oldGrid 2 wsX6_oldGrid RX6 ∧ zQm C Qc none 0 0 ∧ zRm C = rm_X6_oldGrid
def Pt_X6_oldGrid_0 (C : zC) (G : zG) (a0 : Nat) (m : zM) : Prop := zX C 2 0 0 0 [(0, .ref a0)] [] (zPic G m)
def Pt_X6_oldGrid_12 (C : zC) (G : zG) (a0 : Nat) (x1 : Int32) (m : zM) : Prop := zX C 2 0 0 12 [(0, .ref a0), (1, .int x1)] [] (zPic G m)
def Pt_X6_oldGrid_62 (C : zC) (G : zG) (a0 : Nat) (x1 : Int32) (m : zM) : Prop := zX C 2 0 0 62 [(0, .ref a0), (1, .int x1)] [] (zPic G m)
set_option maxRecDepth 100000 in
theorem con_X6_oldGrid {l : Launch} {G : zG} (hL : zLay G) {Pre : Nat → zM → Prop} {Post : Nat → zM → zM → Prop} (h : ∀ (C : zC) (Qc : Array Value → State → Outcome → State → Prop), St_X6_oldGrid C G Qc → zl C = l → ∀ (a0 : Nat) (m : zM), zK G a0 = some (6, a0) → Pre a0 m → (∀ (m' : zM), Post a0 m m' → zRet C G Qc none m') → Pt_X6_oldGrid_0 C G a0 m) : Con_X6_oldGrid l G Pre Post := by
  intro a0 m ka0 hpre
  refine zMetD hL (by decide +kernel) rfl (Nat.le_of_ble_eq_true rfl) (fun C hF hQ hA hR hl hnm => ?_)
  exact h C _ ⟨hF, hQ, hR⟩ hl a0 m ka0 hpre (fun m' hp => zRet_to hF (fun t hw hf => ⟨⟨m', rfl, hp, hw⟩, hf.1, by rw [← hA]; exact hf.2⟩))
abbrev rm_X6_grid : Room := { frames := 7, cells := 0, slots := 0, locals := 175 }
def Con_X6_grid (l : Launch) (G : zG) (Pre : Nat → zM → Prop) (Post : Nat → zM → Int32 → zM → Prop) : Prop := ∀ (a0 : Nat) (m : zM), zK G a0 = some (6, a0) → Pre a0 m → Met l yX6_grid wsX6_grid rm_X6_grid (va_Pc [.ref a0] (fun U => zW G m U)) (va_Qi (fun r m' => Post a0 m r m') (fun m' t => zW G m' t) (zdom G)) 0 0 (zdom G)
def St_X6_grid (C : zC) (G : zG) (Qc : Array Value → State → Outcome → State → Prop) : Prop := zF C G cX6_grid 2 wsX6_grid RX6 ∧ zQm C Qc (some .int) 0 0 ∧ zRm C = rm_X6_grid
def Pt_X6_grid_0 (C : zC) (G : zG) (a0 : Nat) (m : zM) : Prop := zX C 2 0 0 0 [(0, .ref a0)] [] (zPic G m)
def Pt_X6_grid_74 (C : zC) (G : zG) (a0 : Nat) (x1 : Int32) (m : zM) : Prop := zX C 2 0 0 74 [(0, .ref a0), (1, .int x1)] [] (zPic G m)
def Pt_X6_grid_93 (C : zC) (G : zG) (a0 : Nat) (x1 : Int32) (m : zM) : Prop := zX C 2 0 0 93 [(0, .ref a0), (1, .int x1)] [] (zPic G m)
set_option maxRecDepth 100000 in
theorem con_X6_grid {l : Launch} {G : zG} (hL : zLay G) {Pre : Nat → zM → Prop} {Post : Nat → zM → Int32 → zM → Prop} (h : ∀ (C : zC) (Qc : Array Value → State → Outcome → State → Prop), St_X6_grid C G Qc → zl C = l → ∀ (a0 : Nat) (m : zM), zK G a0 = some (6, a0) → Pre a0 m → (∀ (r : Int32) (m' : zM), Post a0 m r m' → zRet C G Qc (some (.int r)) m') → Pt_X6_grid_0 C G a0 m) : Con_X6_grid l G Pre Post := by
  intro a0 m ka0 hpre
  refine zMetD hL (by decide +kernel) rfl (Nat.le_of_ble_eq_true rfl) (fun C hF hQ hA hR hl hnm => ?_)
  exact h C _ ⟨hF, hQ, hR⟩ hl a0 m ka0 hpre (fun r m' hp => zRet_to hF (fun t hw hf => ⟨⟨r, m', rfl, hp, hw⟩, hf.1, by rw [← hA]; exact hf.2⟩))
abbrev rm_X6_fault : Room := { frames := 0, cells := 0, slots := 0, locals := 0 }
def Con_X6_fault (l : Launch) (G : zG) (Pre : Nat → Int32 → zM → Prop) (Post : Nat → Int32 → zM → Int32 → zM → Prop) : Prop := ∀ (a0 : Nat) (x1 : Int32) (m : zM), zK G a0 = some (6, a0) → Pre a0 x1 m → Met l yX6_fault wsX6_fault rm_X6_fault (va_Pc [.ref a0, .int x1] (fun U => zW G m U)) (va_Qi (fun r m' => Post a0 x1 m r m') (fun m' t => zW G m' t) (zdom G)) 0 0 (zdom G)
def St_X6_fault (C : zC) (G : zG) (Qc : Array Value → State → Outcome → State → Prop) : Prop := zF C G cX6_fault 2 wsX6_fault RX6 ∧ zQm C Qc (some .int) 0 0 ∧ zRm C = rm_X6_fault
def Pt_X6_fault_0 (C : zC) (G : zG) (a0 : Nat) (x1 : Int32) (m : zM) : Prop := zX C 2 0 0 0 [(0, .ref a0), (1, .int x1)] [] (zPic G m)
set_option maxRecDepth 100000 in
theorem con_X6_fault {l : Launch} {G : zG} (hL : zLay G) {Pre : Nat → Int32 → zM → Prop} {Post : Nat → Int32 → zM → Int32 → zM → Prop} (h : ∀ (C : zC) (Qc : Array Value → State → Outcome → State → Prop), St_X6_fault C G Qc → zl C = l → ∀ (a0 : Nat) (x1 : Int32) (m : zM), zK G a0 = some (6, a0) → Pre a0 x1 m → (∀ (r : Int32) (m' : zM), Post a0 x1 m r m' → zRet C G Qc (some (.int r)) m') → Pt_X6_fault_0 C G a0 x1 m) : Con_X6_fault l G Pre Post := by
  intro a0 x1 m ka0 hpre
  refine zMetD hL (by decide +kernel) rfl (Nat.le_of_ble_eq_true rfl) (fun C hF hQ hA hR hl hnm => ?_)
  exact h C _ ⟨hF, hQ, hR⟩ hl a0 x1 m ka0 hpre (fun r m' hp => zRet_to hF (fun t hw hf => ⟨⟨r, m', rfl, hp, hw⟩, hf.1, by rw [← hA]; exact hf.2⟩))
abbrev rm_X6_canBe : Room := { frames := 1, cells := 0, slots := 0, locals := 22 }
def Con_X6_canBe (l : Launch) (G : zG) (Pre : Int32 → Int32 → Int32 → Int32 → zM → Prop) (Post : Int32 → Int32 → Int32 → Int32 → zM → Int32 → Prop) : Prop := ∀ (x0 x1 x2 x3 : Int32) (m : zM), Pre x0 x1 x2 x3 m → Met l yX6_canBe wsX6_canBe rm_X6_canBe (va_Pc [.int x0, .int x1, .int x2, .int x3] (fun U => zW G m U)) (va_Qi (fun r m' => m' = m ∧ Post x0 x1 x2 x3 m r) (fun m' t => zW G m' t) (zdom G)) 0 0 (zdom G)
def St_X6_canBe (C : zC) (G : zG) (Qc : Array Value → State → Outcome → State → Prop) : Prop := zF C G cX6_canBe 4 wsX6_canBe RX6 ∧ zQm C Qc (some .boolean) 0 0 ∧ zRm C = rm_X6_canBe
def Pt_X6_canBe_0 (C : zC) (G : zG) (x0 x1 x2 x3 : Int32) (m : zM) : Prop := zX C 4 0 0 0 [(0, .int x0), (1, .int x1), (2, .int x2), (3, .int x3)] [] (zPic G m)
set_option maxRecDepth 100000 in
theorem con_X6_canBe {l : Launch} {G : zG} (hL : zLay G) {Pre : Int32 → Int32 → Int32 → Int32 → zM → Prop} {Post : Int32 → Int32 → Int32 → Int32 → zM → Int32 → Prop} (h : ∀ (C : zC) (Qc : Array Value → State → Outcome → State → Prop), St_X6_canBe C G Qc → zl C = l → ∀ (x0 x1 x2 x3 : Int32) (m : zM), Pre x0 x1 x2 x3 m → (∀ (r : Int32), Post x0 x1 x2 x3 m r → zRet C G Qc (some (.int r)) m) → Pt_X6_canBe_0 C G x0 x1 x2 x3 m) : Con_X6_canBe l G Pre Post := by
  intro x0 x1 x2 x3 m  hpre
  refine zMetD hL (by decide +kernel) rfl (Nat.le_of_ble_eq_true rfl) (fun C hF hQ hA hR hl hnm => ?_)
  exact h C _ ⟨hF, hQ, hR⟩ hl x0 x1 x2 x3 m  hpre (fun r hp => zRet_to hF (fun t hw hf => ⟨⟨r, m, rfl, ⟨rfl, hp⟩, hw⟩, hf.1, by rw [← hA]; exact hf.2⟩))
abbrev rm_X6_claim : Room := { frames := 7, cells := 0, slots := 0, locals := 175 }
def Con_X6_claim (l : Launch) (G : zG) (Pre : Nat → Int32 → Int32 → Int32 → Int32 → Int32 → zM → Prop) (Post : Nat → Int32 → Int32 → Int32 → Int32 → Int32 → zM → Int32 → zM → Prop) : Prop := ∀ (a0 : Nat) (x1 x2 x3 x4 x5 : Int32) (m : zM), zK G a0 = some (6, a0) → Pre a0 x1 x2 x3 x4 x5 m → Met l yX6_claim wsX6_claim rm_X6_claim (va_Pc [.ref a0, .int x1, .int x2, .int x3, .int x4, .int x5] (fun U => zW G m U)) (va_Qi (fun r m' => Post a0 x1 x2 x3 x4 x5 m r m') (fun m' t => zW G m' t) (zdom G)) 0 0 (zdom G)
def St_X6_claim (C : zC) (G : zG) (Qc : Array Value → State → Outcome → State → Prop) : Prop := zF C G cX6_claim 8 wsX6_claim RX6 ∧ zQm C Qc (some .int) 0 0 ∧ zRm C = rm_X6_claim
def Pt_X6_claim_0 (C : zC) (G : zG) (a0 : Nat) (x1 x2 x3 x4 x5 : Int32) (m : zM) : Prop := zX C 8 0 0 0 [(0, .ref a0), (1, .int x1), (2, .int x2), (3, .int x3), (4, .int x4), (5, .int x5)] [] (zPic G m)
def Pt_X6_claim_125 (C : zC) (G : zG) (a0 : Nat) (x6 x7 : Int32) (m : zM) : Prop := zX C 8 0 0 125 [(0, .ref a0), (6, .int x6), (7, .int x7)] [] (zPic G m)
set_option maxRecDepth 100000 in
theorem con_X6_claim {l : Launch} {G : zG} (hL : zLay G) {Pre : Nat → Int32 → Int32 → Int32 → Int32 → Int32 → zM → Prop} {Post : Nat → Int32 → Int32 → Int32 → Int32 → Int32 → zM → Int32 → zM → Prop} (h : ∀ (C : zC) (Qc : Array Value → State → Outcome → State → Prop), St_X6_claim C G Qc → zl C = l → ∀ (a0 : Nat) (x1 x2 x3 x4 x5 : Int32) (m : zM), zK G a0 = some (6, a0) → Pre a0 x1 x2 x3 x4 x5 m → (∀ (r : Int32) (m' : zM), Post a0 x1 x2 x3 x4 x5 m r m' → zRet C G Qc (some (.int r)) m') → Pt_X6_claim_0 C G a0 x1 x2 x3 x4 x5 m) : Con_X6_claim l G Pre Post := by
  intro a0 x1 x2 x3 x4 x5 m ka0 hpre
  refine zMetD hL (by decide +kernel) rfl (Nat.le_of_ble_eq_true rfl) (fun C hF hQ hA hR hl hnm => ?_)
  exact h C _ ⟨hF, hQ, hR⟩ hl a0 x1 x2 x3 x4 x5 m ka0 hpre (fun r m' hp => zRet_to hF (fun t hw hf => ⟨⟨r, m', rfl, hp, hw⟩, hf.1, by rw [← hA]; exact hf.2⟩))
abbrev rm_X6_paper : Room := { frames := 3, cells := 0, slots := 0, locals := 65 }
def Con_X6_paper (l : Launch) (G : zG) (Pre : Nat → Int32 → Int32 → zM → Prop) (Post : Nat → Int32 → Int32 → zM → Int32 → zM → Prop) : Prop := ∀ (a0 : Nat) (x1 x2 : Int32) (m : zM), zK G a0 = some (6, a0) → Pre a0 x1 x2 m → Met l yX6_paper wsX6_paper rm_X6_paper (va_Pc [.ref a0, .int x1, .int x2] (fun U => zW G m U)) (va_Qi (fun r m' => Post a0 x1 x2 m r m') (fun m' t => zW G m' t) (zdom G)) 0 0 (zdom G)
def St_X6_paper (C : zC) (G : zG) (Qc : Array Value → State → Outcome → State → Prop) : Prop := zF C G cX6_paper 3 wsX6_paper RX6 ∧ zQm C Qc (some .boolean) 0 0 ∧ zRm C = rm_X6_paper
def Pt_X6_paper_0 (C : zC) (G : zG) (a0 : Nat) (x1 x2 : Int32) (m : zM) : Prop := zX C 3 0 0 0 [(0, .ref a0), (1, .int x1), (2, .int x2)] [] (zPic G m)
set_option maxRecDepth 100000 in
theorem con_X6_paper {l : Launch} {G : zG} (hL : zLay G) {Pre : Nat → Int32 → Int32 → zM → Prop} {Post : Nat → Int32 → Int32 → zM → Int32 → zM → Prop} (h : ∀ (C : zC) (Qc : Array Value → State → Outcome → State → Prop), St_X6_paper C G Qc → zl C = l → ∀ (a0 : Nat) (x1 x2 : Int32) (m : zM), zK G a0 = some (6, a0) → Pre a0 x1 x2 m → (∀ (r : Int32) (m' : zM), Post a0 x1 x2 m r m' → zRet C G Qc (some (.int r)) m') → Pt_X6_paper_0 C G a0 x1 x2 m) : Con_X6_paper l G Pre Post := by
  intro a0 x1 x2 m ka0 hpre
  refine zMetD hL (by decide +kernel) rfl (Nat.le_of_ble_eq_true rfl) (fun C hF hQ hA hR hl hnm => ?_)
  exact h C _ ⟨hF, hQ, hR⟩ hl a0 x1 x2 m ka0 hpre (fun r m' hp => zRet_to hF (fun t hw hf => ⟨⟨r, m', rfl, hp, hw⟩, hf.1, by rw [← hA]; exact hf.2⟩))
abbrev rm_X6_twins : Room := { frames := 1, cells := 0, slots := 0, locals := 22 }
def Con_X6_twins (l : Launch) (G : zG) (Pre : Nat → Int32 → Int32 → zM → Prop) (Post : Nat → Int32 → Int32 → zM → Int32 → Prop) : Prop := ∀ (a0 : Nat) (x1 x2 : Int32) (m : zM), zK G a0 = some (6, a0) → Pre a0 x1 x2 m → Met l yX6_twins wsX6_twins rm_X6_twins (va_Pc [.ref a0, .int x1, .int x2] (fun U => zW G m U)) (va_Qi (fun r m' => m' = m ∧ Post a0 x1 x2 m r) (fun m' t => zW G m' t) (zdom G)) 0 0 (zdom G)
def St_X6_twins (C : zC) (G : zG) (Qc : Array Value → State → Outcome → State → Prop) : Prop := zF C G cX6_twins 5 wsX6_twins RX6 ∧ zQm C Qc (some .int) 0 0 ∧ zRm C = rm_X6_twins
def Pt_X6_twins_0 (C : zC) (G : zG) (a0 : Nat) (x1 x2 : Int32) (m : zM) : Prop := zX C 5 0 0 0 [(0, .ref a0), (1, .int x1), (2, .int x2)] [] (zPic G m)
def Pt_X6_twins_5 (C : zC) (G : zG) (a0 : Nat) (x1 x2 x3 x4 : Int32) (m : zM) : Prop := zX C 5 0 0 5 [(0, .ref a0), (1, .int x1), (2, .int x2), (3, .int x3), (4, .int x4)] [] (zPic G m)
set_option maxRecDepth 100000 in
theorem con_X6_twins {l : Launch} {G : zG} (hL : zLay G) {Pre : Nat → Int32 → Int32 → zM → Prop} {Post : Nat → Int32 → Int32 → zM → Int32 → Prop} (h : ∀ (C : zC) (Qc : Array Value → State → Outcome → State → Prop), St_X6_twins C G Qc → zl C = l → ∀ (a0 : Nat) (x1 x2 : Int32) (m : zM), zK G a0 = some (6, a0) → Pre a0 x1 x2 m → (∀ (r : Int32), Post a0 x1 x2 m r → zRet C G Qc (some (.int r)) m) → Pt_X6_twins_0 C G a0 x1 x2 m) : Con_X6_twins l G Pre Post := by
  intro a0 x1 x2 m ka0 hpre
  refine zMetD hL (by decide +kernel) rfl (Nat.le_of_ble_eq_true rfl) (fun C hF hQ hA hR hl hnm => ?_)
  exact h C _ ⟨hF, hQ, hR⟩ hl a0 x1 x2 m ka0 hpre (fun r hp => zRet_to hF (fun t hw hf => ⟨⟨r, m, rfl, ⟨rfl, hp⟩, hw⟩, hf.1, by rw [← hA]; exact hf.2⟩))
abbrev rm_X6_judge : Room := { frames := 4, cells := 0, slots := 0, locals := 105 }
def Con_X6_judge (l : Launch) (G : zG) (Pre : Nat → Int32 → zM → Prop) (Post : Nat → Int32 → zM → Int32 → zM → Prop) : Prop := ∀ (a0 : Nat) (x1 : Int32) (m : zM), zK G a0 = some (6, a0) → Pre a0 x1 m → Met l yX6_judge wsX6_judge rm_X6_judge (va_Pc [.ref a0, .int x1] (fun U => zW G m U)) (va_Qi (fun r m' => Post a0 x1 m r m') (fun m' t => zW G m' t) (zdom G)) 0 0 (zdom G)
def St_X6_judge (C : zC) (G : zG) (Qc : Array Value → State → Outcome → State → Prop) : Prop := zF C G cX6_judge 2 wsX6_judge RX6 ∧ zQm C Qc (some .int) 0 0 ∧ zRm C = rm_X6_judge
def Pt_X6_judge_0 (C : zC) (G : zG) (a0 : Nat) (x1 : Int32) (m : zM) : Prop := zX C 2 0 0 0 [(0, .ref a0), (1, .int x1)] [] (zPic G m)
set_option maxRecDepth 100000 in
theorem con_X6_judge {l : Launch} {G : zG} (hL : zLay G) {Pre : Nat → Int32 → zM → Prop} {Post : Nat → Int32 → zM → Int32 → zM → Prop} (h : ∀ (C : zC) (Qc : Array Value → State → Outcome → State → Prop), St_X6_judge C G Qc → zl C = l → ∀ (a0 : Nat) (x1 : Int32) (m : zM), zK G a0 = some (6, a0) → Pre a0 x1 m → (∀ (r : Int32) (m' : zM), Post a0 x1 m r m' → zRet C G Qc (some (.int r)) m') → Pt_X6_judge_0 C G a0 x1 m) : Con_X6_judge l G Pre Post := by
  intro a0 x1 m ka0 hpre
  refine zMetD hL (by decide +kernel) rfl (Nat.le_of_ble_eq_true rfl) (fun C hF hQ hA hR hl hnm => ?_)
  exact h C _ ⟨hF, hQ, hR⟩ hl a0 x1 m ka0 hpre (fun r m' hp => zRet_to hF (fun t hw hf => ⟨⟨r, m', rfl, hp, hw⟩, hf.1, by rw [← hA]; exact hf.2⟩))
abbrev rm_X6_appeal : Room := { frames := 7, cells := 0, slots := 0, locals := 175 }
def Con_X6_appeal (l : Launch) (G : zG) (Pre : Nat → Int32 → Int32 → zM → Prop) (Post : Nat → Int32 → Int32 → zM → Int32 → zM → Prop) : Prop := ∀ (a0 : Nat) (x1 x2 : Int32) (m : zM), zK G a0 = some (6, a0) → Pre a0 x1 x2 m → Met l yX6_appeal wsX6_appeal rm_X6_appeal (va_Pc [.ref a0, .int x1, .int x2] (fun U => zW G m U)) (va_Qi (fun r m' => Post a0 x1 x2 m r m') (fun m' t => zW G m' t) (zdom G)) 0 0 (zdom G)
def St_X6_appeal (C : zC) (G : zG) (Qc : Array Value → State → Outcome → State → Prop) : Prop := zF C G cX6_appeal 4 wsX6_appeal RX6 ∧ zQm C Qc (some .boolean) 0 0 ∧ zRm C = rm_X6_appeal
def Pt_X6_appeal_0 (C : zC) (G : zG) (a0 : Nat) (x1 x2 : Int32) (m : zM) : Prop := zX C 4 0 0 0 [(0, .ref a0), (1, .int x1), (2, .int x2)] [] (zPic G m)
set_option maxRecDepth 100000 in
theorem con_X6_appeal {l : Launch} {G : zG} (hL : zLay G) {Pre : Nat → Int32 → Int32 → zM → Prop} {Post : Nat → Int32 → Int32 → zM → Int32 → zM → Prop} (h : ∀ (C : zC) (Qc : Array Value → State → Outcome → State → Prop), St_X6_appeal C G Qc → zl C = l → ∀ (a0 : Nat) (x1 x2 : Int32) (m : zM), zK G a0 = some (6, a0) → Pre a0 x1 x2 m → (∀ (r : Int32) (m' : zM), Post a0 x1 x2 m r m' → zRet C G Qc (some (.int r)) m') → Pt_X6_appeal_0 C G a0 x1 x2 m) : Con_X6_appeal l G Pre Post := by
  intro a0 x1 x2 m ka0 hpre
  refine zMetD hL (by decide +kernel) rfl (Nat.le_of_ble_eq_true rfl) (fun C hF hQ hA hR hl hnm => ?_)
  exact h C _ ⟨hF, hQ, hR⟩ hl a0 x1 x2 m ka0 hpre (fun r m' hp => zRet_to hF (fun t hw hf => ⟨⟨r, m', rfl, hp, hw⟩, hf.1, by rw [← hA]; exact hf.2⟩))
abbrev rm_X6_out : Room := { frames := 7, cells := 0, slots := 0, locals := 175 }
def Con_X6_out (l : Launch) (G : zG) (Pre : Nat → Int32 → Int32 → zM → Prop) (Post : Nat → Int32 → Int32 → zM → Int32 → zM → Prop) : Prop := ∀ (a0 : Nat) (x1 x2 : Int32) (m : zM), zK G a0 = some (6, a0) → Pre a0 x1 x2 m → Met l yX6_out wsX6_out rm_X6_out (va_Pc [.ref a0, .int x1, .int x2] (fun U => zW G m U)) (va_Qi (fun r m' => Post a0 x1 x2 m r m') (fun m' t => zW G m' t) (zdom G)) 0 0 (zdom G)
def St_X6_out (C : zC) (G : zG) (Qc : Array Value → State → Outcome → State → Prop) : Prop := zF C G cX6_out 4 wsX6_out RX6 ∧ zQm C Qc (some .boolean) 0 0 ∧ zRm C = rm_X6_out
def Pt_X6_out_0 (C : zC) (G : zG) (a0 : Nat) (x1 x2 : Int32) (m : zM) : Prop := zX C 4 0 0 0 [(0, .ref a0), (1, .int x1), (2, .int x2)] [] (zPic G m)
def Pt_X6_out_71 (C : zC) (G : zG) (a0 : Nat) (x1 x3 s0 s1 : Int32) (m : zM) : Prop := zX C 4 0 0 71 [(0, .ref a0), (1, .int x1), (3, .int x3)] [.int s0, .int s1, .ref (a0 + 9)] (zPic G m)
set_option maxRecDepth 100000 in
theorem con_X6_out {l : Launch} {G : zG} (hL : zLay G) {Pre : Nat → Int32 → Int32 → zM → Prop} {Post : Nat → Int32 → Int32 → zM → Int32 → zM → Prop} (h : ∀ (C : zC) (Qc : Array Value → State → Outcome → State → Prop), St_X6_out C G Qc → zl C = l → ∀ (a0 : Nat) (x1 x2 : Int32) (m : zM), zK G a0 = some (6, a0) → Pre a0 x1 x2 m → (∀ (r : Int32) (m' : zM), Post a0 x1 x2 m r m' → zRet C G Qc (some (.int r)) m') → Pt_X6_out_0 C G a0 x1 x2 m) : Con_X6_out l G Pre Post := by
  intro a0 x1 x2 m ka0 hpre
  refine zMetD hL (by decide +kernel) rfl (Nat.le_of_ble_eq_true rfl) (fun C hF hQ hA hR hl hnm => ?_)
  exact h C _ ⟨hF, hQ, hR⟩ hl a0 x1 x2 m ka0 hpre (fun r m' hp => zRet_to hF (fun t hw hf => ⟨⟨r, m', rfl, hp, hw⟩, hf.1, by rw [← hA]; exact hf.2⟩))
abbrev rm_X6_points : Room := { frames := 3, cells := 0, slots := 0, locals := 83 }
def Con_X6_points (l : Launch) (G : zG) (Pre : Nat → Int32 → Int32 → Int32 → Int32 → zM → Prop) (Post : Nat → Int32 → Int32 → Int32 → Int32 → zM → Int32 → zM → Prop) : Prop := ∀ (a0 : Nat) (x1 x2 x3 x4 : Int32) (m : zM), zK G a0 = some (6, a0) → Pre a0 x1 x2 x3 x4 m → Met l yX6_points wsX6_points rm_X6_points (va_Pc [.ref a0, .int x1, .int x2, .int x3, .int x4] (fun U => zW G m U)) (va_Qi (fun r m' => Post a0 x1 x2 x3 x4 m r m') (fun m' t => zW G m' t) (zdom G)) 0 0 (zdom G)
def St_X6_points (C : zC) (G : zG) (Qc : Array Value → State → Outcome → State → Prop) : Prop := zF C G cX6_points 5 wsX6_points RX6 ∧ zQm C Qc (some .int) 0 0 ∧ zRm C = rm_X6_points
def Pt_X6_points_0 (C : zC) (G : zG) (a0 : Nat) (x1 x2 x3 x4 : Int32) (m : zM) : Prop := zX C 5 0 0 0 [(0, .ref a0), (1, .int x1), (2, .int x2), (3, .int x3), (4, .int x4)] [] (zPic G m)
set_option maxRecDepth 100000 in
theorem con_X6_points {l : Launch} {G : zG} (hL : zLay G) {Pre : Nat → Int32 → Int32 → Int32 → Int32 → zM → Prop} {Post : Nat → Int32 → Int32 → Int32 → Int32 → zM → Int32 → zM → Prop} (h : ∀ (C : zC) (Qc : Array Value → State → Outcome → State → Prop), St_X6_points C G Qc → zl C = l → ∀ (a0 : Nat) (x1 x2 x3 x4 : Int32) (m : zM), zK G a0 = some (6, a0) → Pre a0 x1 x2 x3 x4 m → (∀ (r : Int32) (m' : zM), Post a0 x1 x2 x3 x4 m r m' → zRet C G Qc (some (.int r)) m') → Pt_X6_points_0 C G a0 x1 x2 x3 x4 m) : Con_X6_points l G Pre Post := by
  intro a0 x1 x2 x3 x4 m ka0 hpre
  refine zMetD hL (by decide +kernel) rfl (Nat.le_of_ble_eq_true rfl) (fun C hF hQ hA hR hl hnm => ?_)
  exact h C _ ⟨hF, hQ, hR⟩ hl a0 x1 x2 x3 x4 m ka0 hpre (fun r m' hp => zRet_to hF (fun t hw hf => ⟨⟨r, m', rfl, hp, hw⟩, hf.1, by rw [← hA]; exact hf.2⟩))
abbrev rm_X6_lacks : Room := { frames := 4, cells := 0, slots := 0, locals := 105 }
def Con_X6_lacks (l : Launch) (G : zG) (Pre : Nat → Int32 → Int32 → zM → Prop) (Post : Nat → Int32 → Int32 → zM → Int32 → zM → Prop) : Prop := ∀ (a0 : Nat) (x1 x2 : Int32) (m : zM), zK G a0 = some (6, a0) → Pre a0 x1 x2 m → Met l yX6_lacks wsX6_lacks rm_X6_lacks (va_Pc [.ref a0, .int x1, .int x2] (fun U => zW G m U)) (va_Qi (fun r m' => Post a0 x1 x2 m r m') (fun m' t => zW G m' t) (zdom G)) 0 0 (zdom G)
def St_X6_lacks (C : zC) (G : zG) (Qc : Array Value → State → Outcome → State → Prop) : Prop := zF C G cX6_lacks 3 wsX6_lacks RX6 ∧ zQm C Qc (some .int) 0 0 ∧ zRm C = rm_X6_lacks
def Pt_X6_lacks_0 (C : zC) (G : zG) (a0 : Nat) (x1 x2 : Int32) (m : zM) : Prop := zX C 3 0 0 0 [(0, .ref a0), (1, .int x1), (2, .int x2)] [] (zPic G m)
set_option maxRecDepth 100000 in
theorem con_X6_lacks {l : Launch} {G : zG} (hL : zLay G) {Pre : Nat → Int32 → Int32 → zM → Prop} {Post : Nat → Int32 → Int32 → zM → Int32 → zM → Prop} (h : ∀ (C : zC) (Qc : Array Value → State → Outcome → State → Prop), St_X6_lacks C G Qc → zl C = l → ∀ (a0 : Nat) (x1 x2 : Int32) (m : zM), zK G a0 = some (6, a0) → Pre a0 x1 x2 m → (∀ (r : Int32) (m' : zM), Post a0 x1 x2 m r m' → zRet C G Qc (some (.int r)) m') → Pt_X6_lacks_0 C G a0 x1 x2 m) : Con_X6_lacks l G Pre Post := by
  intro a0 x1 x2 m ka0 hpre
  refine zMetD hL (by decide +kernel) rfl (Nat.le_of_ble_eq_true rfl) (fun C hF hQ hA hR hl hnm => ?_)
  exact h C _ ⟨hF, hQ, hR⟩ hl a0 x1 x2 m ka0 hpre (fun r m' hp => zRet_to hF (fun t hw hf => ⟨⟨r, m', rfl, hp, hw⟩, hf.1, by rw [← hA]; exact hf.2⟩))
abbrev rm_X6_tell : Room := { frames := 5, cells := 0, slots := 0, locals := 129 }
def Con_X6_tell (l : Launch) (G : zG) (Pre : Nat → Int32 → Int32 → zM → Prop) (Post : Nat → Int32 → Int32 → zM → Int32 → zM → Prop) : Prop := ∀ (a0 : Nat) (x1 x2 : Int32) (m : zM), zK G a0 = some (6, a0) → Pre a0 x1 x2 m → Met l yX6_tell wsX6_tell rm_X6_tell (va_Pc [.ref a0, .int x1, .int x2] (fun U => zW G m U)) (va_Qi (fun r m' => Post a0 x1 x2 m r m') (fun m' t => zW G m' t) (zdom G)) 0 0 (zdom G)
def St_X6_tell (C : zC) (G : zG) (Qc : Array Value → State → Outcome → State → Prop) : Prop := zF C G cX6_tell 3 wsX6_tell RX6 ∧ zQm C Qc (some .int) 0 0 ∧ zRm C = rm_X6_tell
def Pt_X6_tell_0 (C : zC) (G : zG) (a0 : Nat) (x1 x2 : Int32) (m : zM) : Prop := zX C 3 0 0 0 [(0, .ref a0), (1, .int x1), (2, .int x2)] [] (zPic G m)
set_option maxRecDepth 100000 in
theorem con_X6_tell {l : Launch} {G : zG} (hL : zLay G) {Pre : Nat → Int32 → Int32 → zM → Prop} {Post : Nat → Int32 → Int32 → zM → Int32 → zM → Prop} (h : ∀ (C : zC) (Qc : Array Value → State → Outcome → State → Prop), St_X6_tell C G Qc → zl C = l → ∀ (a0 : Nat) (x1 x2 : Int32) (m : zM), zK G a0 = some (6, a0) → Pre a0 x1 x2 m → (∀ (r : Int32) (m' : zM), Post a0 x1 x2 m r m' → zRet C G Qc (some (.int r)) m') → Pt_X6_tell_0 C G a0 x1 x2 m) : Con_X6_tell l G Pre Post := by
  intro a0 x1 x2 m ka0 hpre
  refine zMetD hL (by decide +kernel) rfl (Nat.le_of_ble_eq_true rfl) (fun C hF hQ hA hR hl hnm => ?_)
  exact h C _ ⟨hF, hQ, hR⟩ hl a0 x1 x2 m ka0 hpre (fun r m' hp => zRet_to hF (fun t hw hf => ⟨⟨r, m', rfl, hp, hw⟩, hf.1, by rw [← hA]; exact hf.2⟩))
abbrev rm_X6_sumOf : Room := { frames := 1, cells := 0, slots := 0, locals := 22 }
def Con_X6_sumOf (l : Launch) (G : zG) (Pre : Nat → Int32 → Int32 → zM → Prop) (Post : Nat → Int32 → Int32 → zM → Int64 → Prop) : Prop := ∀ (a0 : Nat) (x1 x2 : Int32) (m : zM), zK G a0 = some (6, a0) → Pre a0 x1 x2 m → Met l yX6_sumOf wsX6_sumOf rm_X6_sumOf (va_Pc [.ref a0, .int x1, .int x2] (fun U => zW G m U)) (va_Ql (fun r m' => m' = m ∧ Post a0 x1 x2 m r) (fun m' t => zW G m' t) (zdom G)) 0 0 (zdom G)
def St_X6_sumOf (C : zC) (G : zG) (Qc : Array Value → State → Outcome → State → Prop) : Prop := zF C G cX6_sumOf 6 wsX6_sumOf RX6 ∧ zQm C Qc (some .long) 0 0 ∧ zRm C = rm_X6_sumOf
def Pt_X6_sumOf_0 (C : zC) (G : zG) (a0 : Nat) (x1 x2 : Int32) (m : zM) : Prop := zX C 6 0 0 0 [(0, .ref a0), (1, .int x1), (2, .int x2)] [] (zPic G m)
def Pt_X6_sumOf_5 (C : zC) (G : zG) (a0 : Nat) (x1 x2 : Int32) (l3 : Int64) (x5 : Int32) (m : zM) : Prop := zX C 6 0 0 5 [(0, .ref a0), (1, .int x1), (2, .int x2), (3, .long l3), (5, .int x5)] [] (zPic G m)
def Pt_X6_sumOf_29 (C : zC) (G : zG) (a0 : Nat) (x1 x2 : Int32) (l3 : Int64) (x5 s0 s1 : Int32) (m : zM) : Prop := zX C 6 0 0 29 [(0, .ref a0), (1, .int x1), (2, .int x2), (3, .long l3), (5, .int x5)] [.int s0, .int s1] (zPic G m)
set_option maxRecDepth 100000 in
theorem con_X6_sumOf {l : Launch} {G : zG} (hL : zLay G) {Pre : Nat → Int32 → Int32 → zM → Prop} {Post : Nat → Int32 → Int32 → zM → Int64 → Prop} (h : ∀ (C : zC) (Qc : Array Value → State → Outcome → State → Prop), St_X6_sumOf C G Qc → zl C = l → ∀ (a0 : Nat) (x1 x2 : Int32) (m : zM), zK G a0 = some (6, a0) → Pre a0 x1 x2 m → (∀ (r : Int64), Post a0 x1 x2 m r → zRet C G Qc (some (.long r)) m) → Pt_X6_sumOf_0 C G a0 x1 x2 m) : Con_X6_sumOf l G Pre Post := by
  intro a0 x1 x2 m ka0 hpre
  refine zMetD hL (by decide +kernel) rfl (Nat.le_of_ble_eq_true rfl) (fun C hF hQ hA hR hl hnm => ?_)
  exact h C _ ⟨hF, hQ, hR⟩ hl a0 x1 x2 m ka0 hpre (fun r hp => zRet_to hF (fun t hw hf => ⟨⟨r, m, rfl, ⟨rfl, hp⟩, hw⟩, hf.1, by rw [← hA]; exact hf.2⟩))
abbrev rm_X6_money : Room := { frames := 6, cells := 0, slots := 0, locals := 152 }
def Con_X6_money (l : Launch) (G : zG) (Pre : Nat → Int32 → Int32 → zM → Prop) (Post : Nat → Int32 → Int32 → zM → Int64 → zM → Prop) : Prop := ∀ (a0 : Nat) (x1 x2 : Int32) (m : zM), zK G a0 = some (6, a0) → Pre a0 x1 x2 m → Met l yX6_money wsX6_money rm_X6_money (va_Pc [.ref a0, .int x1, .int x2] (fun U => zW G m U)) (va_Ql (fun r m' => Post a0 x1 x2 m r m') (fun m' t => zW G m' t) (zdom G)) 0 0 (zdom G)
def St_X6_money (C : zC) (G : zG) (Qc : Array Value → State → Outcome → State → Prop) : Prop := zF C G cX6_money 3 wsX6_money RX6 ∧ zQm C Qc (some .long) 0 0 ∧ zRm C = rm_X6_money
def Pt_X6_money_0 (C : zC) (G : zG) (a0 : Nat) (x1 x2 : Int32) (m : zM) : Prop := zX C 3 0 0 0 [(0, .ref a0), (1, .int x1), (2, .int x2)] [] (zPic G m)
set_option maxRecDepth 100000 in
theorem con_X6_money {l : Launch} {G : zG} (hL : zLay G) {Pre : Nat → Int32 → Int32 → zM → Prop} {Post : Nat → Int32 → Int32 → zM → Int64 → zM → Prop} (h : ∀ (C : zC) (Qc : Array Value → State → Outcome → State → Prop), St_X6_money C G Qc → zl C = l → ∀ (a0 : Nat) (x1 x2 : Int32) (m : zM), zK G a0 = some (6, a0) → Pre a0 x1 x2 m → (∀ (r : Int64) (m' : zM), Post a0 x1 x2 m r m' → zRet C G Qc (some (.long r)) m') → Pt_X6_money_0 C G a0 x1 x2 m) : Con_X6_money l G Pre Post := by
  intro a0 x1 x2 m ka0 hpre
  refine zMetD hL (by decide +kernel) rfl (Nat.le_of_ble_eq_true rfl) (fun C hF hQ hA hR hl hnm => ?_)
  exact h C _ ⟨hF, hQ, hR⟩ hl a0 x1 x2 m ka0 hpre (fun r m' hp => zRet_to hF (fun t hw hf => ⟨⟨r, m', rfl, hp, hw⟩, hf.1, by rw [← hA]; exact hf.2⟩))
abbrev rm_X6_fee : Room := { frames := 2, cells := 0, slots := 0, locals := 43 }
def Con_X6_fee (l : Launch) (G : zG) (Pre : Nat → Int32 → Int32 → zM → Prop) (Post : Nat → Int32 → Int32 → zM → Int32 → zM → Prop) : Prop := ∀ (a0 : Nat) (x1 x2 : Int32) (m : zM), zK G a0 = some (6, a0) → Pre a0 x1 x2 m → Met l yX6_fee wsX6_fee rm_X6_fee (va_Pc [.ref a0, .int x1, .int x2] (fun U => zW G m U)) (va_Qi (fun r m' => Post a0 x1 x2 m r m') (fun m' t => zW G m' t) (zdom G)) 0 0 (zdom G)
def St_X6_fee (C : zC) (G : zG) (Qc : Array Value → State → Outcome → State → Prop) : Prop := zF C G cX6_fee 3 wsX6_fee RX6 ∧ zQm C Qc (some .boolean) 0 0 ∧ zRm C = rm_X6_fee
def Pt_X6_fee_0 (C : zC) (G : zG) (a0 : Nat) (x1 x2 : Int32) (m : zM) : Prop := zX C 3 0 0 0 [(0, .ref a0), (1, .int x1), (2, .int x2)] [] (zPic G m)
set_option maxRecDepth 100000 in
theorem con_X6_fee {l : Launch} {G : zG} (hL : zLay G) {Pre : Nat → Int32 → Int32 → zM → Prop} {Post : Nat → Int32 → Int32 → zM → Int32 → zM → Prop} (h : ∀ (C : zC) (Qc : Array Value → State → Outcome → State → Prop), St_X6_fee C G Qc → zl C = l → ∀ (a0 : Nat) (x1 x2 : Int32) (m : zM), zK G a0 = some (6, a0) → Pre a0 x1 x2 m → (∀ (r : Int32) (m' : zM), Post a0 x1 x2 m r m' → zRet C G Qc (some (.int r)) m') → Pt_X6_fee_0 C G a0 x1 x2 m) : Con_X6_fee l G Pre Post := by
  intro a0 x1 x2 m ka0 hpre
  refine zMetD hL (by decide +kernel) rfl (Nat.le_of_ble_eq_true rfl) (fun C hF hQ hA hR hl hnm => ?_)
  exact h C _ ⟨hF, hQ, hR⟩ hl a0 x1 x2 m ka0 hpre (fun r m' hp => zRet_to hF (fun t hw hf => ⟨⟨r, m', rfl, hp, hw⟩, hf.1, by rw [← hA]; exact hf.2⟩))
abbrev rm_X6_lien : Room := { frames := 2, cells := 0, slots := 0, locals := 43 }
def Con_X6_lien (l : Launch) (G : zG) (Pre : Nat → Int32 → Int32 → Int64 → zM → Prop) (Post : Nat → Int32 → Int32 → Int64 → zM → Int32 → zM → Prop) : Prop := ∀ (a0 : Nat) (x1 x2 : Int32) (l3 : Int64) (m : zM), zK G a0 = some (6, a0) → Pre a0 x1 x2 l3 m → Met l yX6_lien wsX6_lien rm_X6_lien (va_Pc [.ref a0, .int x1, .int x2, .long l3] (fun U => zW G m U)) (va_Qi (fun r m' => Post a0 x1 x2 l3 m r m') (fun m' t => zW G m' t) (zdom G)) 0 0 (zdom G)
def St_X6_lien (C : zC) (G : zG) (Qc : Array Value → State → Outcome → State → Prop) : Prop := zF C G cX6_lien 6 wsX6_lien RX6 ∧ zQm C Qc (some .int) 0 0 ∧ zRm C = rm_X6_lien
def Pt_X6_lien_0 (C : zC) (G : zG) (a0 : Nat) (x1 x2 : Int32) (l3 : Int64) (m : zM) : Prop := zX C 6 0 0 0 [(0, .ref a0), (1, .int x1), (2, .int x2), (3, .long l3)] [] (zPic G m)
set_option maxRecDepth 100000 in
theorem con_X6_lien {l : Launch} {G : zG} (hL : zLay G) {Pre : Nat → Int32 → Int32 → Int64 → zM → Prop} {Post : Nat → Int32 → Int32 → Int64 → zM → Int32 → zM → Prop} (h : ∀ (C : zC) (Qc : Array Value → State → Outcome → State → Prop), St_X6_lien C G Qc → zl C = l → ∀ (a0 : Nat) (x1 x2 : Int32) (l3 : Int64) (m : zM), zK G a0 = some (6, a0) → Pre a0 x1 x2 l3 m → (∀ (r : Int32) (m' : zM), Post a0 x1 x2 l3 m r m' → zRet C G Qc (some (.int r)) m') → Pt_X6_lien_0 C G a0 x1 x2 l3 m) : Con_X6_lien l G Pre Post := by
  intro a0 x1 x2 l3 m ka0 hpre
  refine zMetD hL (by decide +kernel) rfl (Nat.le_of_ble_eq_true rfl) (fun C hF hQ hA hR hl hnm => ?_)
  exact h C _ ⟨hF, hQ, hR⟩ hl a0 x1 x2 l3 m ka0 hpre (fun r m' hp => zRet_to hF (fun t hw hf => ⟨⟨r, m', rfl, hp, hw⟩, hf.1, by rw [← hA]; exact hf.2⟩))
abbrev rm_X6_heir : Room := { frames := 2, cells := 0, slots := 0, locals := 43 }
def Con_X6_heir (l : Launch) (G : zG) (Pre : Nat → Int32 → Int32 → zM → Prop) (Post : Nat → Int32 → Int32 → zM → Int32 → zM → Prop) : Prop := ∀ (a0 : Nat) (x1 x2 : Int32) (m : zM), zK G a0 = some (6, a0) → Pre a0 x1 x2 m → Met l yX6_heir wsX6_heir rm_X6_heir (va_Pc [.ref a0, .int x1, .int x2] (fun U => zW G m U)) (va_Qi (fun r m' => Post a0 x1 x2 m r m') (fun m' t => zW G m' t) (zdom G)) 0 0 (zdom G)
def St_X6_heir (C : zC) (G : zG) (Qc : Array Value → State → Outcome → State → Prop) : Prop := zF C G cX6_heir 4 wsX6_heir RX6 ∧ zQm C Qc (some .int) 0 0 ∧ zRm C = rm_X6_heir
def Pt_X6_heir_0 (C : zC) (G : zG) (a0 : Nat) (x1 x2 : Int32) (m : zM) : Prop := zX C 4 0 0 0 [(0, .ref a0), (1, .int x1), (2, .int x2)] [] (zPic G m)
set_option maxRecDepth 100000 in
theorem con_X6_heir {l : Launch} {G : zG} (hL : zLay G) {Pre : Nat → Int32 → Int32 → zM → Prop} {Post : Nat → Int32 → Int32 → zM → Int32 → zM → Prop} (h : ∀ (C : zC) (Qc : Array Value → State → Outcome → State → Prop), St_X6_heir C G Qc → zl C = l → ∀ (a0 : Nat) (x1 x2 : Int32) (m : zM), zK G a0 = some (6, a0) → Pre a0 x1 x2 m → (∀ (r : Int32) (m' : zM), Post a0 x1 x2 m r m' → zRet C G Qc (some (.int r)) m') → Pt_X6_heir_0 C G a0 x1 x2 m) : Con_X6_heir l G Pre Post := by
  intro a0 x1 x2 m ka0 hpre
  refine zMetD hL (by decide +kernel) rfl (Nat.le_of_ble_eq_true rfl) (fun C hF hQ hA hR hl hnm => ?_)
  exact h C _ ⟨hF, hQ, hR⟩ hl a0 x1 x2 m ka0 hpre (fun r m' hp => zRet_to hF (fun t hw hf => ⟨⟨r, m', rfl, hp, hw⟩, hf.1, by rw [← hA]; exact hf.2⟩))
abbrev rm_X6_pay : Room := { frames := 1, cells := 0, slots := 0, locals := 22 }
def Con_X6_pay (l : Launch) (G : zG) (Pre : Nat → Int32 → Int64 → zM → Prop) (Post : Nat → Int32 → Int64 → zM → zM → Prop) : Prop := ∀ (a0 : Nat) (x1 : Int32) (l2 : Int64) (m : zM), zK G a0 = some (6, a0) → Pre a0 x1 l2 m → Met l yX6_pay wsX6_pay rm_X6_pay (va_Pc [.ref a0, .int x1, .long l2] (fun U => zW G m U)) (va_Qv (fun m' => Post a0 x1 l2 m m') (fun m' t => zW G m' t) (zdom G)) 0 0 (zdom G)
def St_X6_pay (C : zC) (G : zG) (Qc : Array Value → State → Outcome → State → Prop) : Prop := zF C G cX6_pay 14 wsX6_pay RX6 ∧ zQm C Qc none 0 0 ∧ zRm C = rm_X6_pay
def Pt_X6_pay_0 (C : zC) (G : zG) (a0 : Nat) (x1 : Int32) (l2 : Int64) (m : zM) : Prop := zX C 14 0 0 0 [(0, .ref a0), (1, .int x1), (2, .long l2)] [] (zPic G m)
def Pt_X6_pay_53 (C : zC) (G : zG) (a0 : Nat) (x1 : Int32) (l6 : Int64) (x8 : Int32) (m : zM) : Prop := zX C 14 0 0 53 [(0, .ref a0), (1, .int x1), (6, .long l6), (8, .int x8)] [] (zPic G m)
def Pt_X6_pay_63 (C : zC) (G : zG) (a0 : Nat) (x1 : Int32) (l6 : Int64) (x8 x9 : Int32) (m : zM) : Prop := zX C 14 0 0 63 [(0, .ref a0), (1, .int x1), (6, .long l6), (8, .int x8), (9, .int x9)] [] (zPic G m)
def Pt_X6_pay_136 (C : zC) (G : zG) (a0 : Nat) (x1 : Int32) (l6 : Int64) (x8 x9 x10 : Int32) (s0 : Int64) (m : zM) : Prop := zX C 14 0 0 136 [(0, .ref a0), (1, .int x1), (6, .long l6), (8, .int x8), (9, .int x9), (10, .int x10)] [.long s0] (zPic G m)
def Pt_X6_pay_175 (C : zC) (G : zG) (a0 : Nat) (x1 : Int32) (l6 : Int64) (x8 x9 : Int32) (m : zM) : Prop := zX C 14 0 0 175 [(0, .ref a0), (1, .int x1), (6, .long l6), (8, .int x8), (9, .int x9)] [] (zPic G m)
def Pt_X6_pay_216 (C : zC) (G : zG) (a0 : Nat) (x1 : Int32) (l6 : Int64) (x8 : Int32) (l9 : Int64) (x11 : Int32) (m : zM) : Prop := zX C 14 0 0 216 [(0, .ref a0), (1, .int x1), (6, .long l6), (8, .int x8), (9, .long l9), (11, .int x11)] [] (zPic G m)
set_option maxRecDepth 100000 in
theorem con_X6_pay {l : Launch} {G : zG} (hL : zLay G) {Pre : Nat → Int32 → Int64 → zM → Prop} {Post : Nat → Int32 → Int64 → zM → zM → Prop} (h : ∀ (C : zC) (Qc : Array Value → State → Outcome → State → Prop), St_X6_pay C G Qc → zl C = l → ∀ (a0 : Nat) (x1 : Int32) (l2 : Int64) (m : zM), zK G a0 = some (6, a0) → Pre a0 x1 l2 m → (∀ (m' : zM), Post a0 x1 l2 m m' → zRet C G Qc none m') → Pt_X6_pay_0 C G a0 x1 l2 m) : Con_X6_pay l G Pre Post := by
  intro a0 x1 l2 m ka0 hpre
  refine zMetD hL (by decide +kernel) rfl (Nat.le_of_ble_eq_true rfl) (fun C hF hQ hA hR hl hnm => ?_)
  exact h C _ ⟨hF, hQ, hR⟩ hl a0 x1 l2 m ka0 hpre (fun m' hp => zRet_to hF (fun t hw hf => ⟨⟨m', rfl, hp, hw⟩, hf.1, by rw [← hA]; exact hf.2⟩))
abbrev rm_X6_wave : Room := { frames := 6, cells := 0, slots := 0, locals := 152 }
def Con_X6_wave (l : Launch) (G : zG) (Pre : Nat → Int32 → zM → Prop) (Post : Nat → Int32 → zM → Int64 → zM → Prop) : Prop := ∀ (a0 : Nat) (x1 : Int32) (m : zM), zK G a0 = some (6, a0) → Pre a0 x1 m → Met l yX6_wave wsX6_wave rm_X6_wave (va_Pc [.ref a0, .int x1] (fun U => zW G m U)) (va_Ql (fun r m' => Post a0 x1 m r m') (fun m' t => zW G m' t) (zdom G)) 0 0 (zdom G)
def St_X6_wave (C : zC) (G : zG) (Qc : Array Value → State → Outcome → State → Prop) : Prop := zF C G cX6_wave 7 wsX6_wave RX6 ∧ zQm C Qc (some .long) 0 0 ∧ zRm C = rm_X6_wave
def Pt_X6_wave_0 (C : zC) (G : zG) (a0 : Nat) (x1 : Int32) (m : zM) : Prop := zX C 7 0 0 0 [(0, .ref a0), (1, .int x1)] [] (zPic G m)
def Pt_X6_wave_42 (C : zC) (G : zG) (a0 : Nat) (x1 : Int32) (l2 l4 : Int64) (x6 : Int32) (m : zM) : Prop := zX C 7 0 0 42 [(0, .ref a0), (1, .int x1), (2, .long l2), (4, .long l4), (6, .int x6)] [] (zPic G m)
set_option maxRecDepth 100000 in
theorem con_X6_wave {l : Launch} {G : zG} (hL : zLay G) {Pre : Nat → Int32 → zM → Prop} {Post : Nat → Int32 → zM → Int64 → zM → Prop} (h : ∀ (C : zC) (Qc : Array Value → State → Outcome → State → Prop), St_X6_wave C G Qc → zl C = l → ∀ (a0 : Nat) (x1 : Int32) (m : zM), zK G a0 = some (6, a0) → Pre a0 x1 m → (∀ (r : Int64) (m' : zM), Post a0 x1 m r m' → zRet C G Qc (some (.long r)) m') → Pt_X6_wave_0 C G a0 x1 m) : Con_X6_wave l G Pre Post := by
  intro a0 x1 m ka0 hpre
  refine zMetD hL (by decide +kernel) rfl (Nat.le_of_ble_eq_true rfl) (fun C hF hQ hA hR hl hnm => ?_)
  exact h C _ ⟨hF, hQ, hR⟩ hl a0 x1 m ka0 hpre (fun r m' hp => zRet_to hF (fun t hw hf => ⟨⟨r, m', rfl, hp, hw⟩, hf.1, by rw [← hA]; exact hf.2⟩))
abbrev rm_X6_states : Room := { frames := 1, cells := 0, slots := 0, locals := 22 }
def Con_X6_states (l : Launch) (G : zG) (Pre : Nat → Int32 → zM → Prop) (Post : Nat → Int32 → zM → Int32 → Prop) : Prop := ∀ (a0 : Nat) (x1 : Int32) (m : zM), zK G a0 = some (6, a0) → Pre a0 x1 m → Met l yX6_states wsX6_states rm_X6_states (va_Pc [.ref a0, .int x1] (fun U => zW G m U)) (va_Qi (fun r m' => m' = m ∧ Post a0 x1 m r) (fun m' t => zW G m' t) (zdom G)) 0 0 (zdom G)
def St_X6_states (C : zC) (G : zG) (Qc : Array Value → State → Outcome → State → Prop) : Prop := zF C G cX6_states 4 wsX6_states RX6 ∧ zQm C Qc (some .int) 0 0 ∧ zRm C = rm_X6_states
def Pt_X6_states_0 (C : zC) (G : zG) (a0 : Nat) (x1 : Int32) (m : zM) : Prop := zX C 4 0 0 0 [(0, .ref a0), (1, .int x1)] [] (zPic G m)
def Pt_X6_states_4 (C : zC) (G : zG) (a0 : Nat) (x1 x2 x3 : Int32) (m : zM) : Prop := zX C 4 0 0 4 [(0, .ref a0), (1, .int x1), (2, .int x2), (3, .int x3)] [] (zPic G m)
set_option maxRecDepth 100000 in
theorem con_X6_states {l : Launch} {G : zG} (hL : zLay G) {Pre : Nat → Int32 → zM → Prop} {Post : Nat → Int32 → zM → Int32 → Prop} (h : ∀ (C : zC) (Qc : Array Value → State → Outcome → State → Prop), St_X6_states C G Qc → zl C = l → ∀ (a0 : Nat) (x1 : Int32) (m : zM), zK G a0 = some (6, a0) → Pre a0 x1 m → (∀ (r : Int32), Post a0 x1 m r → zRet C G Qc (some (.int r)) m) → Pt_X6_states_0 C G a0 x1 m) : Con_X6_states l G Pre Post := by
  intro a0 x1 m ka0 hpre
  refine zMetD hL (by decide +kernel) rfl (Nat.le_of_ble_eq_true rfl) (fun C hF hQ hA hR hl hnm => ?_)
  exact h C _ ⟨hF, hQ, hR⟩ hl a0 x1 m ka0 hpre (fun r hp => zRet_to hF (fun t hw hf => ⟨⟨r, m, rfl, ⟨rfl, hp⟩, hw⟩, hf.1, by rw [← hA]; exact hf.2⟩))
abbrev rm_X6_finish : Room := { frames := 6, cells := 0, slots := 0, locals := 152 }
def Con_X6_finish (l : Launch) (G : zG) (Pre : Nat → zM → Prop) (Post : Nat → zM → Int64 → zM → Prop) : Prop := ∀ (a0 : Nat) (m : zM), zK G a0 = some (6, a0) → Pre a0 m → Met l yX6_finish wsX6_finish rm_X6_finish (va_Pc [.ref a0] (fun U => zW G m U)) (va_Ql (fun r m' => Post a0 m r m') (fun m' t => zW G m' t) (zdom G)) 0 0 (zdom G)
def St_X6_finish (C : zC) (G : zG) (Qc : Array Value → State → Outcome → State → Prop) : Prop := zF C G cX6_finish 10 wsX6_finish RX6 ∧ zQm C Qc (some .long) 0 0 ∧ zRm C = rm_X6_finish
def Pt_X6_finish_0 (C : zC) (G : zG) (a0 : Nat) (m : zM) : Prop := zX C 10 0 0 0 [(0, .ref a0)] [] (zPic G m)
def Pt_X6_finish_53 (C : zC) (G : zG) (a0 : Nat) (l1 l3 l5 : Int64) (x7 : Int32) (m : zM) : Prop := zX C 10 0 0 53 [(0, .ref a0), (1, .long l1), (3, .long l3), (5, .long l5), (7, .int x7)] [] (zPic G m)
def Pt_X6_finish_158 (C : zC) (G : zG) (a0 : Nat) (l3 l5 : Int64) (m : zM) : Prop := zX C 10 0 0 158 [(0, .ref a0), (3, .long l3), (5, .long l5)] [] (zPic G m)
def Pt_X6_finish_171 (C : zC) (G : zG) (a0 : Nat) (l3 l5 : Int64) (x7 x8 : Int32) (m : zM) : Prop := zX C 10 0 0 171 [(0, .ref a0), (3, .long l3), (5, .long l5), (7, .int x7), (8, .int x8)] [] (zPic G m)
set_option maxRecDepth 100000 in
theorem con_X6_finish {l : Launch} {G : zG} (hL : zLay G) {Pre : Nat → zM → Prop} {Post : Nat → zM → Int64 → zM → Prop} (h : ∀ (C : zC) (Qc : Array Value → State → Outcome → State → Prop), St_X6_finish C G Qc → zl C = l → ∀ (a0 : Nat) (m : zM), zK G a0 = some (6, a0) → Pre a0 m → (∀ (r : Int64) (m' : zM), Post a0 m r m' → zRet C G Qc (some (.long r)) m') → Pt_X6_finish_0 C G a0 m) : Con_X6_finish l G Pre Post := by
  intro a0 m ka0 hpre
  refine zMetD hL (by decide +kernel) rfl (Nat.le_of_ble_eq_true rfl) (fun C hF hQ hA hR hl hnm => ?_)
  exact h C _ ⟨hF, hQ, hR⟩ hl a0 m ka0 hpre (fun r m' hp => zRet_to hF (fun t hw hf => ⟨⟨r, m', rfl, hp, hw⟩, hf.1, by rw [← hA]; exact hf.2⟩))
abbrev rm_X6_sum : Room := { frames := 6, cells := 0, slots := 0, locals := 152 }
def Con_X6_sum (l : Launch) (G : zG) (Pre : Nat → Int32 → zM → Prop) (Post : Nat → Int32 → zM → Int64 → zM → Prop) : Prop := ∀ (a0 : Nat) (x1 : Int32) (m : zM), zK G a0 = some (6, a0) → Pre a0 x1 m → Met l yX6_sum wsX6_sum rm_X6_sum (va_Pc [.ref a0, .int x1] (fun U => zW G m U)) (va_Ql (fun r m' => Post a0 x1 m r m') (fun m' t => zW G m' t) (zdom G)) 0 0 (zdom G)
def St_X6_sum (C : zC) (G : zG) (Qc : Array Value → State → Outcome → State → Prop) : Prop := zF C G cX6_sum 5 wsX6_sum RX6 ∧ zQm C Qc (some .long) 0 0 ∧ zRm C = rm_X6_sum
def Pt_X6_sum_0 (C : zC) (G : zG) (a0 : Nat) (x1 : Int32) (m : zM) : Prop := zX C 5 0 0 0 [(0, .ref a0), (1, .int x1)] [] (zPic G m)
def Pt_X6_sum_58 (C : zC) (G : zG) (a0 : Nat) (l2 : Int64) (x4 : Int32) (m : zM) : Prop := zX C 5 0 0 58 [(0, .ref a0), (2, .long l2), (4, .int x4)] [] (zPic G m)
set_option maxRecDepth 100000 in
theorem con_X6_sum {l : Launch} {G : zG} (hL : zLay G) {Pre : Nat → Int32 → zM → Prop} {Post : Nat → Int32 → zM → Int64 → zM → Prop} (h : ∀ (C : zC) (Qc : Array Value → State → Outcome → State → Prop), St_X6_sum C G Qc → zl C = l → ∀ (a0 : Nat) (x1 : Int32) (m : zM), zK G a0 = some (6, a0) → Pre a0 x1 m → (∀ (r : Int64) (m' : zM), Post a0 x1 m r m' → zRet C G Qc (some (.long r)) m') → Pt_X6_sum_0 C G a0 x1 m) : Con_X6_sum l G Pre Post := by
  intro a0 x1 m ka0 hpre
  refine zMetD hL (by decide +kernel) rfl (Nat.le_of_ble_eq_true rfl) (fun C hF hQ hA hR hl hnm => ?_)
  exact h C _ ⟨hF, hQ, hR⟩ hl a0 x1 m ka0 hpre (fun r m' hp => zRet_to hF (fun t hw hf => ⟨⟨r, m', rfl, hp, hw⟩, hf.1, by rw [← hA]; exact hf.2⟩))
abbrev rm_X6_count : Room := { frames := 2, cells := 0, slots := 0, locals := 45 }
def Con_X6_count (l : Launch) (G : zG) (Pre : Nat → Int32 → zM → Prop) (Post : Nat → Int32 → zM → Int32 → zM → Prop) : Prop := ∀ (a0 : Nat) (x1 : Int32) (m : zM), zK G a0 = some (6, a0) → Pre a0 x1 m → Met l yX6_count wsX6_count rm_X6_count (va_Pc [.ref a0, .int x1] (fun U => zW G m U)) (va_Qi (fun r m' => Post a0 x1 m r m') (fun m' t => zW G m' t) (zdom G)) 0 0 (zdom G)
def St_X6_count (C : zC) (G : zG) (Qc : Array Value → State → Outcome → State → Prop) : Prop := zF C G cX6_count 2 wsX6_count RX6 ∧ zQm C Qc (some .int) 0 0 ∧ zRm C = rm_X6_count
def Pt_X6_count_0 (C : zC) (G : zG) (a0 : Nat) (x1 : Int32) (m : zM) : Prop := zX C 2 0 0 0 [(0, .ref a0), (1, .int x1)] [] (zPic G m)
set_option maxRecDepth 100000 in
theorem con_X6_count {l : Launch} {G : zG} (hL : zLay G) {Pre : Nat → Int32 → zM → Prop} {Post : Nat → Int32 → zM → Int32 → zM → Prop} (h : ∀ (C : zC) (Qc : Array Value → State → Outcome → State → Prop), St_X6_count C G Qc → zl C = l → ∀ (a0 : Nat) (x1 : Int32) (m : zM), zK G a0 = some (6, a0) → Pre a0 x1 m → (∀ (r : Int32) (m' : zM), Post a0 x1 m r m' → zRet C G Qc (some (.int r)) m') → Pt_X6_count_0 C G a0 x1 m) : Con_X6_count l G Pre Post := by
  intro a0 x1 m ka0 hpre
  refine zMetD hL (by decide +kernel) rfl (Nat.le_of_ble_eq_true rfl) (fun C hF hQ hA hR hl hnm => ?_)
  exact h C _ ⟨hF, hQ, hR⟩ hl a0 x1 m ka0 hpre (fun r m' hp => zRet_to hF (fun t hw hf => ⟨⟨r, m', rfl, hp, hw⟩, hf.1, by rw [← hA]; exact hf.2⟩))
abbrev rm_X6_image : Room := { frames := 3, cells := 0, slots := 0, locals := 69 }
def Con_X6_image (l : Launch) (G : zG) (Pre : Nat → Int32 → zM → Prop) (Post : Nat → Int32 → zM → Int32 → zM → Prop) : Prop := ∀ (a0 : Nat) (x1 : Int32) (m : zM), zK G a0 = some (6, a0) → Pre a0 x1 m → Met l yX6_image wsX6_image rm_X6_image (va_Pc [.ref a0, .int x1] (fun U => zW G m U)) (va_Qi (fun r m' => Post a0 x1 m r m') (fun m' t => zW G m' t) (zdom G)) 0 0 (zdom G)
def St_X6_image (C : zC) (G : zG) (Qc : Array Value → State → Outcome → State → Prop) : Prop := zF C G cX6_image 2 wsX6_image RX6 ∧ zQm C Qc (some .boolean) 0 0 ∧ zRm C = rm_X6_image
def Pt_X6_image_0 (C : zC) (G : zG) (a0 : Nat) (x1 : Int32) (m : zM) : Prop := zX C 2 0 0 0 [(0, .ref a0), (1, .int x1)] [] (zPic G m)
set_option maxRecDepth 100000 in
theorem con_X6_image {l : Launch} {G : zG} (hL : zLay G) {Pre : Nat → Int32 → zM → Prop} {Post : Nat → Int32 → zM → Int32 → zM → Prop} (h : ∀ (C : zC) (Qc : Array Value → State → Outcome → State → Prop), St_X6_image C G Qc → zl C = l → ∀ (a0 : Nat) (x1 : Int32) (m : zM), zK G a0 = some (6, a0) → Pre a0 x1 m → (∀ (r : Int32) (m' : zM), Post a0 x1 m r m' → zRet C G Qc (some (.int r)) m') → Pt_X6_image_0 C G a0 x1 m) : Con_X6_image l G Pre Post := by
  intro a0 x1 m ka0 hpre
  refine zMetD hL (by decide +kernel) rfl (Nat.le_of_ble_eq_true rfl) (fun C hF hQ hA hR hl hnm => ?_)
  exact h C _ ⟨hF, hQ, hR⟩ hl a0 x1 m ka0 hpre (fun r m' hp => zRet_to hF (fun t hw hf => ⟨⟨r, m', rfl, hp, hw⟩, hf.1, by rw [← hA]; exact hf.2⟩))
abbrev rm_X6_again : Room := { frames := 3, cells := 0, slots := 0, locals := 69 }
def Con_X6_again (l : Launch) (G : zG) (Pre : Nat → Int32 → zM → Prop) (Post : Nat → Int32 → zM → Int32 → zM → Prop) : Prop := ∀ (a0 : Nat) (x1 : Int32) (m : zM), zK G a0 = some (6, a0) → Pre a0 x1 m → Met l yX6_again wsX6_again rm_X6_again (va_Pc [.ref a0, .int x1] (fun U => zW G m U)) (va_Qi (fun r m' => Post a0 x1 m r m') (fun m' t => zW G m' t) (zdom G)) 0 0 (zdom G)
def St_X6_again (C : zC) (G : zG) (Qc : Array Value → State → Outcome → State → Prop) : Prop := zF C G cX6_again 2 wsX6_again RX6 ∧ zQm C Qc (some .boolean) 0 0 ∧ zRm C = rm_X6_again
def Pt_X6_again_0 (C : zC) (G : zG) (a0 : Nat) (x1 : Int32) (m : zM) : Prop := zX C 2 0 0 0 [(0, .ref a0), (1, .int x1)] [] (zPic G m)
set_option maxRecDepth 100000 in
theorem con_X6_again {l : Launch} {G : zG} (hL : zLay G) {Pre : Nat → Int32 → zM → Prop} {Post : Nat → Int32 → zM → Int32 → zM → Prop} (h : ∀ (C : zC) (Qc : Array Value → State → Outcome → State → Prop), St_X6_again C G Qc → zl C = l → ∀ (a0 : Nat) (x1 : Int32) (m : zM), zK G a0 = some (6, a0) → Pre a0 x1 m → (∀ (r : Int32) (m' : zM), Post a0 x1 m r m' → zRet C G Qc (some (.int r)) m') → Pt_X6_again_0 C G a0 x1 m) : Con_X6_again l G Pre Post := by
  intro a0 x1 m ka0 hpre
  refine zMetD hL (by decide +kernel) rfl (Nat.le_of_ble_eq_true rfl) (fun C hF hQ hA hR hl hnm => ?_)
  exact h C _ ⟨hF, hQ, hR⟩ hl a0 x1 m ka0 hpre (fun r m' hp => zRet_to hF (fun t hw hf => ⟨⟨r, m', rfl, hp, hw⟩, hf.1, by rw [← hA]; exact hf.2⟩))
abbrev rm_X0_setFault : Room := { frames := 0, cells := 0, slots := 0, locals := 0 }
def Con_X0_setFault (l : Launch) (G : zG) (Pre : Nat → Int32 → Int32 → zM → Prop) (Post : Nat → Int32 → Int32 → zM → zM → Prop) : Prop := ∀ (a0 : Nat) (x1 x2 : Int32) (m : zM), zK G a0 = some (0, a0) → Pre a0 x1 x2 m → Met l yX0_setFault wsX0_setFault rm_X0_setFault (va_Pc [.ref a0, .int x1, .int x2] (fun U => zW G m U)) (va_Qv (fun m' => Post a0 x1 x2 m m') (fun m' t => zW G m' t) (zdom G)) 0 0 (zdom G)
def St_X0_setFault (C : zC) (G : zG) (Qc : Array Value → State → Outcome → State → Prop) : Prop := zF C G cX0_setFault 3 wsX0_setFault RX0 ∧ zQm C Qc none 0 0 ∧ zRm C = rm_X0_setFault
def Pt_X0_setFault_0 (C : zC) (G : zG) (a0 : Nat) (x1 x2 : Int32) (m : zM) : Prop := zX C 3 0 0 0 [(0, .ref a0), (1, .int x1), (2, .int x2)] [] (zPic G m)
set_option maxRecDepth 100000 in
theorem con_X0_setFault {l : Launch} {G : zG} (hL : zLay G) {Pre : Nat → Int32 → Int32 → zM → Prop} {Post : Nat → Int32 → Int32 → zM → zM → Prop} (h : ∀ (C : zC) (Qc : Array Value → State → Outcome → State → Prop), St_X0_setFault C G Qc → zl C = l → ∀ (a0 : Nat) (x1 x2 : Int32) (m : zM), zK G a0 = some (0, a0) → Pre a0 x1 x2 m → (∀ (m' : zM), Post a0 x1 x2 m m' → zRet C G Qc none m') → Pt_X0_setFault_0 C G a0 x1 x2 m) : Con_X0_setFault l G Pre Post := by
  intro a0 x1 x2 m ka0 hpre
  refine zMetD hL (by decide +kernel) rfl (Nat.le_of_ble_eq_true rfl) (fun C hF hQ hA hR hl hnm => ?_)
  exact h C _ ⟨hF, hQ, hR⟩ hl a0 x1 x2 m ka0 hpre (fun m' hp => zRet_to hF (fun t hw hf => ⟨⟨m', rfl, hp, hw⟩, hf.1, by rw [← hA]; exact hf.2⟩))
abbrev rm_X0_useRules : Room := { frames := 5, cells := 0, slots := 0, locals := 124 }
def Con_X0_useRules (l : Launch) (G : zG) (Pre : Nat → Nat → zM → Prop) (Post : Nat → Nat → zM → zM → Prop) : Prop := ∀ (a0 a1 : Nat) (m : zM), zK G a0 = some (0, a0) → zK G a1 = some (2, a1) → Pre a0 a1 m → Met l yX0_useRules wsX0_useRules rm_X0_useRules (va_Pc [.ref a0, .ref a1] (fun U => zW G m U)) (va_Qv (fun m' => Post a0 a1 m m') (fun m' t => zW G m' t) (zdom G)) 0 0 (zdom G)
def St_X0_useRules (C : zC) (G : zG) (Qc : Array Value → State → Outcome → State → Prop) : Prop := zF C G cX0_useRules 6 wsX0_useRules RX0 ∧ zQm C Qc none 0 0 ∧ zRm C = rm_X0_useRules
def Pt_X0_useRules_0 (C : zC) (G : zG) (a0 a1 : Nat) (m : zM) : Prop := zX C 6 0 0 0 [(0, .ref a0), (1, .ref a1)] [] (zPic G m)
def Pt_X0_useRules_16 (C : zC) (G : zG) (a0 : Nat) (x4 : Int32) (m : zM) : Prop := zX C 6 0 0 16 [(0, .ref a0), (2, .ref (a0 + 10)), (3, .int 16), (4, .int x4)] [] (zPic G m)
set_option maxRecDepth 100000 in
theorem con_X0_useRules {l : Launch} {G : zG} (hL : zLay G) {Pre : Nat → Nat → zM → Prop} {Post : Nat → Nat → zM → zM → Prop} (h : ∀ (C : zC) (Qc : Array Value → State → Outcome → State → Prop), St_X0_useRules C G Qc → zl C = l → ∀ (a0 a1 : Nat) (m : zM), zK G a0 = some (0, a0) → zK G a1 = some (2, a1) → Pre a0 a1 m → (∀ (m' : zM), Post a0 a1 m m' → zRet C G Qc none m') → Pt_X0_useRules_0 C G a0 a1 m) : Con_X0_useRules l G Pre Post := by
  intro a0 a1 m ka0 ka1 hpre
  refine zMetD hL (by decide +kernel) rfl (Nat.le_of_ble_eq_true rfl) (fun C hF hQ hA hR hl hnm => ?_)
  exact h C _ ⟨hF, hQ, hR⟩ hl a0 a1 m ka0 ka1 hpre (fun m' hp => zRet_to hF (fun t hw hf => ⟨⟨m', rfl, hp, hw⟩, hf.1, by rw [← hA]; exact hf.2⟩))
abbrev rm_X2_empty : Room := { frames := 0, cells := 0, slots := 0, locals := 0 }
def Con_X2_empty (l : Launch) (G : zG) (Pre : Nat → zM → Prop) (Post : Nat → zM → zM → Prop) : Prop := ∀ (a0 : Nat) (m : zM), zK G a0 = some (2, a0) → Pre a0 m → Met l yX2_empty wsX2_empty rm_X2_empty (va_Pc [.ref a0] (fun U => zW G m U)) (va_Qv (fun m' => Post a0 m m') (fun m' t => zW G m' t) (zdom G)) 0 0 (zdom G)
def St_X2_empty (C : zC) (G : zG) (Qc : Array Value → State → Outcome → State → Prop) : Prop := zF C G cX2_empty 1 wsX2_empty RX2 ∧ zQm C Qc none 0 0 ∧ zRm C = rm_X2_empty
def Pt_X2_empty_0 (C : zC) (G : zG) (a0 : Nat) (m : zM) : Prop := zX C 1 0 0 0 [(0, .ref a0)] [] (zPic G m)
set_option maxRecDepth 100000 in
theorem con_X2_empty {l : Launch} {G : zG} (hL : zLay G) {Pre : Nat → zM → Prop} {Post : Nat → zM → zM → Prop} (h : ∀ (C : zC) (Qc : Array Value → State → Outcome → State → Prop), St_X2_empty C G Qc → zl C = l → ∀ (a0 : Nat) (m : zM), zK G a0 = some (2, a0) → Pre a0 m → (∀ (m' : zM), Post a0 m m' → zRet C G Qc none m') → Pt_X2_empty_0 C G a0 m) : Con_X2_empty l G Pre Post := by
  intro a0 m ka0 hpre
  refine zMetD hL (by decide +kernel) rfl (Nat.le_of_ble_eq_true rfl) (fun C hF hQ hA hR hl hnm => ?_)
  exact h C _ ⟨hF, hQ, hR⟩ hl a0 m ka0 hpre (fun m' hp => zRet_to hF (fun t hw hf => ⟨⟨m', rfl, hp, hw⟩, hf.1, by rw [← hA]; exact hf.2⟩))
abbrev rm_X2_addTest : Room := { frames := 0, cells := 0, slots := 0, locals := 0 }
def Con_X2_addTest (l : Launch) (G : zG) (Pre : Nat → Int32 → Int32 → Int32 → Int32 → zM → Prop) (Post : Nat → Int32 → Int32 → Int32 → Int32 → zM → zM → Prop) : Prop := ∀ (a0 : Nat) (x1 x2 x3 x4 : Int32) (m : zM), zK G a0 = some (2, a0) → Pre a0 x1 x2 x3 x4 m → Met l yX2_addTest wsX2_addTest rm_X2_addTest (va_Pc [.ref a0, .int x1, .int x2, .int x3, .int x4] (fun U => zW G m U)) (va_Qv (fun m' => Post a0 x1 x2 x3 x4 m m') (fun m' t => zW G m' t) (zdom G)) 0 0 (zdom G)
def St_X2_addTest (C : zC) (G : zG) (Qc : Array Value → State → Outcome → State → Prop) : Prop := zF C G cX2_addTest 6 wsX2_addTest RX2 ∧ zQm C Qc none 0 0 ∧ zRm C = rm_X2_addTest
def Pt_X2_addTest_0 (C : zC) (G : zG) (a0 : Nat) (x1 x2 x3 x4 : Int32) (m : zM) : Prop := zX C 6 0 0 0 [(0, .ref a0), (1, .int x1), (2, .int x2), (3, .int x3), (4, .int x4)] [] (zPic G m)
set_option maxRecDepth 100000 in
theorem con_X2_addTest {l : Launch} {G : zG} (hL : zLay G) {Pre : Nat → Int32 → Int32 → Int32 → Int32 → zM → Prop} {Post : Nat → Int32 → Int32 → Int32 → Int32 → zM → zM → Prop} (h : ∀ (C : zC) (Qc : Array Value → State → Outcome → State → Prop), St_X2_addTest C G Qc → zl C = l → ∀ (a0 : Nat) (x1 x2 x3 x4 : Int32) (m : zM), zK G a0 = some (2, a0) → Pre a0 x1 x2 x3 x4 m → (∀ (m' : zM), Post a0 x1 x2 x3 x4 m m' → zRet C G Qc none m') → Pt_X2_addTest_0 C G a0 x1 x2 x3 x4 m) : Con_X2_addTest l G Pre Post := by
  intro a0 x1 x2 x3 x4 m ka0 hpre
  refine zMetD hL (by decide +kernel) rfl (Nat.le_of_ble_eq_true rfl) (fun C hF hQ hA hR hl hnm => ?_)
  exact h C _ ⟨hF, hQ, hR⟩ hl a0 x1 x2 x3 x4 m ka0 hpre (fun m' hp => zRet_to hF (fun t hw hf => ⟨⟨m', rfl, hp, hw⟩, hf.1, by rw [← hA]; exact hf.2⟩))
abbrev rm_X2_endLine : Room := { frames := 0, cells := 0, slots := 0, locals := 0 }
def Con_X2_endLine (l : Launch) (G : zG) (Pre : Nat → Int32 → Int32 → zM → Prop) (Post : Nat → Int32 → Int32 → zM → zM → Prop) : Prop := ∀ (a0 : Nat) (x1 x2 : Int32) (m : zM), zK G a0 = some (2, a0) → Pre a0 x1 x2 m → Met l yX2_endLine wsX2_endLine rm_X2_endLine (va_Pc [.ref a0, .int x1, .int x2] (fun U => zW G m U)) (va_Qv (fun m' => Post a0 x1 x2 m m') (fun m' t => zW G m' t) (zdom G)) 0 0 (zdom G)
def St_X2_endLine (C : zC) (G : zG) (Qc : Array Value → State → Outcome → State → Prop) : Prop := zF C G cX2_endLine 3 wsX2_endLine RX2 ∧ zQm C Qc none 0 0 ∧ zRm C = rm_X2_endLine
def Pt_X2_endLine_0 (C : zC) (G : zG) (a0 : Nat) (x1 x2 : Int32) (m : zM) : Prop := zX C 3 0 0 0 [(0, .ref a0), (1, .int x1), (2, .int x2)] [] (zPic G m)
set_option maxRecDepth 100000 in
theorem con_X2_endLine {l : Launch} {G : zG} (hL : zLay G) {Pre : Nat → Int32 → Int32 → zM → Prop} {Post : Nat → Int32 → Int32 → zM → zM → Prop} (h : ∀ (C : zC) (Qc : Array Value → State → Outcome → State → Prop), St_X2_endLine C G Qc → zl C = l → ∀ (a0 : Nat) (x1 x2 : Int32) (m : zM), zK G a0 = some (2, a0) → Pre a0 x1 x2 m → (∀ (m' : zM), Post a0 x1 x2 m m' → zRet C G Qc none m') → Pt_X2_endLine_0 C G a0 x1 x2 m) : Con_X2_endLine l G Pre Post := by
  intro a0 x1 x2 m ka0 hpre
  refine zMetD hL (by decide +kernel) rfl (Nat.le_of_ble_eq_true rfl) (fun C hF hQ hA hR hl hnm => ?_)
  exact h C _ ⟨hF, hQ, hR⟩ hl a0 x1 x2 m ka0 hpre (fun m' hp => zRet_to hF (fun t hw hf => ⟨⟨m', rfl, hp, hw⟩, hf.1, by rw [← hA]; exact hf.2⟩))
abbrev rm_X4_kindOf : Room := { frames := 0, cells := 0, slots := 0, locals := 0 }
def Con_X4_kindOf (l : Launch) (G : zG) (Pre : Int32 → zM → Prop) (Post : Int32 → zM → Int32 → Prop) : Prop := ∀ (x0 : Int32) (m : zM), Pre x0 m → Met l yX4_kindOf wsX4_kindOf rm_X4_kindOf (va_Pc [.int x0] (fun U => zW G m U)) (va_Qi (fun r m' => m' = m ∧ Post x0 m r) (fun m' t => zW G m' t) (zdom G)) 0 0 (zdom G)
def St_X4_kindOf (C : zC) (G : zG) (Qc : Array Value → State → Outcome → State → Prop) : Prop := zF C G cX4_kindOf 1 wsX4_kindOf RX4 ∧ zQm C Qc (some .int) 0 0 ∧ zRm C = rm_X4_kindOf
def Pt_X4_kindOf_0 (C : zC) (G : zG) (x0 : Int32) (m : zM) : Prop := zX C 1 0 0 0 [(0, .int x0)] [] (zPic G m)
def Pt_X4_kindOf_28 (C : zC) (G : zG) (x0 : Int32) (m : zM) : Prop := zX C 1 0 0 28 [(0, .int x0)] [] (zPic G m)
set_option maxRecDepth 100000 in
theorem con_X4_kindOf {l : Launch} {G : zG} (hL : zLay G) {Pre : Int32 → zM → Prop} {Post : Int32 → zM → Int32 → Prop} (h : ∀ (C : zC) (Qc : Array Value → State → Outcome → State → Prop), St_X4_kindOf C G Qc → zl C = l → ∀ (x0 : Int32) (m : zM), Pre x0 m → (∀ (r : Int32), Post x0 m r → zRet C G Qc (some (.int r)) m) → Pt_X4_kindOf_0 C G x0 m) : Con_X4_kindOf l G Pre Post := by
  intro x0 m  hpre
  refine zMetD hL (by decide +kernel) rfl (Nat.le_of_ble_eq_true rfl) (fun C hF hQ hA hR hl hnm => ?_)
  exact h C _ ⟨hF, hQ, hR⟩ hl x0 m  hpre (fun r hp => zRet_to hF (fun t hw hf => ⟨⟨r, m, rfl, ⟨rfl, hp⟩, hw⟩, hf.1, by rw [← hA]; exact hf.2⟩))
abbrev rm_X4_advance : Room := { frames := 1, cells := 0, slots := 0, locals := 20 }
def Con_X4_advance (l : Launch) (G : zG) (Pre : Nat → zM → Prop) (Post : Nat → zM → zM → Prop) : Prop := ∀ (a0 : Nat) (m : zM), zK G a0 = some (4, a0) → Pre a0 m → Met l yX4_advance wsX4_advance rm_X4_advance (va_Pc [.ref a0] (fun U => zW G m U)) (va_Qv (fun m' => Post a0 m m') (fun m' t => zW G m' t) (zdom G)) 0 0 (zdom G)
def St_X4_advance (C : zC) (G : zG) (Qc : Array Value → State → Outcome → State → Prop) : Prop := zF C G cX4_advance 2 wsX4_advance RX4 ∧ zQm C Qc none 0 0 ∧ zRm C = rm_X4_advance
def Pt_X4_advance_0 (C : zC) (G : zG) (a0 : Nat) (m : zM) : Prop := zX C 2 0 0 0 [(0, .ref a0)] [] (zPic G m)
def Pt_X4_advance_8 (C : zC) (G : zG) (a0 : Nat) (m : zM) : Prop := zX C 2 0 0 8 [(0, .ref a0)] [] (zPic G m)
def Pt_X4_advance_60 (C : zC) (G : zG) (a0 : Nat) (m : zM) : Prop := zX C 2 0 0 60 [(0, .ref a0)] [] (zPic G m)
def Pt_X4_advance_133 (C : zC) (G : zG) (a0 : Nat) (x1 : Int32) (m : zM) : Prop := zX C 2 0 0 133 [(0, .ref a0), (1, .int x1)] [] (zPic G m)
def Pt_X4_advance_180 (C : zC) (G : zG) (a0 : Nat) (m : zM) : Prop := zX C 2 0 0 180 [(0, .ref a0)] [] (zPic G m)
set_option maxRecDepth 100000 in
theorem con_X4_advance {l : Launch} {G : zG} (hL : zLay G) {Pre : Nat → zM → Prop} {Post : Nat → zM → zM → Prop} (h : ∀ (C : zC) (Qc : Array Value → State → Outcome → State → Prop), St_X4_advance C G Qc → zl C = l → ∀ (a0 : Nat) (m : zM), zK G a0 = some (4, a0) → Pre a0 m → (∀ (m' : zM), Post a0 m m' → zRet C G Qc none m') → Pt_X4_advance_0 C G a0 m) : Con_X4_advance l G Pre Post := by
  intro a0 m ka0 hpre
  refine zMetD hL (by decide +kernel) rfl (Nat.le_of_ble_eq_true rfl) (fun C hF hQ hA hR hl hnm => ?_)
  exact h C _ ⟨hF, hQ, hR⟩ hl a0 m ka0 hpre (fun m' hp => zRet_to hF (fun t hw hf => ⟨⟨m', rfl, hp, hw⟩, hf.1, by rw [← hA]; exact hf.2⟩))
abbrev rm_X4_note : Room := { frames := 0, cells := 0, slots := 0, locals := 0 }
def Con_X4_note (l : Launch) (G : zG) (Pre : Nat → Int32 → zM → Prop) (Post : Nat → Int32 → zM → zM → Prop) : Prop := ∀ (a0 : Nat) (x1 : Int32) (m : zM), zK G a0 = some (4, a0) → Pre a0 x1 m → Met l yX4_note wsX4_note rm_X4_note (va_Pc [.ref a0, .int x1] (fun U => zW G m U)) (va_Qv (fun m' => Post a0 x1 m m') (fun m' t => zW G m' t) (zdom G)) 0 0 (zdom G)
def St_X4_note (C : zC) (G : zG) (Qc : Array Value → State → Outcome → State → Prop) : Prop := zF C G cX4_note 2 wsX4_note RX4 ∧ zQm C Qc none 0 0 ∧ zRm C = rm_X4_note
def Pt_X4_note_0 (C : zC) (G : zG) (a0 : Nat) (x1 : Int32) (m : zM) : Prop := zX C 2 0 0 0 [(0, .ref a0), (1, .int x1)] [] (zPic G m)
set_option maxRecDepth 100000 in
theorem con_X4_note {l : Launch} {G : zG} (hL : zLay G) {Pre : Nat → Int32 → zM → Prop} {Post : Nat → Int32 → zM → zM → Prop} (h : ∀ (C : zC) (Qc : Array Value → State → Outcome → State → Prop), St_X4_note C G Qc → zl C = l → ∀ (a0 : Nat) (x1 : Int32) (m : zM), zK G a0 = some (4, a0) → Pre a0 x1 m → (∀ (m' : zM), Post a0 x1 m m' → zRet C G Qc none m') → Pt_X4_note_0 C G a0 x1 m) : Con_X4_note l G Pre Post := by
  intro a0 x1 m ka0 hpre
  refine zMetD hL (by decide +kernel) rfl (Nat.le_of_ble_eq_true rfl) (fun C hF hQ hA hR hl hnm => ?_)
  exact h C _ ⟨hF, hQ, hR⟩ hl a0 x1 m ka0 hpre (fun m' hp => zRet_to hF (fun t hw hf => ⟨⟨m', rfl, hp, hw⟩, hf.1, by rw [← hA]; exact hf.2⟩))
abbrev rm_X4_isWord : Room := { frames := 4, cells := 0, slots := 0, locals := 85 }
def Con_X4_isWord (l : Launch) (G : zG) (Pre : Nat → Nat → zM → Prop) (Post : Nat → Nat → zM → Int32 → Prop) : Prop := ∀ (a0 t1 : Nat) (m : zM), zK G a0 = some (4, a0) → t1 < 13 → Pre a0 t1 m → Met l yX4_isWord wsX4_isWord rm_X4_isWord (va_Pc [.ref a0, .ref (zaK G t1)] (fun U => zW G m U)) (va_Qi (fun r m' => m' = m ∧ Post a0 t1 m r) (fun m' t => zW G m' t) (zdom G)) 0 0 (zdom G)
def St_X4_isWord (C : zC) (G : zG) (Qc : Array Value → State → Outcome → State → Prop) : Prop := zF C G cX4_isWord 3 wsX4_isWord RX4 ∧ zQm C Qc (some .boolean) 0 0 ∧ zRm C = rm_X4_isWord
def Pt_X4_isWord_0 (C : zC) (G : zG) (a0 t1 : Nat) (m : zM) : Prop := zX C 3 0 0 0 [(0, .ref a0), (1, .ref (zaK G t1))] [] (zPic G m)
def Pt_X4_isWord_28 (C : zC) (G : zG) (a0 t1 : Nat) (x2 : Int32) (m : zM) : Prop := zX C 3 0 0 28 [(0, .ref a0), (1, .ref (zaK G t1)), (2, .int x2)] [] (zPic G m)
set_option maxRecDepth 100000 in
theorem con_X4_isWord {l : Launch} {G : zG} (hL : zLay G) {Pre : Nat → Nat → zM → Prop} {Post : Nat → Nat → zM → Int32 → Prop} (h : ∀ (C : zC) (Qc : Array Value → State → Outcome → State → Prop), St_X4_isWord C G Qc → zl C = l → ∀ (a0 t1 : Nat) (m : zM), zK G a0 = some (4, a0) → t1 < 13 → Pre a0 t1 m → (∀ (r : Int32), Post a0 t1 m r → zRet C G Qc (some (.int r)) m) → Pt_X4_isWord_0 C G a0 t1 m) : Con_X4_isWord l G Pre Post := by
  intro a0 t1 m ka0 kt1 hpre
  refine zMetD hL (by decide +kernel) rfl (Nat.le_of_ble_eq_true rfl) (fun C hF hQ hA hR hl hnm => ?_)
  exact h C _ ⟨hF, hQ, hR⟩ hl a0 t1 m ka0 kt1 hpre (fun r hp => zRet_to hF (fun t hw hf => ⟨⟨r, m, rfl, ⟨rfl, hp⟩, hw⟩, hf.1, by rw [← hA]; exact hf.2⟩))
abbrev rm_X4_takeWord : Room := { frames := 5, cells := 0, slots := 0, locals := 107 }
def Con_X4_takeWord (l : Launch) (G : zG) (Pre : Nat → Nat → zM → Prop) (Post : Nat → Nat → zM → Int32 → zM → Prop) : Prop := ∀ (a0 t1 : Nat) (m : zM), zK G a0 = some (4, a0) → t1 < 13 → Pre a0 t1 m → Met l yX4_takeWord wsX4_takeWord rm_X4_takeWord (va_Pc [.ref a0, .ref (zaK G t1)] (fun U => zW G m U)) (va_Qi (fun r m' => Post a0 t1 m r m') (fun m' t => zW G m' t) (zdom G)) 0 0 (zdom G)
def St_X4_takeWord (C : zC) (G : zG) (Qc : Array Value → State → Outcome → State → Prop) : Prop := zF C G cX4_takeWord 2 wsX4_takeWord RX4 ∧ zQm C Qc (some .boolean) 0 0 ∧ zRm C = rm_X4_takeWord
def Pt_X4_takeWord_0 (C : zC) (G : zG) (a0 t1 : Nat) (m : zM) : Prop := zX C 2 0 0 0 [(0, .ref a0), (1, .ref (zaK G t1))] [] (zPic G m)
set_option maxRecDepth 100000 in
theorem con_X4_takeWord {l : Launch} {G : zG} (hL : zLay G) {Pre : Nat → Nat → zM → Prop} {Post : Nat → Nat → zM → Int32 → zM → Prop} (h : ∀ (C : zC) (Qc : Array Value → State → Outcome → State → Prop), St_X4_takeWord C G Qc → zl C = l → ∀ (a0 t1 : Nat) (m : zM), zK G a0 = some (4, a0) → t1 < 13 → Pre a0 t1 m → (∀ (r : Int32) (m' : zM), Post a0 t1 m r m' → zRet C G Qc (some (.int r)) m') → Pt_X4_takeWord_0 C G a0 t1 m) : Con_X4_takeWord l G Pre Post := by
  intro a0 t1 m ka0 kt1 hpre
  refine zMetD hL (by decide +kernel) rfl (Nat.le_of_ble_eq_true rfl) (fun C hF hQ hA hR hl hnm => ?_)
  exact h C _ ⟨hF, hQ, hR⟩ hl a0 t1 m ka0 kt1 hpre (fun r m' hp => zRet_to hF (fun t hw hf => ⟨⟨r, m', rfl, hp, hw⟩, hf.1, by rw [← hA]; exact hf.2⟩))
abbrev rm_X4_subjectAtHand : Room := { frames := 5, cells := 0, slots := 0, locals := 107 }
def Con_X4_subjectAtHand (l : Launch) (G : zG) (Pre : Nat → zM → Prop) (Post : Nat → zM → Int32 → Prop) : Prop := ∀ (a0 : Nat) (m : zM), zK G a0 = some (4, a0) → Pre a0 m → Met l yX4_subjectAtHand wsX4_subjectAtHand rm_X4_subjectAtHand (va_Pc [.ref a0] (fun U => zW G m U)) (va_Qi (fun r m' => m' = m ∧ Post a0 m r) (fun m' t => zW G m' t) (zdom G)) 0 0 (zdom G)
def St_X4_subjectAtHand (C : zC) (G : zG) (Qc : Array Value → State → Outcome → State → Prop) : Prop := zF C G cX4_subjectAtHand 1 wsX4_subjectAtHand RX4 ∧ zQm C Qc (some .int) 0 0 ∧ zRm C = rm_X4_subjectAtHand
def Pt_X4_subjectAtHand_0 (C : zC) (G : zG) (a0 : Nat) (m : zM) : Prop := zX C 1 0 0 0 [(0, .ref a0)] [] (zPic G m)
set_option maxRecDepth 100000 in
theorem con_X4_subjectAtHand {l : Launch} {G : zG} (hL : zLay G) {Pre : Nat → zM → Prop} {Post : Nat → zM → Int32 → Prop} (h : ∀ (C : zC) (Qc : Array Value → State → Outcome → State → Prop), St_X4_subjectAtHand C G Qc → zl C = l → ∀ (a0 : Nat) (m : zM), zK G a0 = some (4, a0) → Pre a0 m → (∀ (r : Int32), Post a0 m r → zRet C G Qc (some (.int r)) m) → Pt_X4_subjectAtHand_0 C G a0 m) : Con_X4_subjectAtHand l G Pre Post := by
  intro a0 m ka0 hpre
  refine zMetD hL (by decide +kernel) rfl (Nat.le_of_ble_eq_true rfl) (fun C hF hQ hA hR hl hnm => ?_)
  exact h C _ ⟨hF, hQ, hR⟩ hl a0 m ka0 hpre (fun r hp => zRet_to hF (fun t hw hf => ⟨⟨r, m, rfl, ⟨rfl, hp⟩, hw⟩, hf.1, by rw [← hA]; exact hf.2⟩))
abbrev rm_X4_numberAtHand : Room := { frames := 0, cells := 0, slots := 0, locals := 0 }
def Con_X4_numberAtHand (l : Launch) (G : zG) (Pre : Nat → zM → Prop) (Post : Nat → zM → Int32 → Prop) : Prop := ∀ (a0 : Nat) (m : zM), zK G a0 = some (4, a0) → Pre a0 m → Met l yX4_numberAtHand wsX4_numberAtHand rm_X4_numberAtHand (va_Pc [.ref a0] (fun U => zW G m U)) (va_Qi (fun r m' => m' = m ∧ Post a0 m r) (fun m' t => zW G m' t) (zdom G)) 0 0 (zdom G)
def St_X4_numberAtHand (C : zC) (G : zG) (Qc : Array Value → State → Outcome → State → Prop) : Prop := zF C G cX4_numberAtHand 3 wsX4_numberAtHand RX4 ∧ zQm C Qc (some .int) 0 0 ∧ zRm C = rm_X4_numberAtHand
def Pt_X4_numberAtHand_0 (C : zC) (G : zG) (a0 : Nat) (m : zM) : Prop := zX C 3 0 0 0 [(0, .ref a0)] [] (zPic G m)
def Pt_X4_numberAtHand_7 (C : zC) (G : zG) (a0 : Nat) (x1 x2 : Int32) (m : zM) : Prop := zX C 3 0 0 7 [(0, .ref a0), (1, .int x1), (2, .int x2)] [] (zPic G m)
set_option maxRecDepth 100000 in
theorem con_X4_numberAtHand {l : Launch} {G : zG} (hL : zLay G) {Pre : Nat → zM → Prop} {Post : Nat → zM → Int32 → Prop} (h : ∀ (C : zC) (Qc : Array Value → State → Outcome → State → Prop), St_X4_numberAtHand C G Qc → zl C = l → ∀ (a0 : Nat) (m : zM), zK G a0 = some (4, a0) → Pre a0 m → (∀ (r : Int32), Post a0 m r → zRet C G Qc (some (.int r)) m) → Pt_X4_numberAtHand_0 C G a0 m) : Con_X4_numberAtHand l G Pre Post := by
  intro a0 m ka0 hpre
  refine zMetD hL (by decide +kernel) rfl (Nat.le_of_ble_eq_true rfl) (fun C hF hQ hA hR hl hnm => ?_)
  exact h C _ ⟨hF, hQ, hR⟩ hl a0 m ka0 hpre (fun r hp => zRet_to hF (fun t hw hf => ⟨⟨r, m, rfl, ⟨rfl, hp⟩, hw⟩, hf.1, by rw [← hA]; exact hf.2⟩))
abbrev rm_X4_readTest : Room := { frames := 6, cells := 0, slots := 0, locals := 128 }
def Con_X4_readTest (l : Launch) (G : zG) (Pre : Nat → zM → Prop) (Post : Nat → zM → Int32 → zM → Prop) : Prop := ∀ (a0 : Nat) (m : zM), zK G a0 = some (4, a0) → Pre a0 m → Met l yX4_readTest wsX4_readTest rm_X4_readTest (va_Pc [.ref a0] (fun U => zW G m U)) (va_Qi (fun r m' => Post a0 m r m') (fun m' t => zW G m' t) (zdom G)) 0 0 (zdom G)
def St_X4_readTest (C : zC) (G : zG) (Qc : Array Value → State → Outcome → State → Prop) : Prop := zF C G cX4_readTest 5 wsX4_readTest RX4 ∧ zQm C Qc (some .boolean) 0 0 ∧ zRm C = rm_X4_readTest
def Pt_X4_readTest_0 (C : zC) (G : zG) (a0 : Nat) (m : zM) : Prop := zX C 5 0 0 0 [(0, .ref a0)] [] (zPic G m)
def Pt_X4_readTest_68 (C : zC) (G : zG) (a0 : Nat) (x1 x2 x3 : Int32) (m : zM) : Prop := zX C 5 0 0 68 [(0, .ref a0), (1, .int x1), (2, .int x2), (3, .int x3)] [] (zPic G m)
def Pt_X4_readTest_101 (C : zC) (G : zG) (a0 : Nat) (x1 x2 x3 x4 : Int32) (m : zM) : Prop := zX C 5 0 0 101 [(0, .ref a0), (1, .int x1), (2, .int x2), (3, .int x3), (4, .int x4)] [] (zPic G m)
set_option maxRecDepth 100000 in
theorem con_X4_readTest {l : Launch} {G : zG} (hL : zLay G) {Pre : Nat → zM → Prop} {Post : Nat → zM → Int32 → zM → Prop} (h : ∀ (C : zC) (Qc : Array Value → State → Outcome → State → Prop), St_X4_readTest C G Qc → zl C = l → ∀ (a0 : Nat) (m : zM), zK G a0 = some (4, a0) → Pre a0 m → (∀ (r : Int32) (m' : zM), Post a0 m r m' → zRet C G Qc (some (.int r)) m') → Pt_X4_readTest_0 C G a0 m) : Con_X4_readTest l G Pre Post := by
  intro a0 m ka0 hpre
  refine zMetD hL (by decide +kernel) rfl (Nat.le_of_ble_eq_true rfl) (fun C hF hQ hA hR hl hnm => ?_)
  exact h C _ ⟨hF, hQ, hR⟩ hl a0 m ka0 hpre (fun r m' hp => zRet_to hF (fun t hw hf => ⟨⟨r, m', rfl, hp, hw⟩, hf.1, by rw [← hA]; exact hf.2⟩))
abbrev rm_X4_actAtHand : Room := { frames := 5, cells := 0, slots := 0, locals := 107 }
def Con_X4_actAtHand (l : Launch) (G : zG) (Pre : Nat → zM → Prop) (Post : Nat → zM → Int32 → Prop) : Prop := ∀ (a0 : Nat) (m : zM), zK G a0 = some (4, a0) → Pre a0 m → Met l yX4_actAtHand wsX4_actAtHand rm_X4_actAtHand (va_Pc [.ref a0] (fun U => zW G m U)) (va_Qi (fun r m' => m' = m ∧ Post a0 m r) (fun m' t => zW G m' t) (zdom G)) 0 0 (zdom G)
def St_X4_actAtHand (C : zC) (G : zG) (Qc : Array Value → State → Outcome → State → Prop) : Prop := zF C G cX4_actAtHand 1 wsX4_actAtHand RX4 ∧ zQm C Qc (some .int) 0 0 ∧ zRm C = rm_X4_actAtHand
def Pt_X4_actAtHand_0 (C : zC) (G : zG) (a0 : Nat) (m : zM) : Prop := zX C 1 0 0 0 [(0, .ref a0)] [] (zPic G m)
set_option maxRecDepth 100000 in
theorem con_X4_actAtHand {l : Launch} {G : zG} (hL : zLay G) {Pre : Nat → zM → Prop} {Post : Nat → zM → Int32 → Prop} (h : ∀ (C : zC) (Qc : Array Value → State → Outcome → State → Prop), St_X4_actAtHand C G Qc → zl C = l → ∀ (a0 : Nat) (m : zM), zK G a0 = some (4, a0) → Pre a0 m → (∀ (r : Int32), Post a0 m r → zRet C G Qc (some (.int r)) m) → Pt_X4_actAtHand_0 C G a0 m) : Con_X4_actAtHand l G Pre Post := by
  intro a0 m ka0 hpre
  refine zMetD hL (by decide +kernel) rfl (Nat.le_of_ble_eq_true rfl) (fun C hF hQ hA hR hl hnm => ?_)
  exact h C _ ⟨hF, hQ, hR⟩ hl a0 m ka0 hpre (fun r hp => zRet_to hF (fun t hw hf => ⟨⟨r, m, rfl, ⟨rfl, hp⟩, hw⟩, hf.1, by rw [← hA]; exact hf.2⟩))
abbrev rm_X4_readAct : Room := { frames := 6, cells := 0, slots := 0, locals := 127 }
def Con_X4_readAct (l : Launch) (G : zG) (Pre : Nat → zM → Prop) (Post : Nat → zM → Int32 → zM → Prop) : Prop := ∀ (a0 : Nat) (m : zM), zK G a0 = some (4, a0) → Pre a0 m → Met l yX4_readAct wsX4_readAct rm_X4_readAct (va_Pc [.ref a0] (fun U => zW G m U)) (va_Qi (fun r m' => Post a0 m r m') (fun m' t => zW G m' t) (zdom G)) 0 0 (zdom G)
def St_X4_readAct (C : zC) (G : zG) (Qc : Array Value → State → Outcome → State → Prop) : Prop := zF C G cX4_readAct 3 wsX4_readAct RX4 ∧ zQm C Qc (some .boolean) 0 0 ∧ zRm C = rm_X4_readAct
def Pt_X4_readAct_0 (C : zC) (G : zG) (a0 : Nat) (m : zM) : Prop := zX C 3 0 0 0 [(0, .ref a0)] [] (zPic G m)
def Pt_X4_readAct_42 (C : zC) (G : zG) (a0 : Nat) (x1 x2 : Int32) (m : zM) : Prop := zX C 3 0 0 42 [(0, .ref a0), (1, .int x1), (2, .int x2)] [] (zPic G m)
set_option maxRecDepth 100000 in
theorem con_X4_readAct {l : Launch} {G : zG} (hL : zLay G) {Pre : Nat → zM → Prop} {Post : Nat → zM → Int32 → zM → Prop} (h : ∀ (C : zC) (Qc : Array Value → State → Outcome → State → Prop), St_X4_readAct C G Qc → zl C = l → ∀ (a0 : Nat) (m : zM), zK G a0 = some (4, a0) → Pre a0 m → (∀ (r : Int32) (m' : zM), Post a0 m r m' → zRet C G Qc (some (.int r)) m') → Pt_X4_readAct_0 C G a0 m) : Con_X4_readAct l G Pre Post := by
  intro a0 m ka0 hpre
  refine zMetD hL (by decide +kernel) rfl (Nat.le_of_ble_eq_true rfl) (fun C hF hQ hA hR hl hnm => ?_)
  exact h C _ ⟨hF, hQ, hR⟩ hl a0 m ka0 hpre (fun r m' hp => zRet_to hF (fun t hw hf => ⟨⟨r, m', rfl, hp, hw⟩, hf.1, by rw [← hA]; exact hf.2⟩))
abbrev rm_X4_readLine : Room := { frames := 7, cells := 0, slots := 0, locals := 152 }
def Con_X4_readLine (l : Launch) (G : zG) (Pre : Nat → zM → Prop) (Post : Nat → zM → Int32 → zM → Prop) : Prop := ∀ (a0 : Nat) (m : zM), zK G a0 = some (4, a0) → Pre a0 m → Met l yX4_readLine wsX4_readLine rm_X4_readLine (va_Pc [.ref a0] (fun U => zW G m U)) (va_Qi (fun r m' => Post a0 m r m') (fun m' t => zW G m' t) (zdom G)) 0 0 (zdom G)
def St_X4_readLine (C : zC) (G : zG) (Qc : Array Value → State → Outcome → State → Prop) : Prop := zF C G cX4_readLine 2 wsX4_readLine RX4 ∧ zQm C Qc (some .boolean) 0 0 ∧ zRm C = rm_X4_readLine
def Pt_X4_readLine_0 (C : zC) (G : zG) (a0 : Nat) (m : zM) : Prop := zX C 2 0 0 0 [(0, .ref a0)] [] (zPic G m)
def Pt_X4_readLine_11 (C : zC) (G : zG) (a0 : Nat) (x1 : Int32) (m : zM) : Prop := zX C 2 0 0 11 [(0, .ref a0), (1, .int x1)] [] (zPic G m)
def Pt_X4_readLine_21 (C : zC) (G : zG) (a0 : Nat) (x1 : Int32) (m : zM) : Prop := zX C 2 0 0 21 [(0, .ref a0), (1, .int x1)] [] (zPic G m)
def Pt_X4_readLine_50 (C : zC) (G : zG) (a0 : Nat) (m : zM) : Prop := zX C 2 0 0 50 [(0, .ref a0)] [] (zPic G m)
set_option maxRecDepth 100000 in
theorem con_X4_readLine {l : Launch} {G : zG} (hL : zLay G) {Pre : Nat → zM → Prop} {Post : Nat → zM → Int32 → zM → Prop} (h : ∀ (C : zC) (Qc : Array Value → State → Outcome → State → Prop), St_X4_readLine C G Qc → zl C = l → ∀ (a0 : Nat) (m : zM), zK G a0 = some (4, a0) → Pre a0 m → (∀ (r : Int32) (m' : zM), Post a0 m r m' → zRet C G Qc (some (.int r)) m') → Pt_X4_readLine_0 C G a0 m) : Con_X4_readLine l G Pre Post := by
  intro a0 m ka0 hpre
  refine zMetD hL (by decide +kernel) rfl (Nat.le_of_ble_eq_true rfl) (fun C hF hQ hA hR hl hnm => ?_)
  exact h C _ ⟨hF, hQ, hR⟩ hl a0 m ka0 hpre (fun r m' hp => zRet_to hF (fun t hw hf => ⟨⟨r, m', rfl, hp, hw⟩, hf.1, by rw [← hA]; exact hf.2⟩))
abbrev rm_X4_read : Room := { frames := 8, cells := 0, slots := 0, locals := 173 }
def Con_X4_read (l : Launch) (G : zG) (Pre : Nat → zM → Prop) (Post : Nat → zM → zM → Prop) : Prop := ∀ (a0 : Nat) (m : zM), zK G a0 = some (4, a0) → Pre a0 m → Met l yX4_read wsX4_read rm_X4_read (va_Pc [.ref a0] (fun U => zW G m U)) (va_Qv (fun m' => Post a0 m m') (fun m' t => zW G m' t) (zdom G)) 0 0 (zdom G)
def St_X4_read (C : zC) (G : zG) (Qc : Array Value → State → Outcome → State → Prop) : Prop := zF C G cX4_read 2 wsX4_read RX4 ∧ zQm C Qc none 0 0 ∧ zRm C = rm_X4_read
def Pt_X4_read_0 (C : zC) (G : zG) (a0 : Nat) (m : zM) : Prop := zX C 2 0 0 0 [(0, .ref a0)] [] (zPic G m)
def Pt_X4_read_13 (C : zC) (G : zG) (a0 : Nat) (x1 : Int32) (m : zM) : Prop := zX C 2 0 0 13 [(0, .ref a0), (1, .int x1)] [] (zPic G m)
def Pt_X4_read_39 (C : zC) (G : zG) (a0 : Nat) (x1 : Int32) (m : zM) : Prop := zX C 2 0 0 39 [(0, .ref a0), (1, .int x1)] [] (zPic G m)
set_option maxRecDepth 100000 in
theorem con_X4_read {l : Launch} {G : zG} (hL : zLay G) {Pre : Nat → zM → Prop} {Post : Nat → zM → zM → Prop} (h : ∀ (C : zC) (Qc : Array Value → State → Outcome → State → Prop), St_X4_read C G Qc → zl C = l → ∀ (a0 : Nat) (m : zM), zK G a0 = some (4, a0) → Pre a0 m → (∀ (m' : zM), Post a0 m m' → zRet C G Qc none m') → Pt_X4_read_0 C G a0 m) : Con_X4_read l G Pre Post := by
  intro a0 m ka0 hpre
  refine zMetD hL (by decide +kernel) rfl (Nat.le_of_ble_eq_true rfl) (fun C hF hQ hA hR hl hnm => ?_)
  exact h C _ ⟨hF, hQ, hR⟩ hl a0 m ka0 hpre (fun m' hp => zRet_to hF (fun t hw hf => ⟨⟨m', rfl, hp, hw⟩, hf.1, by rw [← hA]; exact hf.2⟩))
