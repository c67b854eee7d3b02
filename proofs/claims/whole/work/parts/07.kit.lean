/-! THE ABSTRACT MEMORY: ints, longs, addresses, addresses or null; each by field, owner, index -/
abbrev zM : Type := (Nat → Nat → Nat → Int32) × (Nat → Nat → Nat → Int64) × (Nat → Nat → Nat) × (Nat → Nat → Nat → Option Nat)
def zI (m : zM) (f a j : Nat) : Int32 := m.1 f a j
def zJ (m : zM) (f a j : Nat) : Int64 := m.2.1 f a j
def zR (m : zM) (f a : Nat) : Nat := m.2.2.1 f a
def zQ (m : zM) (f a j : Nat) : Option Nat := m.2.2.2 f a j
def zu {α : Type} (F : Nat → Nat → Nat → α) (f a j : Nat) (v : α) : Nat → Nat → Nat → α := fun f' a' j' => if f' = f ∧ a' = a ∧ j' = j then v else F f' a' j'
def zsI (m : zM) (f a j : Nat) (v : Int32) : zM := (zu m.1 f a j v, m.2)
def zsJ (m : zM) (f a j : Nat) (v : Int64) : zM := (m.1, zu m.2.1 f a j v, m.2.2)
def zsR (m : zM) (f a : Nat) (v : Nat) : zM := (m.1, m.2.1, (fun f' a' => if f' = f ∧ a' = a then v else m.2.2.1 f' a'), m.2.2.2)
def zsQ (m : zM) (f a j : Nat) (v : Option Nat) : zM := (m.1, m.2.1, m.2.2.1, zu m.2.2.2 f a j v)
/-- a whole row of ints, of longs -/
def zcI (m : zM) (f a : Nat) (g : Nat → Int32) : zM := ((fun f' a' j' => if f' = f ∧ a' = a then g j' else m.1 f' a' j'), m.2)
def zcJ (m : zM) (f a : Nat) (g : Nat → Int64) : zM := (m.1, (fun f' a' j' => if f' = f ∧ a' = a then g j' else m.2.1 f' a' j'), m.2.2)
theorem zI_sI (m : zM) (f a j f' a' j' : Nat) (v : Int32) : zI (zsI m f a j v) f' a' j' = if f' = f ∧ a' = a ∧ j' = j then v else zI m f' a' j' := rfl
theorem zI_sJ (m : zM) (f a j f' a' j' : Nat) (v : Int64) : zI (zsJ m f a j v) f' a' j' = zI m f' a' j' := rfl
theorem zI_sR (m : zM) (f a f' a' j' v : Nat) : zI (zsR m f a v) f' a' j' = zI m f' a' j' := rfl
theorem zI_sQ (m : zM) (f a j f' a' j' : Nat) (v : Option Nat) : zI (zsQ m f a j v) f' a' j' = zI m f' a' j' := rfl
theorem zI_cI (m : zM) (f a f' a' j' : Nat) (g : Nat → Int32) : zI (zcI m f a g) f' a' j' = if f' = f ∧ a' = a then g j' else zI m f' a' j' := rfl
theorem zI_cJ (m : zM) (f a f' a' j' : Nat) (g : Nat → Int64) : zI (zcJ m f a g) f' a' j' = zI m f' a' j' := rfl
theorem zJ_sI (m : zM) (f a j f' a' j' : Nat) (v : Int32) : zJ (zsI m f a j v) f' a' j' = zJ m f' a' j' := rfl
theorem zJ_sJ (m : zM) (f a j f' a' j' : Nat) (v : Int64) : zJ (zsJ m f a j v) f' a' j' = if f' = f ∧ a' = a ∧ j' = j then v else zJ m f' a' j' := rfl
theorem zJ_sR (m : zM) (f a f' a' j' v : Nat) : zJ (zsR m f a v) f' a' j' = zJ m f' a' j' := rfl
theorem zJ_sQ (m : zM) (f a j f' a' j' : Nat) (v : Option Nat) : zJ (zsQ m f a j v) f' a' j' = zJ m f' a' j' := rfl
theorem zJ_cI (m : zM) (f a f' a' j' : Nat) (g : Nat → Int32) : zJ (zcI m f a g) f' a' j' = zJ m f' a' j' := rfl
theorem zJ_cJ (m : zM) (f a f' a' j' : Nat) (g : Nat → Int64) : zJ (zcJ m f a g) f' a' j' = if f' = f ∧ a' = a then g j' else zJ m f' a' j' := rfl
theorem zR_sI (m : zM) (f a j f' a' : Nat) (v : Int32) : zR (zsI m f a j v) f' a' = zR m f' a' := rfl
theorem zR_sJ (m : zM) (f a j f' a' : Nat) (v : Int64) : zR (zsJ m f a j v) f' a' = zR m f' a' := rfl
theorem zR_sR (m : zM) (f a f' a' v : Nat) : zR (zsR m f a v) f' a' = if f' = f ∧ a' = a then v else zR m f' a' := rfl
theorem zR_sQ (m : zM) (f a j f' a' : Nat) (v : Option Nat) : zR (zsQ m f a j v) f' a' = zR m f' a' := rfl
theorem zR_cI (m : zM) (f a f' a' : Nat) (g : Nat → Int32) : zR (zcI m f a g) f' a' = zR m f' a' := rfl
theorem zR_cJ (m : zM) (f a f' a' : Nat) (g : Nat → Int64) : zR (zcJ m f a g) f' a' = zR m f' a' := rfl
theorem zQ_sI (m : zM) (f a j f' a' j' : Nat) (v : Int32) : zQ (zsI m f a j v) f' a' j' = zQ m f' a' j' := rfl
theorem zQ_sJ (m : zM) (f a j f' a' j' : Nat) (v : Int64) : zQ (zsJ m f a j v) f' a' j' = zQ m f' a' j' := rfl
theorem zQ_sR (m : zM) (f a f' a' j' v : Nat) : zQ (zsR m f a v) f' a' j' = zQ m f' a' j' := rfl
theorem zQ_sQ (m : zM) (f a j f' a' j' : Nat) (v : Option Nat) : zQ (zsQ m f a j v) f' a' j' = if f' = f ∧ a' = a ∧ j' = j then v else zQ m f' a' j' := rfl
theorem zQ_cI (m : zM) (f a f' a' j' : Nat) (g : Nat → Int32) : zQ (zcI m f a g) f' a' j' = zQ m f' a' j' := rfl
theorem zQ_cJ (m : zM) (f a f' a' j' : Nat) (g : Nat → Int64) : zQ (zcJ m f a g) f' a' j' = zQ m f' a' j' := rfl
/-! CELLS BY KINDS. kinds 0 .. 6: the classes' objects, owner: itself; 50 .. 56: the same while they are made; 1000 + 100 c + k: the row that field k of an object of class c holds, owner: that object -/
abbrev zG : Type := va_G × (Nat → ClassId) × (Nat → Option (Nat × Nat)) × Nat × Nat × (Nat → Nat) × (Nat → Nat)
abbrev zD (G : zG) : va_G := G.1
abbrev zcy (G : zG) : Nat → ClassId := G.2.1
abbrev zK (G : zG) : Nat → Option (Nat × Nat) := G.2.2.1
abbrev zsz (G : zG) : Nat := G.2.2.2.1
abbrev zbs (G : zG) : Nat := G.2.2.2.2.1
abbrev zaK (G : zG) : Nat → Nat := G.2.2.2.2.2.1
abbrev zaV (G : zG) : Nat → Nat := G.2.2.2.2.2.2
def zfs0 (o : Nat) (m : zM) : List Value := [.long (zJ m 0 o 0), .ref (o + 1), .int (zI m 2 o 0), .ref (zR m 3 o), .int (zI m 4 o 0), .int (zI m 5 o 0), .ref (o + 10), .int (zI m 7 o 0), .int (zI m 8 o 0), .int (zI m 9 o 0)]
def zfr0 (o : Nat) (m : zM) : List Value := [.long (zJ m 0 o 0), va_rf (zQ m 1 o 0), .int (zI m 2 o 0), va_rf (zQ m 3 o 0), .int (zI m 4 o 0), .int (zI m 5 o 0), va_rf (zQ m 6 o 0), .int (zI m 7 o 0), .int (zI m 8 o 0), .int (zI m 9 o 0)]
def zfs1 (o : Nat) (m : zM) : List Value := [.int (zI m 100 o 0), .int (zI m 101 o 0), .int (zI m 102 o 0), .int (zI m 103 o 0), .int (zI m 104 o 0), .int (zI m 105 o 0), .int (zI m 106 o 0), .int (zI m 107 o 0), .ref (o + 1)]
def zfr1 (o : Nat) (m : zM) : List Value := [.int (zI m 100 o 0), .int (zI m 101 o 0), .int (zI m 102 o 0), .int (zI m 103 o 0), .int (zI m 104 o 0), .int (zI m 105 o 0), .int (zI m 106 o 0), .int (zI m 107 o 0), va_rf (zQ m 108 o 0)]
def zfs2 (o : Nat) (m : zM) : List Value := [.int (zI m 200 o 0), .ref (o + 1), .ref (o + 2), .ref (o + 3), .ref (o + 4), .ref (o + 5), .ref (o + 6), .ref (o + 7)]
def zfr2 (o : Nat) (m : zM) : List Value := [.int (zI m 200 o 0), va_rf (zQ m 201 o 0), va_rf (zQ m 202 o 0), va_rf (zQ m 203 o 0), va_rf (zQ m 204 o 0), va_rf (zQ m 205 o 0), va_rf (zQ m 206 o 0), va_rf (zQ m 207 o 0)]
def zfs3 (o : Nat) (m : zM) : List Value := [.int (zI m 300 o 0), .int (zI m 301 o 0), .int (zI m 302 o 0), .long (zJ m 303 o 0), .long (zJ m 304 o 0), .long (zJ m 305 o 0), .ref (o + 1), .ref (o + 2), .ref (o + 3), .ref (o + 4), .ref (o + 5)]
def zfr3 (o : Nat) (m : zM) : List Value := [.int (zI m 300 o 0), .int (zI m 301 o 0), .int (zI m 302 o 0), .long (zJ m 303 o 0), .long (zJ m 304 o 0), .long (zJ m 305 o 0), va_rf (zQ m 306 o 0), va_rf (zQ m 307 o 0), va_rf (zQ m 308 o 0), va_rf (zQ m 309 o 0), va_rf (zQ m 310 o 0)]
def zfs4 (o : Nat) (m : zM) : List Value := [.ref (zR m 400 o + 1), .int (zI m 401 o 0), .ref (zR m 402 o), .int (zI m 403 o 0), .int (zI m 404 o 0), .int (zI m 405 o 0), .int (zI m 406 o 0), .int (zI m 407 o 0)]
def zfr4 (o : Nat) (m : zM) : List Value := [va_rf (zQ m 400 o 0), .int (zI m 401 o 0), va_rf (zQ m 402 o 0), .int (zI m 403 o 0), .int (zI m 404 o 0), .int (zI m 405 o 0), .int (zI m 406 o 0), .int (zI m 407 o 0)]
def zfs5 (o : Nat) (m : zM) : List Value := [.ref (o + 1), .ref (o + 124), .ref (zR m 502 o)]
def zfr5 (o : Nat) (m : zM) : List Value := [va_rf (zQ m 500 o 0), va_rf (zQ m 501 o 0), va_rf (zQ m 502 o 0)]
def zfs6 (o : Nat) (m : zM) : List Value := [.int (zI m 600 o 0), .ref (o + 1), .ref (o + 2), .ref (o + 3), .ref (o + 4), .ref (o + 5), .ref (o + 6), .ref (o + 7), .ref (o + 8), .ref (o + 9), .ref (o + 10), .ref (o + 11), .ref (o + 12), .ref (o + 13), .ref (o + 14), .ref (o + 15), .ref (o + 16), .ref (o + 17), .ref (o + 18), .ref (o + 19), .ref (o + 20), .ref (o + 21), .ref (o + 22), .ref (o + 23), .ref (o + 24), .int (zI m 625 o 0), .int (zI m 626 o 0), .int (zI m 627 o 0), .int (zI m 628 o 0), .int (zI m 629 o 0), .long (zJ m 630 o 0), .int (zI m 631 o 0), .int (zI m 632 o 0), .int (zI m 633 o 0), .int (zI m 634 o 0), .ref (o + 25), .ref (o + 26), .ref (o + 27), .ref (o + 28), .ref (o + 29), .ref (o + 30), .int (zI m 641 o 0), .ref (o + 31), .ref (o + 32), .ref (o + 33), .ref (o + 34), .ref (o + 35), .ref (o + 36), .ref (o + 37), .ref (o + 38)]
def zfr6 (o : Nat) (m : zM) : List Value := [.int (zI m 600 o 0), va_rf (zQ m 601 o 0), va_rf (zQ m 602 o 0), va_rf (zQ m 603 o 0), va_rf (zQ m 604 o 0), va_rf (zQ m 605 o 0), va_rf (zQ m 606 o 0), va_rf (zQ m 607 o 0), va_rf (zQ m 608 o 0), va_rf (zQ m 609 o 0), va_rf (zQ m 610 o 0), va_rf (zQ m 611 o 0), va_rf (zQ m 612 o 0), va_rf (zQ m 613 o 0), va_rf (zQ m 614 o 0), va_rf (zQ m 615 o 0), va_rf (zQ m 616 o 0), va_rf (zQ m 617 o 0), va_rf (zQ m 618 o 0), va_rf (zQ m 619 o 0), va_rf (zQ m 620 o 0), va_rf (zQ m 621 o 0), va_rf (zQ m 622 o 0), va_rf (zQ m 623 o 0), va_rf (zQ m 624 o 0), .int (zI m 625 o 0), .int (zI m 626 o 0), .int (zI m 627 o 0), .int (zI m 628 o 0), .int (zI m 629 o 0), .long (zJ m 630 o 0), .int (zI m 631 o 0), .int (zI m 632 o 0), .int (zI m 633 o 0), .int (zI m 634 o 0), va_rf (zQ m 635 o 0), va_rf (zQ m 636 o 0), va_rf (zQ m 637 o 0), va_rf (zQ m 638 o 0), va_rf (zQ m 639 o 0), va_rf (zQ m 640 o 0), .int (zI m 641 o 0), va_rf (zQ m 642 o 0), va_rf (zQ m 643 o 0), va_rf (zQ m 644 o 0), va_rf (zQ m 645 o 0), va_rf (zQ m 646 o 0), va_rf (zQ m 647 o 0), va_rf (zQ m 648 o 0), va_rf (zQ m 649 o 0)]
def zfs (c o : Nat) (m : zM) : List Value := if c = 0 then zfs0 o m else if c = 1 then zfs1 o m else if c = 2 then zfs2 o m else if c = 3 then zfs3 o m else if c = 4 then zfs4 o m else if c = 5 then zfs5 o m else if c = 6 then zfs6 o m else if c = 50 then zfr0 o m else if c = 51 then zfr1 o m else if c = 52 then zfr2 o m else if c = 53 then zfr3 o m else if c = 54 then zfr4 o m else if c = 55 then zfr5 o m else if c = 56 then zfr6 o m else []
/-- the element type of a row: 0 byte, 1 int, 2 long, 3 boolean, 4 Book, 5 Claim -/
def zty (c : Nat) : Nat := if c = 1001 ∨ c = 1601 then 0 else if c = 1307 ∨ c = 1308 ∨ c = 1310 ∨ c = 1605 ∨ c = 1610 ∨ c = 1611 ∨ c = 1612 ∨ c = 1614 ∨ c = 1615 ∨ c = 1617 ∨ c = 1648 then 2 else if c = 1207 ∨ c = 1608 ∨ c = 1649 then 3 else if c = 1501 then 4 else if c = 1006 ∨ c = 1056 then 5 else 1
def zal (c : Nat) : Nat := if c = 1501 ∨ c = 1649 then 3 else if c = 1306 ∨ c = 1307 ∨ c = 1308 ∨ c = 1309 ∨ c = 1310 ∨ c = 1602 ∨ c = 1603 ∨ c = 1604 ∨ c = 1605 ∨ c = 1606 ∨ c = 1607 ∨ c = 1608 ∨ c = 1618 then 4 else if c = 1006 ∨ c = 1056 ∨ c = 1201 ∨ c = 1202 ∨ c = 1203 ∨ c = 1642 ∨ c = 1646 ∨ c = 1647 ∨ c = 1648 then 16 else if c = 1635 ∨ c = 1639 ∨ c = 1640 then 17 else if c = 1204 ∨ c = 1205 ∨ c = 1206 ∨ c = 1207 ∨ c = 1610 ∨ c = 1611 ∨ c = 1612 ∨ c = 1619 ∨ c = 1623 ∨ c = 1624 ∨ c = 1636 ∨ c = 1637 ∨ c = 1638 ∨ c = 1643 ∨ c = 1644 ∨ c = 1645 then 64 else if c = 1613 ∨ c = 1614 ∨ c = 1615 ∨ c = 1616 ∨ c = 1617 ∨ c = 1620 ∨ c = 1621 ∨ c = 1622 then 256 else if c = 1001 then 400 else if c = 1609 then 640 else if c = 1601 then 1600 else 0
def zad (c o : Nat) (m : zM) : (Nat → Int32) ⊕ (Nat → Int64) ⊕ (Nat → UInt32) ⊕ (Nat → UInt64) ⊕ (Nat → Option Nat) := if zty c = 2 then .inr (.inl (zJ m c o)) else if zty c < 4 then .inl (zI m c o) else if c = 1006 then .inr (.inr (.inr (.inr (fun i => some (o + 11 + 7 * i))))) else .inr (.inr (.inr (.inr (zQ m c o))))
def zcell (G : zG) (c o : Nat) (m : zM) : va_E := if c < 1000 then .inr (c % 50, zfs c o m) else .inl (zcy G (zty c), zal c, zad c o m)
def zkey (c : Nat) : Nat := if c < 1000 then c % 50 else c
def zkf (f : Nat) : Nat := if f < 1000 then f / 100 else f
def zag (c o : Nat) (m m' : zM) : Prop := ∀ f, zkf f = zkey c → (∀ j, zI m f o j = zI m' f o j) ∧ (∀ j, zJ m f o j = zJ m' f o j) ∧ zR m f o = zR m' f o ∧ ∀ j, zQ m f o j = zQ m' f o j
theorem zfs0_ag {o : Nat} {m m' : zM} (h : zag 0 o m m') : zfs0 o m = zfs0 o m' := by
  unfold zfs0
  rw [(h 0 rfl).2.1 0, (h 2 rfl).1 0, (h 3 rfl).2.2.1, (h 4 rfl).1 0, (h 5 rfl).1 0, (h 7 rfl).1 0, (h 8 rfl).1 0, (h 9 rfl).1 0]
theorem zfr0_ag {o : Nat} {m m' : zM} (h : zag 50 o m m') : zfr0 o m = zfr0 o m' := by
  unfold zfr0
  rw [(h 0 rfl).2.1 0, (h 1 rfl).2.2.2 0, (h 2 rfl).1 0, (h 3 rfl).2.2.2 0, (h 4 rfl).1 0, (h 5 rfl).1 0, (h 6 rfl).2.2.2 0, (h 7 rfl).1 0, (h 8 rfl).1 0, (h 9 rfl).1 0]
theorem zfs1_ag {o : Nat} {m m' : zM} (h : zag 1 o m m') : zfs1 o m = zfs1 o m' := by
  unfold zfs1
  rw [(h 100 rfl).1 0, (h 101 rfl).1 0, (h 102 rfl).1 0, (h 103 rfl).1 0, (h 104 rfl).1 0, (h 105 rfl).1 0, (h 106 rfl).1 0, (h 107 rfl).1 0]
theorem zfr1_ag {o : Nat} {m m' : zM} (h : zag 51 o m m') : zfr1 o m = zfr1 o m' := by
  unfold zfr1
  rw [(h 100 rfl).1 0, (h 101 rfl).1 0, (h 102 rfl).1 0, (h 103 rfl).1 0, (h 104 rfl).1 0, (h 105 rfl).1 0, (h 106 rfl).1 0, (h 107 rfl).1 0, (h 108 rfl).2.2.2 0]
theorem zfs2_ag {o : Nat} {m m' : zM} (h : zag 2 o m m') : zfs2 o m = zfs2 o m' := by
  unfold zfs2
  rw [(h 200 rfl).1 0]
theorem zfr2_ag {o : Nat} {m m' : zM} (h : zag 52 o m m') : zfr2 o m = zfr2 o m' := by
  unfold zfr2
  rw [(h 200 rfl).1 0, (h 201 rfl).2.2.2 0, (h 202 rfl).2.2.2 0, (h 203 rfl).2.2.2 0, (h 204 rfl).2.2.2 0, (h 205 rfl).2.2.2 0, (h 206 rfl).2.2.2 0, (h 207 rfl).2.2.2 0]
theorem zfs3_ag {o : Nat} {m m' : zM} (h : zag 3 o m m') : zfs3 o m = zfs3 o m' := by
  unfold zfs3
  rw [(h 300 rfl).1 0, (h 301 rfl).1 0, (h 302 rfl).1 0, (h 303 rfl).2.1 0, (h 304 rfl).2.1 0, (h 305 rfl).2.1 0]
theorem zfr3_ag {o : Nat} {m m' : zM} (h : zag 53 o m m') : zfr3 o m = zfr3 o m' := by
  unfold zfr3
  rw [(h 300 rfl).1 0, (h 301 rfl).1 0, (h 302 rfl).1 0, (h 303 rfl).2.1 0, (h 304 rfl).2.1 0, (h 305 rfl).2.1 0, (h 306 rfl).2.2.2 0, (h 307 rfl).2.2.2 0, (h 308 rfl).2.2.2 0, (h 309 rfl).2.2.2 0, (h 310 rfl).2.2.2 0]
theorem zfs4_ag {o : Nat} {m m' : zM} (h : zag 4 o m m') : zfs4 o m = zfs4 o m' := by
  unfold zfs4
  rw [(h 400 rfl).2.2.1, (h 401 rfl).1 0, (h 402 rfl).2.2.1, (h 403 rfl).1 0, (h 404 rfl).1 0, (h 405 rfl).1 0, (h 406 rfl).1 0, (h 407 rfl).1 0]
theorem zfr4_ag {o : Nat} {m m' : zM} (h : zag 54 o m m') : zfr4 o m = zfr4 o m' := by
  unfold zfr4
  rw [(h 400 rfl).2.2.2 0, (h 401 rfl).1 0, (h 402 rfl).2.2.2 0, (h 403 rfl).1 0, (h 404 rfl).1 0, (h 405 rfl).1 0, (h 406 rfl).1 0, (h 407 rfl).1 0]
theorem zfs5_ag {o : Nat} {m m' : zM} (h : zag 5 o m m') : zfs5 o m = zfs5 o m' := by
  unfold zfs5
  rw [(h 502 rfl).2.2.1]
theorem zfr5_ag {o : Nat} {m m' : zM} (h : zag 55 o m m') : zfr5 o m = zfr5 o m' := by
  unfold zfr5
  rw [(h 500 rfl).2.2.2 0, (h 501 rfl).2.2.2 0, (h 502 rfl).2.2.2 0]
theorem zfs6_ag {o : Nat} {m m' : zM} (h : zag 6 o m m') : zfs6 o m = zfs6 o m' := by
  unfold zfs6
  rw [(h 600 rfl).1 0, (h 625 rfl).1 0, (h 626 rfl).1 0, (h 627 rfl).1 0, (h 628 rfl).1 0, (h 629 rfl).1 0, (h 630 rfl).2.1 0, (h 631 rfl).1 0, (h 632 rfl).1 0, (h 633 rfl).1 0, (h 634 rfl).1 0, (h 641 rfl).1 0]
theorem zfr6_ag {o : Nat} {m m' : zM} (h : zag 56 o m m') : zfr6 o m = zfr6 o m' := by
  unfold zfr6
  rw [(h 600 rfl).1 0, (h 601 rfl).2.2.2 0, (h 602 rfl).2.2.2 0, (h 603 rfl).2.2.2 0, (h 604 rfl).2.2.2 0, (h 605 rfl).2.2.2 0, (h 606 rfl).2.2.2 0, (h 607 rfl).2.2.2 0, (h 608 rfl).2.2.2 0, (h 609 rfl).2.2.2 0, (h 610 rfl).2.2.2 0, (h 611 rfl).2.2.2 0, (h 612 rfl).2.2.2 0, (h 613 rfl).2.2.2 0, (h 614 rfl).2.2.2 0, (h 615 rfl).2.2.2 0, (h 616 rfl).2.2.2 0, (h 617 rfl).2.2.2 0, (h 618 rfl).2.2.2 0, (h 619 rfl).2.2.2 0, (h 620 rfl).2.2.2 0, (h 621 rfl).2.2.2 0, (h 622 rfl).2.2.2 0, (h 623 rfl).2.2.2 0, (h 624 rfl).2.2.2 0, (h 625 rfl).1 0, (h 626 rfl).1 0, (h 627 rfl).1 0, (h 628 rfl).1 0, (h 629 rfl).1 0, (h 630 rfl).2.1 0, (h 631 rfl).1 0, (h 632 rfl).1 0, (h 633 rfl).1 0, (h 634 rfl).1 0, (h 635 rfl).2.2.2 0, (h 636 rfl).2.2.2 0, (h 637 rfl).2.2.2 0, (h 638 rfl).2.2.2 0, (h 639 rfl).2.2.2 0, (h 640 rfl).2.2.2 0, (h 641 rfl).1 0, (h 642 rfl).2.2.2 0, (h 643 rfl).2.2.2 0, (h 644 rfl).2.2.2 0, (h 645 rfl).2.2.2 0, (h 646 rfl).2.2.2 0, (h 647 rfl).2.2.2 0, (h 648 rfl).2.2.2 0, (h 649 rfl).2.2.2 0]
theorem zfs_ag {c o : Nat} {m m' : zM} (h : zag c o m m') : zfs c o m = zfs c o m' := by
  unfold zfs
  by_cases h0 : c = 0
  · subst h0; exact zfs0_ag h
  rw [if_neg h0, if_neg h0]
  by_cases h1 : c = 1
  · subst h1; exact zfs1_ag h
  rw [if_neg h1, if_neg h1]
  by_cases h2 : c = 2
  · subst h2; exact zfs2_ag h
  rw [if_neg h2, if_neg h2]
  by_cases h3 : c = 3
  · subst h3; exact zfs3_ag h
  rw [if_neg h3, if_neg h3]
  by_cases h4 : c = 4
  · subst h4; exact zfs4_ag h
  rw [if_neg h4, if_neg h4]
  by_cases h5 : c = 5
  · subst h5; exact zfs5_ag h
  rw [if_neg h5, if_neg h5]
  by_cases h6 : c = 6
  · subst h6; exact zfs6_ag h
  rw [if_neg h6, if_neg h6]
  by_cases h50 : c = 50
  · subst h50; exact zfr0_ag h
  rw [if_neg h50, if_neg h50]
  by_cases h51 : c = 51
  · subst h51; exact zfr1_ag h
  rw [if_neg h51, if_neg h51]
  by_cases h52 : c = 52
  · subst h52; exact zfr2_ag h
  rw [if_neg h52, if_neg h52]
  by_cases h53 : c = 53
  · subst h53; exact zfr3_ag h
  rw [if_neg h53, if_neg h53]
  by_cases h54 : c = 54
  · subst h54; exact zfr4_ag h
  rw [if_neg h54, if_neg h54]
  by_cases h55 : c = 55
  · subst h55; exact zfr5_ag h
  rw [if_neg h55, if_neg h55]
  by_cases h56 : c = 56
  · subst h56; exact zfr6_ag h
  rw [if_neg h56, if_neg h56]
theorem zcell_ag {G : zG} {c o : Nat} {m m' : zM} (h : zag c o m m') : zcell G c o m = zcell G c o m' := by
  unfold zcell
  by_cases hc : c < 1000
  · rw [if_pos hc, if_pos hc, zfs_ag h]
  · rw [if_neg hc, if_neg hc]
    have h1 : zkf c = zkey c := by
      unfold zkey zkf
      rw [if_neg hc, if_neg hc]
    obtain ⟨h2, h3, -, h4⟩ := h c h1
    have e2 : zI m c o = zI m' c o := funext h2
    have e3 : zJ m c o = zJ m' c o := funext h3
    have e4 : zQ m c o = zQ m' c o := funext h4
    unfold zad
    rw [e2, e3, e4]
theorem zag_sI {c o f a j : Nat} {m : zM} {v : Int32} (h : zkf f ≠ zkey c ∨ o ≠ a) : zag c o (zsI m f a j v) m := by
  intro f' hf
  refine ⟨fun j' => ?_, fun _ => rfl, rfl, fun _ => rfl⟩
  rw [zI_sI, if_neg]
  rintro ⟨rfl, rfl, -⟩
  rcases h with h | h
  · exact h hf
  · exact h rfl
theorem zag_sJ {c o f a j : Nat} {m : zM} {v : Int64} (h : zkf f ≠ zkey c ∨ o ≠ a) : zag c o (zsJ m f a j v) m := by
  intro f' hf
  refine ⟨fun _ => rfl, fun j' => ?_, rfl, fun _ => rfl⟩
  rw [zJ_sJ, if_neg]
  rintro ⟨rfl, rfl, -⟩
  rcases h with h | h
  · exact h hf
  · exact h rfl
theorem zag_sR {c o f a v : Nat} {m : zM} (h : zkf f ≠ zkey c ∨ o ≠ a) : zag c o (zsR m f a v) m := by
  intro f' hf
  refine ⟨fun _ => rfl, fun _ => rfl, ?_, fun _ => rfl⟩
  rw [zR_sR, if_neg]
  rintro ⟨rfl, rfl⟩
  rcases h with h | h
  · exact h hf
  · exact h rfl
theorem zag_sQ {c o f a j : Nat} {m : zM} {v : Option Nat} (h : zkf f ≠ zkey c ∨ o ≠ a) : zag c o (zsQ m f a j v) m := by
  intro f' hf
  refine ⟨fun _ => rfl, fun _ => rfl, rfl, fun j' => ?_⟩
  rw [zQ_sQ, if_neg]
  rintro ⟨rfl, rfl, -⟩
  rcases h with h | h
  · exact h hf
  · exact h rfl
theorem zag_cI {c o f a : Nat} {m : zM} {g : Nat → Int32} (h : zkf f ≠ zkey c ∨ o ≠ a) : zag c o (zcI m f a g) m := by
  intro f' hf
  refine ⟨fun j' => ?_, fun _ => rfl, rfl, fun _ => rfl⟩
  rw [zI_cI, if_neg]
  rintro ⟨rfl, rfl⟩
  rcases h with h | h
  · exact h hf
  · exact h rfl
theorem zag_cJ {c o f a : Nat} {m : zM} {g : Nat → Int64} (h : zkf f ≠ zkey c ∨ o ≠ a) : zag c o (zcJ m f a g) m := by
  intro f' hf
  refine ⟨fun _ => rfl, fun j' => ?_, rfl, fun _ => rfl⟩
  rw [zJ_cJ, if_neg]
  rintro ⟨rfl, rfl⟩
  rcases h with h | h
  · exact h hf
  · exact h rfl
/-! WORLDS -/
def zlens : List Nat := [4, 3, 3, 4, 5, 4, 6, 3, 5, 6, 4, 5, 4]
def zbyts : List (List Int32) := [[119, 104, 101, 110], [97, 110, 100], [110, 111, 116], [107, 105, 110, 100], [121, 101, 97, 114, 115], [108, 97, 116, 101], [112, 97, 112, 101, 114, 115], [115, 117, 109], [112, 97, 112, 101, 114], [112, 111, 105, 110, 116, 115], [109, 111, 114, 101], [116, 105, 109, 101, 115], [110, 111, 110, 101]]
def zixs : List Nat := [51, 60, 65, 85, 89, 91, 93, 95, 97, 99, 101, 103, 105]
def ztxs : List String := ["when", "and", "not", "kind", "years", "late", "papers", "sum", "paper", "points", "more", "times", "none"]
def ztys (G : zG) : List (ClassId × FieldType) := [(zcy G 0, .byte), (zcy G 1, .int), (zcy G 2, .long), (zcy G 3, .boolean), (zcy G 4, .object "ClaimsFund$Book"), (zcy G 5, .object "ClaimsFund$Claim")]
/-- what an object of a class reaches at fixed distances: (distance, kind) -/
def zsub (c : Nat) : List (Nat × Nat) := if c = 0 then [(1, 1001), (10, 1006)] ++ (List.range 16).map (fun i => (11 + 7 * i, 1)) else if c = 1 then [(1, 3)] else if c = 2 then [(1, 1201), (2, 1202), (3, 1203), (4, 1204), (5, 1205), (6, 1206), (7, 1207)] else if c = 3 then [(1, 1306), (2, 1307), (3, 1308), (4, 1309), (5, 1310)] else if c = 4 then [] else if c = 5 then [(1, 0), (124, 1501)] else if c = 6 then [(1, 1601), (2, 1602), (3, 1603), (4, 1604), (5, 1605), (6, 1606), (7, 1607), (8, 1608), (9, 1609), (10, 1610), (11, 1611), (12, 1612), (13, 1613), (14, 1614), (15, 1615), (16, 1616), (17, 1617), (18, 1618), (19, 1619), (20, 1620), (21, 1621), (22, 1622), (23, 1623), (24, 1624), (25, 1635), (26, 1636), (27, 1637), (28, 1638), (29, 1639), (30, 1640), (31, 1642), (32, 1643), (33, 1644), (34, 1645), (35, 1646), (36, 1647), (37, 1648), (38, 1649)] else []
def zow (k o d : Nat) : Nat := if k < 1000 then o + d else o
def zLay (G : zG) : Prop := (zbs G ≤ zsz G ∧ ∀ a k, zK G a = some k → zbs G ≤ k.2 ∧ k.2 ≤ a ∧ a < zsz G ∧ (k.1 < 1000 → k.2 = a)) ∧
  (∀ a b k k', zK G a = some k → zK G b = some k' → zkey k.1 = zkey k'.1 → k.2 = k'.2 → a = b) ∧
  ∀ c o, zK G o = some (c, o) → ∀ q ∈ zsub c, zK G (o + q.1) = some (q.2, zow q.2 o q.1)
def zfitv (f : Nat) (v : Int32) : Prop := (f = 1001 ∨ f = 1601 → fits .byte (.int v) = true) ∧ (f = 9 ∨ f = 1207 ∨ f = 1608 ∨ f = 1649 → fits .boolean (.int v) = true)
def zWT (G : zG) (m : zM) : Prop := (∀ f a j, zfitv f (zI m f a j)) ∧ (∀ o, zK G o = some (0, o) → zK G (zR m 3 o) = some (2, zR m 3 o)) ∧
  (∀ o, zK G o = some (4, o) → zK G (zR m 400 o) = some (0, zR m 400 o) ∧ zK G (zR m 402 o) = some (2, zR m 402 o)) ∧
  ∀ o, zK G o = some (5, o) → zK G (zR m 502 o) = some (2, zR m 502 o) ∧ ∀ i b, i < 3 → zQ m 1501 o i = some b → zK G b = some (0, b)
def zPic (G : zG) (m : zM) (H : Heap) : Prop := H.size = zsz G ∧ (∀ a k, zK G a = some k → va_at (zD G) vwCl (a, zcell G k.1 k.2 m) H) ∧ zWT G m
def zKs (G : zG) (U : State) : Prop := va_K (zD G) vwCl (ztys G) U ∧ vk_S 13 zlens zbyts (zaK G) (zaV G) (fun q => zbs G ≤ q) U U.heap ∧ (∀ i, i < 13 → vk_R RX4 (zixs.getD i 0) (ztxs.getD i "") (zaK G i) U) ∧
  va_Z "java/lang/String" "COMPACT_STRINGS" "Z" (.int 1) (fun q => zbs G ≤ q) U U.heap ∧ va_Zq "jdk/internal/util/Preconditions" "SIOOBE_FORMATTER" "Ljava/util/function/BiFunction;" (fun q => zbs G ≤ q) U U.heap
def zW (G : zG) (m : zM) (U : State) : Prop := zPic G m U.heap ∧ zLay G ∧ zKs G U
def zdom (G : zG) : Nat → Prop := fun q => ∃ k, zK G q = some k
/-! THE STANDING PLACE of a walk -/
abbrev zC : Type := Program × Launch × Env × Room × State × MethodId × Array Value × List Frame × Method × Code × (State → Prop) × (Nat → Prop)
abbrev zp (C : zC) : Program := C.1
abbrev zl (C : zC) : Launch := C.2.1
abbrev ze (C : zC) : Env := C.2.2.1
abbrev zRm (C : zC) : Room := C.2.2.2.1
abbrev zs (C : zC) : State := C.2.2.2.2.1
abbrev zmi (C : zC) : MethodId := C.2.2.2.2.2.1
abbrev zar (C : zC) : Array Value := C.2.2.2.2.2.2.1
abbrev zbe (C : zC) : List Frame := C.2.2.2.2.2.2.2.1
abbrev zme (C : zC) : Method := C.2.2.2.2.2.2.2.2.1
abbrev zco (C : zC) : Code := C.2.2.2.2.2.2.2.2.2.1
abbrev zqq (C : zC) : State → Prop := C.2.2.2.2.2.2.2.2.2.2.1
abbrev zA (C : zC) : Nat → Prop := C.2.2.2.2.2.2.2.2.2.2.2
def zF (C : zC) (G : zG) (cc : ByteArray) (nL : Nat) (Ts : List Cond) (own : String) : Prop := CallFix (zp C) (zmi C) (zco C) cc nL (zs C) (zar C) Ts own ∧ zKs G (zs C) ∧ zLay G ∧ (∀ q k, zK G q = some k → zA C q) ∧ ∀ q, zA C q → zbs G ≤ q
abbrev zWc (C : zC) (H : Heap) (locs : List Loc) (k n : Nat) (g : JFrame) : Prop := W (zp C) (zl C) (ze C) (zRm C) (zs C) (zmi C) (zar C) (zbe C) (zme C) (zco C) H locs k n (zqq C) g
def zF0 (C : zC) (cc : ByteArray) (nL : Nat) (Ts : List Cond) (own : String) : Prop := CallFix (zp C) (zmi C) (zco C) cc nL (zs C) (zar C) Ts own
def zX (C : zC) (nL k n pc : Nat) (L : List (Nat × Value)) (st : List Value) (P : Heap → Prop) : Prop := ∀ (H : Heap) (locs : List Loc) (ls : Array Slot), P H → va_S (zA C) (zs C).heap H locs → lv_has ls nL L → zWc C H locs k n (F0 (zmi C) pc ls st)
/-- the method's end: the answer v over the memory m is all right -/
def zRet (C : zC) (G : zG) (Qc : Array Value → State → Outcome → State → Prop) (v : Option Value) (m : zM) : Prop := ∀ t : State, zPic G m t.heap → va_F (zA C) (zs C) t → (zs C).WarmedH t.vm → Qc (zar C) (zs C) (.returned v) t
def zQm (C : zC) (Qc : Array Value → State → Outcome → State → Prop) (ret : Option FieldType) (k n : Nat) : Prop := zqq C = MQ (zbe C) Qc (zar C) (zs C) k n (zA C) ∧ (zme C).sig.returnType = ret ∧ (zme C).locks = false
theorem zWT_sI {G : zG} {m : zM} {f a j : Nat} {v : Int32} (h : zWT G m) (hv : zfitv f v) : zWT G (zsI m f a j v) := by
  refine ⟨fun f' a' j' => ?_, h.2.1, h.2.2.1, h.2.2.2⟩
  rw [zI_sI]
  split
  · rename_i q
    rw [q.1]
    exact hv
  · exact h.1 f' a' j'
theorem zWT_cI {G : zG} {m : zM} {f a : Nat} {g : Nat → Int32} (h : zWT G m) (hv : ∀ j, zfitv f (g j)) : zWT G (zcI m f a g) := by
  refine ⟨fun f' a' j' => ?_, h.2.1, h.2.2.1, h.2.2.2⟩
  rw [zI_cI]
  split
  · rename_i q
    rw [q.1]
    exact hv j'
  · exact h.1 f' a' j'
theorem zWT_sJ {G : zG} {m : zM} {f a j : Nat} {v : Int64} (h : zWT G m) : zWT G (zsJ m f a j v) := h
theorem zWT_cJ {G : zG} {m : zM} {f a : Nat} {g : Nat → Int64} (h : zWT G m) : zWT G (zcJ m f a g) := h
theorem zWT_sQ {G : zG} {m : zM} {f a j : Nat} {v : Option Nat} (h : zWT G m) (hf : f ≠ 1501) : zWT G (zsQ m f a j v) := by
  refine ⟨h.1, h.2.1, h.2.2.1, fun o ho => ⟨(h.2.2.2 o ho).1, fun i b hi hb => (h.2.2.2 o ho).2 i b hi ?_⟩⟩
  rw [zQ_sQ, if_neg (fun q => hf q.1.symm)] at hb
  exact hb
theorem zWT_img {G : zG} {m : zM} {a j v : Nat} (h : zWT G m) (hv : zK G v = some (0, v)) : zWT G (zsQ m 1501 a j (some v)) := by
  refine ⟨h.1, h.2.1, h.2.2.1, fun o ho => ⟨(h.2.2.2 o ho).1, fun i b hi hb => ?_⟩⟩
  rw [zQ_sQ] at hb
  split at hb
  · cases hb
    exact hv
  · exact (h.2.2.2 o ho).2 i b hi hb
theorem zWT_rules {G : zG} {m : zM} {a v : Nat} (h : zWT G m) (hv : zK G v = some (2, v)) : zWT G (zsR m 3 a v) := by
  refine ⟨h.1, fun o ho => ?_, fun o ho => ?_, fun o ho => ⟨?_, (h.2.2.2 o ho).2⟩⟩
  · rw [zR_sR]
    split
    · exact hv
    · exact h.2.1 o ho
  · rw [zR_sR, if_neg (by omega), zR_sR, if_neg (by omega)]
    exact h.2.2.1 o ho
  · rw [zR_sR, if_neg (by omega)]
    exact (h.2.2.2 o ho).1
theorem zWT_spare {G : zG} {m : zM} {a v : Nat} (h : zWT G m) (hv : zK G v = some (2, v)) : zWT G (zsR m 502 a v) := by
  refine ⟨h.1, fun o ho => ?_, fun o ho => ?_, fun o ho => ⟨?_, (h.2.2.2 o ho).2⟩⟩
  · rw [zR_sR, if_neg (by omega)]
    exact h.2.1 o ho
  · rw [zR_sR, if_neg (by omega), zR_sR, if_neg (by omega)]
    exact h.2.2.1 o ho
  · rw [zR_sR]
    split
    · exact hv
    · exact (h.2.2.2 o ho).1
/-- one cell is written -/
theorem zPic_upd {G : zG} {m m' : zM} {H H1 : Heap} {x c o : Nat} (hL : zLay G) (hP : zPic G m H) (hx : zK G x = some (c, o)) (he : va_at (zD G) vwCl (x, zcell G c o m') H1) (hz : H1.size = H.size) (oq : ∀ q : Nat, q ≠ x → H1[q]? = H[q]?) (hag : ∀ c' o', (zkey c ≠ zkey c' ∨ o' ≠ o) → zag c' o' m' m) (hw : zWT G m') : zPic G m' H1 := by
  refine ⟨hz.trans hP.1, fun a k ha => ?_, hw⟩
  by_cases hax : a = x
  · subst hax
    rw [hx] at ha
    cases ha
    exact he
  · have h2 : zcell G k.1 k.2 m' = zcell G k.1 k.2 m := zcell_ag (hag k.1 k.2 (by
      by_cases q : zkey c = zkey k.1
      · exact Or.inr (fun z => hax (hL.2.1 a x k (c, o) ha hx q.symm z))
      · exact Or.inl q))
    rw [h2]
    exact (hP.2.1 a k ha).kept (oq a hax)
theorem zsing {D : va_G} {cl : List vw_C} {a : Nat} {e : va_E} {H : Heap} (h : va_at D cl (a, e) H) : va_P D cl [(a, e)] H := by
  intro k q hk
  match k, hk with
  | 0, hk => cases hk; exact h
  | k + 1, hk => simp at hk
theorem zS_kept {A : Nat → Prop} {H0 H H1 : Heap} {locs : List Loc} {a j : Nat} (h : va_S A H0 H locs) (z : H1.size = H.size) (oq : ∀ q : Nat, q ≠ a → H1[q]? = H[q]?) (ha : A a) : va_S A H0 H1 (locs ++ [⟨a, j⟩]) := h.put z oq ha

