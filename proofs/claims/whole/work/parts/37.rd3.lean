/-! the class's reader in step with the reference's parser -/
section ZGR
variable {l : Launch} {G : zG}
theorem C_X2_empty (hL : zLay G) : Con_X2_empty l G (fun _ _ => True) (fun g m m' => m' = zsI (zsI m 200 g 0 0) 1203 g 0 0) :=
  con_X2_empty hL fun C Qc S hl g m kg _ hr => sg_X2_empty_0 S kg (hr _ rfl)
def zAT (m : zM) (g : Nat) (su sg nu no : Int32) : zM :=
  if 16 ≤ zI m 200 g 0 ∨ ¬ zI m 1203 g (zI m 200 g 0).toNatClampNeg < 4 then m else
  zsI (zsI (zsI (zsI (zsI m 1204 g (4 * (zI m 200 g 0).toNatClampNeg + (zI m 1203 g (zI m 200 g 0).toNatClampNeg).toNatClampNeg) su) 1205 g (4 * (zI m 200 g 0).toNatClampNeg + (zI m 1203 g (zI m 200 g 0).toNatClampNeg).toNatClampNeg) sg) 1206 g (4 * (zI m 200 g 0).toNatClampNeg + (zI m 1203 g (zI m 200 g 0).toNatClampNeg).toNatClampNeg) nu) 1207 g (4 * (zI m 200 g 0).toNatClampNeg + (zI m 1203 g (zI m 200 g 0).toNatClampNeg).toNatClampNeg) no) 1203 g (zI m 200 g 0).toNatClampNeg (zI m 1203 g (zI m 200 g 0).toNatClampNeg + 1)
theorem C_X2_addTest (hL : zLay G) : Con_X2_addTest l G (fun g _ _ _ no m => zWG m g ∧ (no = 0 ∨ no = 1)) (fun g su sg nu no m m' => m' = zAT m g su sg nu no) := by
  refine con_X2_addTest hL fun C Qc S hl g su sg nu no m kg hp hr => sg_X2_addTest_0 S kg ?_
  obtain ⟨⟨⟨L, hL16, eL⟩, ht⟩, hno⟩ := hp
  unfold zAT at hr
  rw [eL] at hr ⊢
  refine ⟨fun q => hr _ (by rw [if_pos (Or.inl q)]), fun q => ?_⟩
  have hl : L < 16 := by
    rw [show (16 : Int32) = nI 16 from rfl, nI_leI (by omega) (by omega)] at q
    omega
  rw [nI_clamp (by omega)] at hr ⊢
  obtain ⟨t, ht4, et⟩ := ht L hl
  rw [et] at hr ⊢
  refine ⟨vp_in_nI hl (by omega), fun q2 => ?_, fun q2 => hr _ (by rw [if_pos (Or.inr q2)])⟩
  have ht2 : t < 4 := by
    rw [show (4 : Int32) = nI 4 from rfl, nI_ltI (by omega) (by omega)] at q2
    exact q2
  have e4 : nI L * 4 + nI t = nI (4 * L + t) := by rw [show (4 : Int32) = nI 4 from rfl, pk_mul, nI_add, Nat.mul_comm]
  rw [e4, nI_clamp (by omega)]
  rw [nI_clamp (by omega)] at hr
  exact ⟨vp_in_nI (by omega) (by omega), hno, hr _ (by rw [if_neg (fun z => z.elim q (fun z => z q2))])⟩
def zEL (m : zM) (g : Nat) (act am : Int32) : zM :=
  if ¬ zI m 200 g 0 < 16 then m else
  if 16 ≤ zI m 200 g 0 + 1 then zsI (zsI (zsI m 1201 g (zI m 200 g 0).toNatClampNeg act) 1202 g (zI m 200 g 0).toNatClampNeg am) 200 g 0 (zI m 200 g 0 + 1)
  else zsI (zsI (zsI (zsI m 1201 g (zI m 200 g 0).toNatClampNeg act) 1202 g (zI m 200 g 0).toNatClampNeg am) 200 g 0 (zI m 200 g 0 + 1)) 1203 g (zI m 200 g 0 + 1).toNatClampNeg 0
theorem C_X2_endLine (hL : zLay G) : Con_X2_endLine l G (fun g _ _ m => zWG m g) (fun g act am m m' => m' = zEL m g act am) := by
  refine con_X2_endLine hL fun C Qc S hl g act am m kg hp hr => sg_X2_endLine_0 S kg ?_
  obtain ⟨⟨L, hL16, eL⟩, ht⟩ := hp
  unfold zEL at hr
  rw [eL] at hr ⊢
  refine ⟨fun q => ?_, fun q => hr _ (by rw [if_pos q])⟩
  have hl : L < 16 := by
    rw [show (16 : Int32) = nI 16 from rfl, nI_ltI (by omega) (by omega)] at q
    exact q
  refine ⟨vp_in_nI hl (by omega), fun q2 => hr _ (by rw [if_neg (fun z => z q), if_pos q2]), fun q2 => ?_⟩
  rw [← nI_succ] at q2
  have hl2 : L + 1 < 16 := by
    rw [show (16 : Int32) = nI 16 from rfl, nI_leI (by omega) (by omega)] at q2
    omega
  refine ⟨by rw [← nI_succ]; exact vp_in_nI hl2 (by omega), hr _ ?_⟩
  rw [if_neg (fun z => z q), if_neg (by rw [← nI_succ]; exact q2)]
def zGcp (m : zM) (g g2 : Nat) : zM := zcI (zcI (zcI (zcI (zcI (zcI (zcI (zsI m 200 g 0 (zI m 200 g2 0)) 1201 g (zI m 1201 g2)) 1202 g (zI m 1202 g2)) 1203 g (zI m 1203 g2)) 1204 g (zI m 1204 g2)) 1205 g (zI m 1205 g2)) 1206 g (zI m 1206 g2)) 1207 g (zI m 1207 g2)
theorem C_X2_copyFrom (hL : zLay G) : Con_X2_copyFrom l G (fun _ _ _ => True) (fun g g2 m m' => m' = zGcp m g g2) :=
  con_X2_copyFrom hL fun C Qc S hl g g2 m kg kg2 _ hr => sg_X2_copyFrom_0 S kg kg2 (hr _ rfl)
end ZGR
/-! relations -/
def zNv (m mr : zM) (r o : Nat) : Prop := zI m 406 r 0 = zI mr 632 o 0 ∧ (¬ zI mr 632 o 0 = 0 → zI m 407 r 0 = zI mr 633 o 0)
def zTx (m mr : zM) (g o x : Nat) : Prop := zI m 1204 g x = zI mr 1636 o x &&& 7 ∧ zI m 1207 g x = (if 7 < zI mr 1636 o x then 1 else 0) ∧ zI m 1206 g x = zI mr 1638 o x ∧ (¬ zI m 1204 g x = 5 → zI m 1205 g x = zI mr 1637 o x)
def zGx (m mr : zM) (g o N : Nat) : Prop := ∀ l, l < N → zI m 1201 g l = zI mr 1639 o l ∧ zI m 1202 g l = zI mr 1640 o l ∧ zI m 1203 g l = zI mr 1635 o l ∧ ∀ i, i < (zI mr 1635 o l).toNatClampNeg → zTx m mr g o (4 * l + i)
def zGc (m mr : zM) (g o N : Nat) : Prop := zWG m g ∧ zI m 200 g 0 = nI (if 16 ≤ N then 16 else N) ∧ (zI mr 632 o 0 = 0 → zGx m mr g o N)
def zKt (m mr : zM) (g o N k : Nat) : Prop := zI mr 632 o 0 = 0 → zI m 1203 g N = nI k ∧ ∀ i, i < k → zTx m mr g o (4 * N + i)
def zBD (m mr : zM) (r o N k : Nat) : Prop := zNv m mr r o ∧ zGc m mr (zR m 402 r) o N ∧ zKt m mr (zR m 402 r) o N k
def zBL (m mr : zM) (r o N : Nat) : Prop := zNv m mr r o ∧ zGc m mr (zR m 402 r) o N ∧ (zI mr 632 o 0 = 0 → N < 16 → zI m 1203 (zR m 402 r) N = 0)
theorem zR_2 {m m' : zM} (h : m'.2 = m.2) (f a : Nat) : zR m' f a = zR m f a := by
  show m'.2.2.1 f a = m.2.2.1 f a
  rw [h]
theorem zBD_x {m m' mr mr' : zM} {r o N k : Nat} (h : zBD m mr r o N k) (hc : ∀ f, f = 200 ∨ f = 406 ∨ f = 407 ∨ (1201 ≤ f ∧ f ≤ 1207) → zI m' f = zI m f) (h2 : m'.2 = m.2) (hr : ∀ f, f = 632 ∨ f = 633 ∨ (1635 ≤ f ∧ f ≤ 1640) → zI mr' f = zI mr f) : zBD m' mr' r o N k := by
  unfold zBD zNv zGc zKt zGx zTx zWG at h ⊢
  rw [zR_2 h2, hc 200 (by omega), hc 406 (by omega), hc 407 (by omega), hc 1201 (by omega), hc 1202 (by omega), hc 1203 (by omega), hc 1204 (by omega), hc 1205 (by omega), hc 1206 (by omega), hc 1207 (by omega), hr 632 (by omega), hr 633 (by omega), hr 1635 (by omega), hr 1636 (by omega), hr 1637 (by omega), hr 1638 (by omega), hr 1639 (by omega), hr 1640 (by omega)]
  exact h
theorem zLp_x {m m' mr mr' : zM} {r o n p : Nat} (h : zLp m mr r o n p) (hc : ∀ f, f = 401 ∨ f = 404 ∨ f = 1001 → zI m' f = zI m f) (h2 : m'.2 = m.2) (hr : ∀ f, f = 1601 ∨ f = 625 ∨ f = 626 → zI mr' f = zI mr f) : zLp m' mr' r o n p := by
  unfold zLp zPc zRp zcT at h ⊢
  rw [zR_2 h2, hc 401 (by omega), hc 404 (by omega), hc 1001 (by omega), hr 1601 (by omega), hr 625 (by omega), hr 626 (by omega)]
  exact h
theorem zcT_x {m m' : zM} {r : Nat} (hc : zI m' 1001 = zI m 1001) (h2 : m'.2 = m.2) : zcT m' r = zcT m r := by
  unfold zcT
  rw [zR_2 h2, hc]
theorem zLt_x {m m' mr mr' : zM} {r o n b : Nat} (h : zLt m mr r o n b) (hc : ∀ f, f = 401 ∨ f = 403 ∨ f = 404 ∨ f = 405 ∨ f = 1001 → zI m' f = zI m f) (h2 : m'.2 = m.2) (hr : ∀ f, f = 1601 ∨ (625 ≤ f ∧ f ≤ 629) → zI mr' f = zI mr f) (hJ : zJ mr' 630 = zJ mr 630) : zLt m' mr' r o n b := by
  obtain ⟨h1, h3⟩ := h
  unfold zLt
  rw [zcT_x (hc 1001 (by omega)) h2, hc 403 (by omega), hc 405 (by omega), hr 627 (by omega), hr 628 (by omega), hr 629 (by omega), hJ]
  exact ⟨zLp_x h1 (fun f hf => hc f (by omega)) h2 (fun f hf => hr f (by omega)), h3⟩
theorem zAv_f {m : zM} {r n p f : Nat} (h : ¬ (403 ≤ f ∧ f ≤ 405)) : zI (zAv m r n p) f = zI m f := funext fun a => funext fun j => zTC_I (by omega) (by omega) (by omega) a j
theorem zRnx_f {m : zM} {o f : Nat} (h : ¬ (625 ≤ f ∧ f ≤ 629 ∧ f ≠ 626)) : zI (zRnx m o) f = zI m f := funext fun a => funext fun j => zRnx_I (by omega) (by omega) (by omega) (by omega) a j
theorem zBD_nx {m mr : zM} {r o n p N k : Nat} (h : zBD m mr r o N k) : zBD (zAv m r n p) (zRnx mr o) r o N k := zBD_x h (fun f hf => zAv_f (by omega)) rfl (fun f hf => zRnx_f (by omega))
/-- the class's frame -/
def zCf (r g : Nat) (m m' : zM) : Prop := (∀ f a j, ¬ (a = r ∧ 403 ≤ f ∧ f ≤ 407) → ¬ (a = g ∧ (f = 200 ∨ (1201 ≤ f ∧ f ≤ 1207))) → zI m' f a j = zI m f a j) ∧ m'.2 = m.2
theorem zCf_rf {r g : Nat} {m : zM} : zCf r g m m := ⟨fun _ _ _ _ _ => rfl, rfl⟩
theorem zCf_tr {r g : Nat} {m m1 m2 : zM} (h : zCf r g m m1) (h2 : zCf r g m1 m2) : zCf r g m m2 := ⟨fun f a j q1 q2 => (h2.1 f a j q1 q2).trans (h.1 f a j q1 q2), h2.2.trans h.2⟩
theorem zCf_s {r g : Nat} {m : zM} {f j : Nat} {v : Int32} (h : 403 ≤ f ∧ f ≤ 407) : zCf r g m (zsI m f r j v) := ⟨fun f' a' j' q _ => by rw [zI_sI, if_neg (fun z => q ⟨z.2.1, by omega, by omega⟩)], rfl⟩
theorem zCf_g {r g : Nat} {m : zM} {f j : Nat} {v : Int32} (h : f = 200 ∨ (1201 ≤ f ∧ f ≤ 1207)) : zCf r g m (zsI m f g j v) := ⟨fun f' a' j' _ q => by rw [zI_sI, if_neg (fun z => q ⟨z.2.1, by omega⟩)], rfl⟩
theorem zCf_av {r g n p : Nat} {m : zM} : zCf r g m (zAv m r n p) := zCf_tr (zCf_s (by decide)) (zCf_tr (zCf_s (by decide)) (zCf_s (by decide)))
theorem zCf_AT {r g : Nat} {m : zM} {su sg nu no : Int32} : zCf r g m (zAT m g su sg nu no) := by
  unfold zAT
  split
  · exact zCf_rf
  · exact zCf_tr (zCf_g (by decide)) (zCf_tr (zCf_g (by decide)) (zCf_tr (zCf_g (by decide)) (zCf_tr (zCf_g (by decide)) (zCf_g (by decide)))))
theorem zCf_EL {r g : Nat} {m : zM} {act am : Int32} : zCf r g m (zEL m g act am) := by
  unfold zEL
  split
  · exact zCf_rf
  split
  · exact zCf_tr (zCf_g (by decide)) (zCf_tr (zCf_g (by decide)) (zCf_g (by decide)))
  · exact zCf_tr (zCf_g (by decide)) (zCf_tr (zCf_g (by decide)) (zCf_tr (zCf_g (by decide)) (zCf_g (by decide))))
/-- a fault is noted -/
def zNt (m : zM) (r : Nat) (x : Int32) : zM := if zI m 406 r 0 = 0 then zsI (zsI m 406 r 0 x) 407 r 0 (zI m 403 r 0) else m
theorem zNt_f {m : zM} {r f : Nat} {x : Int32} (h1 : f ≠ 406) (h2 : f ≠ 407) : zI (zNt m r x) f = zI m f := by
  unfold zNt
  split
  · funext a j; rw [zI_n h2, zI_n h1]
  · rfl
theorem zNt_2 {m : zM} {r : Nat} {x : Int32} : (zNt m r x).2 = m.2 := by
  unfold zNt
  split <;> rfl
theorem zCf_nt {r g : Nat} {m : zM} {x : Int32} : zCf r g m (zNt m r x) := by
  unfold zNt
  split
  · exact zCf_tr (zCf_s (by decide)) (zCf_s (by decide))
  · exact zCf_rf
theorem zLt_la {m mr : zM} {r o n b : Nat} {x : Int32} (h : zLt m mr r o n b) : zLt (zNt m r x) (zXla mr o x) r o n b :=
  zLt_x h (fun f hf => zNt_f (by omega) (by omega)) zNt_2 (fun f hf => funext fun a => funext fun j => zXla_I (by omega) (by omega) a j) (funext fun a => funext fun j => zXla_J 630 a j)
theorem zBD_la {m mr : zM} {r o n b N k : Nat} {x : Int32} (hx : ¬ x = 0) (h : zLt m mr r o n b) (hB : zBD m mr r o N k) : zBD (zNt m r x) (zXla mr o x) r o N k := by
  by_cases q : zI mr 632 o 0 = 0
  · obtain ⟨⟨h1, h2⟩, ⟨h3, h4, h5⟩, h6⟩ := hB
    have e : zXla mr o x = zsI (zsI mr 632 o 0 x) 633 o 0 (zI mr 627 o 0) := by unfold zXla; rw [if_pos q]
    have e2 : zNt m r x = zsI (zsI m 406 r 0 x) 407 r 0 (zI m 403 r 0) := by unfold zNt; rw [if_pos (h1.trans q)]
    have c632 : zI (zXla mr o x) 632 o 0 = x := by rw [e, zI_n (by decide), zI_e]
    unfold zBD zNv zGc zKt
    rw [c632]
    refine ⟨⟨?_, fun _ => ?_⟩, ⟨?_, ?_, fun z => absurd z hx⟩, fun z => absurd z hx⟩
    · rw [e2, zI_n (by decide), zI_e]
    · rw [e, e2, zI_e, zI_e, h.2.2.1, h.2.2.2.2.1]
    · unfold zWG
      rw [zR_2 zNt_2, zNt_f (by decide) (by decide), zNt_f (by decide) (by decide)]
      exact h3
    · rw [zR_2 zNt_2, zNt_f (by decide) (by decide)]
      exact h4
  · have e : zXla mr o x = mr := by unfold zXla; rw [if_neg q]
    have e2 : zNt m r x = m := by unfold zNt; rw [if_neg (fun z => q (hB.1.1.symm.trans z))]
    rw [e, e2]
    exact hB
/-- what a kept test looks like -/
theorem zwhat {s : Nat} (hs : s ≤ 5) {no : Int32} (hno : no = 0 ∨ no = 1) : (if no = 0 then nI s else nI s + 8) &&& 7 = nI s ∧ (if 7 < (if no = 0 then nI s else nI s + 8) then (1 : Int32) else 0) = no := by
  have h : ∀ s, s < 6 → (nI s &&& 7 = nI s ∧ (if 7 < nI s then (1 : Int32) else 0) = 0) ∧ ((nI s + 8) &&& 7 = nI s ∧ (if 7 < nI s + 8 then (1 : Int32) else 0) = 1) := by decide
  obtain ⟨h1, h2⟩ := h s (by omega)
  rcases hno with rfl | rfl
  · rw [if_pos rfl]; exact h1
  · rw [if_neg (by decide)]; exact h2
theorem zAT_f {m : zM} {g f : Nat} {su sg nu no : Int32} (h : ¬ (1203 ≤ f ∧ f ≤ 1207)) : zI (zAT m g su sg nu no) f = zI m f := by
  funext a j
  unfold zAT
  split
  · rfl
  · rw [zI_n (by omega), zI_n (by omega), zI_n (by omega), zI_n (by omega), zI_n (by omega)]
theorem zAT_2 {m : zM} {g : Nat} {su sg nu no : Int32} : (zAT m g su sg nu no).2 = m.2 := (zCf_AT (r := 0)).2
theorem zAT_w {m : zM} {g : Nat} {su sg nu no : Int32} (h : zWG m g) : zWG (zAT m g su sg nu no) g := by
  obtain ⟨⟨L, hL16, eL⟩, ht⟩ := h
  refine ⟨⟨L, hL16, by rw [zAT_f (by decide)]; exact eL⟩, fun l hl => ?_⟩
  unfold zAT
  split
  · exact ht l hl
  · rename_i q
    rw [eL] at q ⊢
    rw [nI_clamp (by omega)] at q ⊢
    have hl16 : L < 16 := by
      have this : ¬ (16 : Int32) ≤ nI L := fun z => q (Or.inl z)
      rw [show (16 : Int32) = nI 16 from rfl, nI_leI (by omega) (by omega)] at this
      omega
    obtain ⟨t, ht4, et⟩ := ht L hl16
    rw [et] at q ⊢
    have ht2 : t < 4 := by
      have := Decidable.byContradiction (fun z => q (Or.inr z))
      rw [show (4 : Int32) = nI 4 from rfl, nI_ltI (by omega) (by omega)] at this
      exact this
    by_cases e : l = L
    · subst e
      exact ⟨t + 1, by omega, by rw [zI_e, ← nI_succ]⟩
    · obtain ⟨t', h1', h2'⟩ := ht l hl
      refine ⟨t', h1', ?_⟩
      rw [zI_sI, if_neg (fun z => e z.2.2), zI_n (by decide), zI_n (by decide), zI_n (by decide), zI_n (by decide)]
      exact h2'
theorem zAT_e {m : zM} {g N k : Nat} {su sg nu no : Int32} (h1 : zI m 200 g 0 = nI N) (h2 : zI m 1203 g N = nI k) (hN : N < 16) (hk : k < 4) : zAT m g su sg nu no = zsI (zsI (zsI (zsI (zsI m 1204 g (4 * N + k) su) 1205 g (4 * N + k) sg) 1206 g (4 * N + k) nu) 1207 g (4 * N + k) no) 1203 g N (nI (k + 1)) := by
  unfold zAT
  rw [h1, nI_clamp (by omega), h2, nI_clamp (by omega), ← nI_succ]
  rw [if_neg]
  rw [show (16 : Int32) = nI 16 from rfl, nI_leI (by omega) (by omega), show (4 : Int32) = nI 4 from rfl, nI_ltI (by omega) (by omega)]
  omega
theorem zBD_t {m mr : zM} {r o N k l s : Nat} {no sg sg2 nu : Int32} (hs : s ≤ 5) (hno : no = 0 ∨ no = 1) (hsg : s ≠ 5 → sg = sg2) (h : zBD m mr r o N k) (hl : zI mr 632 o 0 = 0 → l = N ∧ N < 16 ∧ k < 4) : zBD (zAT m (zR m 402 r) (nI s) sg nu no) (if k < 4 ∧ l < 16 then zX269 mr o l k no (nI s) sg2 nu else mr) r o N (k + 1) := by
  obtain ⟨h1, ⟨h3, h4, h5⟩, h6⟩ := h
  have c632 : ∀ f, f ≠ 1635 → f ≠ 1636 → f ≠ 1637 → f ≠ 1638 → zI (if k < 4 ∧ l < 16 then zX269 mr o l k no (nI s) sg2 nu else mr) f = zI mr f := fun f a1 a2 a3 a4 => by
    split
    · unfold zX269
      funext a j
      rw [zI_n a1, zI_n a4, zI_n a3, zI_n a2]
    · rfl
  have Nv : zNv (zAT m (zR m 402 r) (nI s) sg nu no) (if k < 4 ∧ l < 16 then zX269 mr o l k no (nI s) sg2 nu else mr) r o := by
    unfold zNv
    rw [zAT_f (by decide), zAT_f (by decide), c632 632 (by decide) (by decide) (by decide) (by decide), c632 633 (by decide) (by decide) (by decide) (by decide)]
    exact h1
  have G1 := zAT_w (su := nI s) (sg := sg) (nu := nu) (no := no) h3
  have G2 : zI (zAT m (zR m 402 r) (nI s) sg nu no) 200 (zR m 402 r) 0 = nI (if 16 ≤ N then 16 else N) := by rw [zAT_f (by decide)]; exact h4
  unfold zBD zGc zKt
  rw [zR_2 zAT_2, c632 632 (by decide) (by decide) (by decide) (by decide)]
  by_cases q : zI mr 632 o 0 = 0
  · obtain ⟨rfl, hN, hk⟩ := hl q
    rw [if_neg (by omega)] at h4
    obtain ⟨k1, k2⟩ := h6 q
    have h5 := h5 q
    rw [if_pos ⟨hk, hN⟩] at Nv ⊢
    rw [zAT_e h4 k1 hN hk] at Nv G1 G2 ⊢
    generalize zR m 402 r = g at *
    obtain ⟨w1, w2⟩ := zwhat hs hno
    -- old tests stay
    have old : ∀ x, x < 4 * l + k → zTx m mr g o x → zTx (zsI (zsI (zsI (zsI (zsI m 1204 g (4 * l + k) (nI s)) 1205 g (4 * l + k) sg) 1206 g (4 * l + k) nu) 1207 g (4 * l + k) no) 1203 g l (nI (k + 1))) (zX269 mr o l k no (nI s) sg2 nu) g o x := by
      intro x hx h
      have e4 : ∀ (v w : zM) (a b c d : Nat) (y : Int32), zI (zsI v a b c y) a b d = if d = c then y else zI v a b d := fun v w a b c d y => by
        rw [zI_sI]
        by_cases e : d = c
        · rw [if_pos ⟨rfl, rfl, e⟩, if_pos e]
        · rw [if_neg (fun z => e z.2.2), if_neg e]
      have hx' : x ≠ 4 * l + k := by omega
      unfold zTx zX269 at *
      have n3 : ∀ (M : zM) (f : Nat) (v : Int32), zI (zsI M f g (4 * l + k) v) f g x = zI M f g x := fun M f v => by rw [zI_sI, if_neg (fun z => hx' z.2.2)]
      have n4 : ∀ (M : zM) (f : Nat) (v : Int32), zI (zsI M f o (4 * l + k) v) f o x = zI M f o x := fun M f v => by rw [zI_sI, if_neg (fun z => hx' z.2.2)]
      have a4 : zI (zsI (zsI (zsI (zsI (zsI m 1204 g (4 * l + k) (nI s)) 1205 g (4 * l + k) sg) 1206 g (4 * l + k) nu) 1207 g (4 * l + k) no) 1203 g l (nI (k + 1))) 1204 g x = zI m 1204 g x := by
        rw [zI_n (by decide), zI_n (by decide), zI_n (by decide), zI_n (by decide), n3]
      have a5 : zI (zsI (zsI (zsI (zsI (zsI m 1204 g (4 * l + k) (nI s)) 1205 g (4 * l + k) sg) 1206 g (4 * l + k) nu) 1207 g (4 * l + k) no) 1203 g l (nI (k + 1))) 1205 g x = zI m 1205 g x := by
        rw [zI_n (by decide), zI_n (by decide), zI_n (by decide), n3, zI_n (by decide)]
      have a6 : zI (zsI (zsI (zsI (zsI (zsI m 1204 g (4 * l + k) (nI s)) 1205 g (4 * l + k) sg) 1206 g (4 * l + k) nu) 1207 g (4 * l + k) no) 1203 g l (nI (k + 1))) 1206 g x = zI m 1206 g x := by
        rw [zI_n (by decide), zI_n (by decide), n3, zI_n (by decide), zI_n (by decide)]
      have a7 : zI (zsI (zsI (zsI (zsI (zsI m 1204 g (4 * l + k) (nI s)) 1205 g (4 * l + k) sg) 1206 g (4 * l + k) nu) 1207 g (4 * l + k) no) 1203 g l (nI (k + 1))) 1207 g x = zI m 1207 g x := by
        rw [zI_n (by decide), n3, zI_n (by decide), zI_n (by decide), zI_n (by decide)]
      have b6 : zI (zsI (zsI (zsI (zsI mr 1636 o (4 * l + k) (if no = 0 then nI s else nI s + 8)) 1637 o (4 * l + k) sg2) 1638 o (4 * l + k) nu) 1635 o l (nI (k + 1))) 1636 o x = zI mr 1636 o x := by
        rw [zI_n (by decide), zI_n (by decide), zI_n (by decide), n4]
      have b7 : zI (zsI (zsI (zsI (zsI mr 1636 o (4 * l + k) (if no = 0 then nI s else nI s + 8)) 1637 o (4 * l + k) sg2) 1638 o (4 * l + k) nu) 1635 o l (nI (k + 1))) 1637 o x = zI mr 1637 o x := by
        rw [zI_n (by decide), zI_n (by decide), n4, zI_n (by decide)]
      have b8 : zI (zsI (zsI (zsI (zsI mr 1636 o (4 * l + k) (if no = 0 then nI s else nI s + 8)) 1637 o (4 * l + k) sg2) 1638 o (4 * l + k) nu) 1635 o l (nI (k + 1))) 1638 o x = zI mr 1638 o x := by
        rw [zI_n (by decide), n4, zI_n (by decide), zI_n (by decide)]
      rw [a4, a5, a6, a7, b6, b7, b8]
      exact h
    refine ⟨Nv, ⟨G1, G2, fun _ l' hl' => ?_⟩, fun _ => ⟨?_, fun i hi => ?_⟩⟩
    · obtain ⟨c1, c2, c3, c4⟩ := h5 l' hl'
      obtain ⟨t, ht4, et⟩ := h3.2 l' (by omega)
      have r39 : ∀ f, f = 1639 ∨ f = 1640 → zI (zX269 mr o l k no (nI s) sg2 nu) f o l' = zI mr f o l' := fun f hf => by
        unfold zX269
        rw [zI_n (by omega), zI_n (by omega), zI_n (by omega), zI_n (by omega)]
      have r35 : zI (zX269 mr o l k no (nI s) sg2 nu) 1635 o l' = zI mr 1635 o l' := by
        unfold zX269
        rw [zI_sI, if_neg (by omega), zI_n (by decide), zI_n (by decide), zI_n (by decide)]
      refine ⟨?_, ?_, ?_, fun i hi => ?_⟩
      · rw [r39 1639 (by omega), zI_n (by decide), zI_n (by decide), zI_n (by decide), zI_n (by decide), zI_n (by decide)]; exact c1
      · rw [r39 1640 (by omega), zI_n (by decide), zI_n (by decide), zI_n (by decide), zI_n (by decide), zI_n (by decide)]; exact c2
      · rw [r35, zI_sI, if_neg (by omega), zI_n (by decide), zI_n (by decide), zI_n (by decide), zI_n (by decide)]; exact c3
      · rw [r35] at hi
        have hi2 := hi
        rw [← c3, et, nI_clamp (by omega)] at hi2
        exact old _ (by omega) (c4 i hi)
    · rw [zI_e]
    · by_cases e : i = k
      · subst e
        unfold zTx zX269
        have b6 : zI (zsI (zsI (zsI (zsI mr 1636 o (4 * l + i) (if no = 0 then nI s else nI s + 8)) 1637 o (4 * l + i) sg2) 1638 o (4 * l + i) nu) 1635 o l (nI (i + 1))) 1636 o (4 * l + i) = (if no = 0 then nI s else nI s + 8) := by
          rw [zI_n (by decide), zI_n (by decide), zI_n (by decide), zI_e]
        rw [b6, w1, w2]
        refine ⟨?_, ?_, ?_, ?_⟩
        · rw [zI_n (by decide), zI_n (by decide), zI_n (by decide), zI_n (by decide), zI_e]
        · rw [zI_n (by decide), zI_e]
        · rw [zI_n (by decide), zI_n (by decide), zI_e, zI_n (by decide), zI_e]
        · rw [zI_n (by decide), zI_n (by decide), zI_n (by decide), zI_n (by decide), zI_e, zI_n (by decide), zI_n (by decide), zI_n (by decide), zI_e, zI_n (by decide), zI_n (by decide), zI_e]
          intro z
          exact hsg (fun e => z (by rw [e]; rfl))
      · exact old _ (by omega) (k2 i (by omega))
  · exact ⟨Nv, ⟨G1, G2, fun z => absurd z q⟩, fun z => absurd z q⟩
