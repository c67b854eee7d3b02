/-! cells that are made: a picture by entries -/
def zNp (G : zG) (z : Nat) (E : Nat → Option va_E) (H : Heap) : Prop := H.size = z ∧ ∀ q e, E q = some e → va_at (zD G) vwCl (q, e) H
def zEu (E : Nat → Option va_E) (x : Nat) (e : va_E) : Nat → Option va_E := fun q => if q = x then some e else E q
theorem zEu_e {E : Nat → Option va_E} {x : Nat} {e : va_E} : zEu E x e x = some e := if_pos rfl
theorem zEu_n {E : Nat → Option va_E} {x y : Nat} {e : va_E} (h : y ≠ x) : zEu E x e y = E y := if_neg h
/-- the private makers' links, and the rows of objects -/
def zNs (U : State) : Prop := va_Nw (.methodLinkNest RX0 23 yX2_init "ClaimsFund") U ∧ va_Nw (.methodLinkNest RX0 38 yX1_init "ClaimsFund") U ∧ va_Nw (.methodLinkNest RX1 17 yX3_init "ClaimsFund") U ∧ va_Nw (.methodLinkNest RX5 22 yX2_init "ClaimsFund") U ∧ va_AO "ClaimsFund$Claim" U ∧ va_AO "ClaimsFund$Book" U ∧ va_Nw (.fieldLinkNest RX5 65 RX4 "fault" "I" "ClaimsFund") U ∧ va_Nw (.fieldLinkNest RX5 68 RX4 "place" "I" "ClaimsFund") U
theorem zNs_moved {s U : State} (h : zNs s) (hW : s.WarmedH U.vm) : zNs U := ⟨h.1.warmM hW, h.2.1.warmM hW, h.2.2.1.warmM hW, h.2.2.2.1.warmM hW, h.2.2.2.2.1.moved hW.alike, h.2.2.2.2.2.1.moved hW.alike, h.2.2.2.2.2.2.1.warmF hW, h.2.2.2.2.2.2.2.warmF hW⟩
def zN (C : zC) (G : zG) (cc : ByteArray) (nL : Nat) (Ts : List Cond) (own : String) : Prop := zF0 C cc nL Ts own ∧ zKs G (zs C) ∧ (∀ q, zA C q → zbs G ≤ q) ∧ zNs (zs C)
theorem zX_mo {C : zC} {nL k n pc : Nat} {L : List (Nat × Value)} {st : List Value} {P P' : Heap → Prop} (h : zX C nL k n pc L st P') (e : ∀ H, P H → P' H) : zX C nL k n pc L st P := fun H locs ls hP hS hl => h H locs ls (e H hP) hS hl
theorem zX_wd {C : zC} {nL k n k' n' pc : Nat} {L : List (Nat × Value)} {st : List Value} {P : Heap → Prop} (h1 : k ≤ k') (h2 : n ≤ n') (h : zX C nL k' n' pc L st P) : zX C nL k n pc L st P := fun H locs ls hP hS hl => W.widen h1 h2 (h H locs ls hP hS hl)
section ZN
variable {C : zC} {G : zG} {cc : ByteArray} {nL : Nat} {Ts : List Cond} {own : String} {k n pc : Nat} {L : List (Nat × Value)} {rest : List Value} {P : Heap → Prop} {z : Nat} {E : Nat → Option va_E}
theorem zn_put (hF : zN C G cc nL Ts own) {a c idx : Nat} {fs : List Value} (hE : E a = some (.inr (c, fs))) (ha : zA C a) {CN : String} {T : u_T} {N : Nat} (hcl : vwCl[c]? = some (CN, T, N)) (hin : ∀ w ∈ u_ws CN T N, w ∈ Ts) {ty0 : Nat → FieldType} (hty : ∀ k, k < N → parseFieldDescriptor (T k).2.2.1 = some (ty0 k)) (hnm : ∀ a, a < N → ∀ b, b < N → a ≠ b → (T a).2.1 ≠ (T b).2.1) (kk : Nat) (hkN : kk < N) (hlink : Cond.fieldLink own idx CN (T kk).2.1 (T kk).2.2.1 ∈ Ts) (hT : (T kk).1 = CN) (hfin : (T kk).2.2.2 = false) {ty : FieldType} {v : Value} (hd : parseFieldDescriptor (T kk).2.2.1 = some ty) (hnw : narrow ty v = v) (hfit : fits ty v = true) (hlen : kk < fs.length) (hdg : decode cc pc = .ok (.putfield idx, 3))
    (K : zX C nL k n (pc + 3) L rest (zNp G z (zEu E a (.inr (c, fs.set kk v))))) : zX C nL k n pc L (v :: .ref a :: rest) (zNp G z E) := by
  intro H locs ls hP hS hl
  have hap := va_apart (own := own) hF.1.2.2.2.2 hin ty0 hty hnm hF.2.1.1 hcl
  obtain ⟨r, h1, cell, q1, q2, q3, q4⟩ := hP.2 a _ hE
  have hr : r = (CN, T, N) := Option.some.inj (h1.symm.trans hcl)
  subst hr
  obtain ⟨hSl, hfc, kC, hkC, hkind⟩ := hF.2.1.1.1 c _ hcl
  obtain ⟨cf, kf, fi, f, hi, hsl⟩ := hSl kk hkN
  have hlay := hF.1.2.2.2.2 _ (hin _ (u_in_lay hkN))
  unfold u_lay at hlay
  rw [if_neg (by rw [hfin]; decide)] at hlay
  have hst := (u_facts hfc hkC (u_lays hF.1.2.2.2.2 hin hkN) hi).1
  have h6 := u_store hfc hkC hkind hlay hi hd hnw hfit
  refine W.putK hF.1.1 hF.1.2.1 (f := f) ⟨hF.1.2.2.2.1, hF.1.2.2.2.2 _ hlink, ⟨_, _, _, by rw [hT] at hi; exact hi⟩, hst⟩ (by rw [q2]; exact h6) q1 q3 (by rw [hsl]; exact k2_hasslot (q4 kk hkN)) rfl rfl hdg fun H' e1 e2 e3 => ?_
  rw [hsl] at e1 ⊢
  refine K H' _ ls ⟨e2.trans hP.1, fun q e he => ?_⟩ (zS_kept hS e2 e3 ha) hl
  by_cases hq : q = a
  · subst hq
    rw [zEu_e] at he
    cases he
    exact ⟨_, hcl, t_OB.to (V := updV (vp_V fs) kk v) ⟨_, e1, q2, q3, t_set q4 hap hkN v⟩ (fun j _ => vp_updV_set hlen v j)⟩
  · rw [zEu_n hq] at he
    exact (hP.2 q e he).kept (e3 q hq)
theorem zn_putF (hF : zN C G cc nL Ts own) {a c idx : Nat} {fs : List Value} (hE : E a = some (.inr (c, fs))) (ha : zA C a) {CN : String} {T : u_T} {N : Nat} (hcl : vwCl[c]? = some (CN, T, N)) (hin : ∀ w ∈ u_ws CN T N, w ∈ Ts) {ty0 : Nat → FieldType} (hty : ∀ k, k < N → parseFieldDescriptor (T k).2.2.1 = some (ty0 k)) (hnm : ∀ a, a < N → ∀ b, b < N → a ≠ b → (T a).2.1 ≠ (T b).2.1) (kk : Nat) (hkN : kk < N) (hlink : Cond.fieldLink own idx CN (T kk).2.1 (T kk).2.2.1 ∈ Ts) (hT : (T kk).1 = CN) (hfin : (T kk).2.2.2 = true) (hin2 : (zme C).name = "<init>") (hdecl : CN = own) {ty : FieldType} {v : Value} (hd : parseFieldDescriptor (T kk).2.2.1 = some ty) (hnw : narrow ty v = v) (hfit : fits ty v = true) (hlen : kk < fs.length) (hdg : decode cc pc = .ok (.putfield idx, 3))
    (K : zX C nL k n (pc + 3) L rest (zNp G z (zEu E a (.inr (c, fs.set kk v))))) : zX C nL k n pc L (v :: .ref a :: rest) (zNp G z E) := by
  intro H locs ls hP hS hl
  have hap := va_apart (own := own) hF.1.2.2.2.2 hin ty0 hty hnm hF.2.1.1 hcl
  obtain ⟨r, h1, cell, q1, q2, q3, q4⟩ := hP.2 a _ hE
  have hr : r = (CN, T, N) := Option.some.inj (h1.symm.trans hcl)
  subst hr
  obtain ⟨hSl, hfc, kC, hkC, hkind⟩ := hF.2.1.1.1 c _ hcl
  obtain ⟨cf, kf, fi, f, hi, hsl⟩ := hSl kk hkN
  have hlay := hF.1.2.2.2.2 _ (hin _ (u_in_lay hkN))
  unfold u_lay at hlay
  rw [if_pos hfin] at hlay
  have hst := (u_facts hfc hkC (u_lays hF.1.2.2.2.2 hin hkN) hi).1
  have hcf : (zmi C).cls = cf := by
    obtain ⟨_, _, c', _, _, _, -, -, hf', -, -, -, hown2, -⟩ := Cond.laysFinal_spec hlay
    have e1 : c' = cf := by have := hi.symm.trans hf'; simp at this; exact this.1.symm
    rw [hT, hdecl] at hown2
    rw [← e1]; exact Option.some.inj (hF.1.2.2.2.1.symm.trans hown2)
  have h6 := u_fits hfc hkC hkind (Or.inr hlay) hi hd hnw hfit
  refine W.putFinK hF.1.1 hF.1.2.1 hF.1.2.2.2.1 (hF.1.2.2.2.2 _ hlink) (by rw [hT] at hi; exact hi) hst hcf hin2 (by rw [q2]; exact h6) q1 q3 (by rw [hsl]; exact k2_hasslot (q4 kk hkN)) rfl rfl hdg fun H' e1 e2 e3 => ?_
  rw [hsl] at e1 ⊢
  refine K H' _ ls ⟨e2.trans hP.1, fun q e he => ?_⟩ (zS_kept hS e2 e3 ha) hl
  by_cases hq : q = a
  · subst hq
    rw [zEu_e] at he
    cases he
    exact ⟨_, hcl, t_OB.to (V := updV (vp_V fs) kk v) ⟨_, e1, q2, q3, t_set q4 hap hkN v⟩ (fun j _ => vp_updV_set hlen v j)⟩
  · rw [zEu_n hq] at he
    exact (hP.2 q e he).kept (e3 q hq)
theorem zn_get (hF : zN C G cc nL Ts own) {a c idx : Nat} {fs : List Value} (hE : E a = some (.inr (c, fs))) {CN : String} {T : u_T} {N : Nat} (hcl : vwCl[c]? = some (CN, T, N)) (hin : ∀ w ∈ u_ws CN T N, w ∈ Ts) (kk : Nat) (hkN : kk < N) (hlink : Cond.fieldLink own idx CN (T kk).2.1 (T kk).2.2.1 ∈ Ts) (hT : (T kk).1 = CN) {v : Value} (hv : fs[kk]? = some v) (hdg : decode cc pc = .ok (.getfield idx, 3))
    (K : zX C nL k n (pc + 3) L (v :: rest) (zNp G z E)) : zX C nL k n pc L (.ref a :: rest) (zNp G z E) := fun H locs ls hP hS hl =>
  va_get (D := zD G) (cl := vwCl) (tys := ztys G) (ws := [(a, .inr (c, fs))]) hF.1.1 hF.1.2.1 hF.1.2.2.2.2 hin hF.1.2.2.2.1 hF.2.1.1 (zsing (hP.2 a _ hE)) 0 rfl hcl kk hkN (hF.1.2.2.2.2 _ hlink) (fun x hx => by rw [hT] at hx; exact hx) hv hdg (K H locs ls hP hS hl)
theorem zNp_push {H H1 : Heap} {e : va_E} (hP : zNp G z E H) (hz : H1.size = z + 1) (he : va_at (zD G) vwCl (z, e) H1) (ho : ∀ q, q < z → H1[q]? = H[q]?) : zNp G (z + 1) (zEu E z e) H1 := by
  refine ⟨hz, fun q e2 h2 => ?_⟩
  by_cases hq : q = z
  · subst hq
    rw [zEu_e] at h2
    cases h2
    exact he
  · rw [zEu_n hq] at h2
    have h3 := hP.2 q e2 h2
    exact h3.kept (ho q (by have h4 := h3.lt; rw [hP.1] at h4; exact h4))
theorem zS_push {A : Nat → Prop} {H0 H H1 : Heap} {locs : List Loc} {z : Nat} (hS : va_S A H0 H locs) (h0 : H.size = z) (hz : H1.size = z + 1) (ho : ∀ q, q < z → H1[q]? = H[q]?) : va_S A H0 H1 locs :=
  ⟨Nat.le_trans hS.1 (by omega), fun x h1 h2 => (ho x (by have := hS.1; omega)).trans (hS.2.1 x h1 h2), hS.2.2⟩
theorem zn_new (hF : zN C G cc nL Ts own) {ci idx : Nat} {CN : String} {T : u_T} {N : Nat} (hcl : vwCl[ci]? = some (CN, T, N)) (hin : ∀ w ∈ u_ws CN T N, w ∈ Ts) {ty : Nat → FieldType} (hty : ∀ k, k < N → parseFieldDescriptor (T k).2.2.1 = some (ty k)) (hlink : Cond.classLink own idx CN ∈ Ts) (hinst : Cond.instantiable CN N ∈ Ts) (hini : Cond.initialized CN ∈ Ts) {fs : List Value} (hfs : ∀ j, j < N → defaultValue (ty j) = vp_V fs j) (hc : k + 1 ≤ (zRm C).cells) (hs : n + N ≤ (zRm C).slots) (hdg : decode cc pc = .ok (.new idx, 3))
    (K : zX C nL (k + 1) (n + N) (pc + 3) L (.ref z :: rest) (zNp G (z + 1) (zEu E z (.inr (ci, fs))))) : zX C nL k n pc L rest (zNp G z E) := by
  intro H locs ls hP hS hl
  have hKn := hF.2.1.1.1 ci _ hcl
  refine W.newcK hF.1.1 hF.1.2.1 hF.1.2.2.2.1 (hF.1.2.2.2.2 _ hlink) (hF.1.2.2.2.2 _ hinst) (hF.1.2.2.2.2 _ hini) rfl hdg hc hs hKn.2.1 hP.1 fun H1 kC hkC e1 z1 o1 => ?_
  exact K H1 _ ls (zNp_push hP z1 ⟨_, hcl, (u_born ty hF.1.2.2.2.2 hin hKn hkC e1 hty).to hfs⟩ o1) (zS_push hS hP.1 z1 o1) hl
theorem zn_newa (hF : zN C G cc nL Ts own) {atype : ArrayType} {t N : Nat} {x : Int32} {e : (Nat → Int32) ⊕ (Nat → Int64) ⊕ (Nat → UInt32) ⊕ (Nat → UInt64) ⊕ (Nat → Option Nat)} (harr : Cond.arrayClass (newarray.typeOf atype) ∈ Ts) (hty : (ztys G)[t]? = some (zcy G t, newarray.typeOf atype)) (he : ∀ cA : ClassId, vp_cell cA (N, e) = arrV cA N (fun _ => defaultValue (newarray.typeOf atype))) (hx : ¬ x < 0) (hN : x.toNatClampNeg = N) (hb : N * componentBytes (newarray.typeOf atype) ≤ 536870912) (hc : k + 1 ≤ (zRm C).cells) (hs : n + N ≤ (zRm C).slots) (hdg : decode cc pc = .ok (.newarray atype, 2))
    (K : zX C nL (k + 1) (n + N) (pc + 2) L (.ref z :: rest) (zNp G (z + 1) (zEu E z (.inl (zcy G t, N, e))))) : zX C nL k n pc L (.int x :: rest) (zNp G z E) := by
  intro H locs ls hP hS hl
  refine va_newaK hF.1.1 hF.1.2.1 (hF.1.2.2.2.2 _ harr) rfl hdg rfl hx hN hb hc hs hP.1 fun H1 cA e1 z1 o1 hAr hNm => ?_
  have h2 := (hF.2.1.1.2 t _ hty).2
  have h3 : (zs C).vm.findClass ("[" ++ (newarray.typeOf atype).toString) = some (zcy G t) := by cases atype <;> exact h2
  have h4 : cA = zcy G t := Option.some.inj (hNm.symm.trans h3)
  refine K H1 _ ls (zNp_push hP z1 ?_ o1) (zS_push hS hP.1 z1 o1) hl
  show H1[z]? = some (vp_cell _ _)
  rw [he, e1, h4]
theorem zn_newq (hF : zN C G cc nL Ts own) {t idx N : Nat} {x : Int32} {CN : String} (hlink : Cond.classLink own idx CN ∈ Ts) (hover : va_AO CN (zs C)) (hty : (ztys G)[t]? = some (zcy G t, .object CN)) (hx : ¬ x < 0) (hN : x.toNatClampNeg = N) (hb : N * 4 ≤ 536870912) (hc : k + 1 ≤ (zRm C).cells) (hs : n + N ≤ (zRm C).slots) (hdg : decode cc pc = .ok (.anewarray idx, 3))
    (K : zX C nL (k + 1) (n + N) (pc + 3) L (.ref z :: rest) (zNp G (z + 1) (zEu E z (.inl (zcy G t, N, .inr (.inr (.inr (.inr (fun _ => none))))))))) : zX C nL k n pc L (.int x :: rest) (zNp G z E) := by
  intro H locs ls hP hS hl
  subst hN
  refine W.anew hF.1.1 hF.1.2.1 hF.1.2.2.2.1 (hF.1.2.2.2.2 _ hlink) (va_AO.use hover) rfl hdg rfl hx hb hc hs fun cA kA comp f1 f2 f3 f4 => ?_
  obtain ⟨kA2, comp2, -, -, -, g4⟩ := (hF.2.1.1.2 t _ hty).2
  have h4 : cA = zcy G t := Option.some.inj (f1.symm.trans g4)
  generalize hH1 : H.push ({ cls := cA, slots := Array.replicate x.toNatClampNeg .null, vm := .none } : Cell) = H1
  have z1 : H1.size = z + 1 := by rw [← hH1, Array.size_push, hP.1]
  have e1 : H1[z]? = some (arrV cA x.toNatClampNeg (fun _ => .null)) := by rw [← hP.1, ← hH1, Array.getElem?_push_size, ← arrV_new]
  have o1 : ∀ q : Nat, q < z → H1[q]? = H[q]? := fun q hq => by rw [← hH1, Array.getElem?_push, if_neg (by rw [hP.1]; omega)]
  have K2 := K H1 locs ls (zNp_push hP z1 (by show H1[z]? = some (vp_cell _ _); rw [vp_cell_q, e1, h4]; rfl) o1) (zS_push hS hP.1 z1 o1) hl
  rw [← hP.1] at K2
  exact K2
theorem zn_aast (hF : zN C G cc nL Ts own) {a v t ci N : Nat} {i : Int32} {r : vw_C} {vs : List Value} {f : Nat → Option Nat} (hE : E a = some (.inl (zcy G t, N, .inr (.inr (.inr (.inr f)))))) (ha : zA C a) (hv : E v = some (.inr (ci, vs))) (hcl : vwCl[ci]? = some r) (hty : (ztys G)[t]? = some (zcy G t, .object r.1)) (hin : vp_in i N) (hdg : decode cc pc = .ok (.aastore, 1))
    (K : zX C nL k n (pc + 1) L rest (zNp G z (zEu E a (.inl (zcy G t, N, .inr (.inr (.inr (.inr (va_up f i.toNatClampNeg (some v)))))))))) : zX C nL k n pc L (.ref v :: .int i :: .ref a :: rest) (zNp G z E) := by
  intro H locs ls hP hS hl
  have hlt : i.toNatClampNeg < N := Nat.not_le.mp fun q => hin (Or.inr q)
  have h0 : ¬ i < 0 := fun q => hin (Or.inl q)
  obtain ⟨r', hr', cellV, g1, g2, g3, -⟩ := hP.2 v _ hv
  have hcls := (hF.2.1.1.1 ci r hcl).2
  obtain ⟨kA, comp, k1, k2, k3, -⟩ := (hF.2.1.1.2 t _ hty).2
  have hcomp : comp = (zD G).1 ci := Option.some.inj (k3.symm.trans hcls.1)
  subst hcomp
  obtain ⟨kC, hkC, -⟩ := hcls.2
  have hA : H[a]? = some (vp_cell (zcy G t) (N, .inr (.inr (.inr (.inr f))))) := hP.2 a _ hE
  refine W.aast hF.1.1 hF.1.2.1 hA (fun q h => by cases h) (fun h => by cases h) k1 k2 rfl hkC ⟨h0, by show _ < (arrV _ _ _).slots.size; rw [arrV_size]; exact hlt⟩ g1 (fun q h => by rw [g3] at h; cases h) (by rw [g2]; exact hkC) (by rw [g2]; exact va_assign hcls) rfl rfl hdg fun H1 e z1 oq => ?_
  refine K H1 _ ls ⟨z1.trans hP.1, fun q e2 h2 => ?_⟩ (zS_kept hS z1 oq ha) hl
  by_cases hq : q = a
  · subst hq
    rw [zEu_e] at h2
    cases h2
    show H1[q]? = some (vp_cell _ _)
    rw [e, vp_cell_q, vp_cell_q, arrV_store]
    congr 2
    funext q
    by_cases hq : q = i.toNatClampNeg
    · subst hq
      simp [updV, va_up, va_rf]
    · simp [updV, va_up, hq]
  · rw [zEu_n hq] at h2
    exact (hP.2 q e2 h2).kept (oq q hq)
theorem zx_obj (hF : zF0 C cc nL Ts own) {idx a : Nat} (h1 : Cond.methodLink own idx objectInit ∈ Ts) (h2 : Cond.instanceMethod objectInit ∈ Ts) (h3 : Cond.code objectInit ⟨#[0xb1]⟩ 1 none ∈ Ts) (hf : 1 ≤ (zRm C).frames) (hlo : 20 ≤ (zRm C).locals) (hdg : decode cc pc = .ok (.invokespecial idx, 3)) (K : zX C nL k n (pc + 3) L [] P) : zX C nL k n pc L [.ref a] P := fun H locs ls hP hS hl =>
  W.objInit hF.1 hF.2.1 hF.2.2.2.1 (hF.2.2.2.2 _ h1) (hF.2.2.2.2 _ h2) (hF.2.2.2.2 _ h3) rfl (by rw [hF.2.2.1]; exact hl.1) rfl hdg hf (by have := lv_room (m := zmi C) (pc := pc) (ls := ls) (rest := [.ref a]) (st := []) (by decide); omega) (K H locs ls hP hS hl)
theorem zx_vretN (hF : zF0 C cc nL Ts own) {Qc : Array Value → State → Outcome → State → Prop} (hQ : zQm C Qc none k n) (hdg : decode cc pc = .ok (.return_, 1)) (h : ∀ t : State, P t.heap → va_F (zA C) (zs C) t → (zs C).WarmedH t.vm → Qc (zar C) (zs C) (.returned none) t) : zX C nL k n pc L [] P := by
  intro H locs ls hP hS hl
  unfold zWc
  rw [hQ.1]
  exact W.vret hF.1 hF.2.1 hQ.2.1 (fun t ht hW => h t (by rw [ht]; exact hP) (hS.F ht) hW) hS.2.2 hdg hQ.2.2
end ZN
/-- a method by its walk from the entry, over any picture -/
theorem zMetN {l : Launch} {y : MethodName} {ws ws' : List Cond} {rm : Room} {cc : ByteArray} {maxL : Nat} {ret : Option FieldType} {mc ms : Nat} {G : zG} {av : List Value} {B : State → Prop} {P : Heap → Prop} {Qc : Array Value → State → Outcome → State → Prop} {A : Nat → Prop} (hy : plainName y.cls = true) (hw : ws = Cond.code y cc maxL ret :: ws') (hsl : (lg_sl av).length ≤ maxL) (hAb : ∀ q, A q → zbs G ≤ q) (hB : ∀ U, B U → P U.heap ∧ zKs G U ∧ zNs U)
    (h : ∀ C : zC, zN C G cc maxL ws y.cls → zQm C Qc ret mc ms → zA C = A → zRm C = rm → zl C = l → (zme C).name = y.name → zX C maxL 0 0 0 (lv_args 0 av) [] P) : Met l y ws rm (va_Pc av B) Qc mc ms A := by
  refine Met.ofW (cc := cc) (maxL := maxL) (ret := ret) hy hw ?_
  intro p e s mi args below meth c s₁ B1 hml hv
  obtain ⟨rfl, hB1⟩ := hv
  obtain ⟨hP, hK, hN⟩ := hB s hB1
  have h1 := h (p, l, e, rm, s, mi, av.toArray, below, meth, c, MQ below Qc av.toArray s mc ms A, A) ⟨⟨B1.exec, B1.bytes, hml, findClass_of_methodNamed B1.named, atoms_spec (ws := ws) B1.pre⟩, hK, hAb, hN⟩ ⟨rfl, B1.returns, B1.notSynchronized⟩ rfl rfl rfl (name_of_methodNamed B1.named B1.method).1
  have hl := lv_entry av (n := maxL) hsl
  rw [lg_entry_eq]
  exact h1 s.heap [] _ hP va_S.rf hl
