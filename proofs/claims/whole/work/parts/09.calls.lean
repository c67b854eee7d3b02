/-! WORLDS move: to a callee, and back -/
theorem zKs_moved {G : zG} {s U : State} {A : Nat → Prop} {H : Heap} {locs : List Loc} (h : zKs G s) (hA : ∀ q, A q → zbs G ≤ q) (hS : va_S A s.heap H locs) (hU : U.heap = H) (hW : s.WarmedH U.vm) : zKs G U := by
  obtain ⟨h1, h2, h3, h4, h5⟩ := h
  have hq : ∀ a : Nat, a < s.heap.size → ¬ (fun q => zbs G ≤ q) a → H[a]? = s.heap[a]? := fun a h1 h2 => hS.2.1 a h1 (fun z => h2 (hA a z))
  refine ⟨va_K.moved hW.alike h1, ?_, fun i hi => (h3 i hi).warm hW, ?_, ?_⟩
  · rw [hU]; exact vk_S.moved hW.alike (vk_S.kept h2 hq)
  · rw [hU]; exact va_Z.moved hW.alike (h4.kept hq)
  · rw [hU]; exact va_Zq.moved hW.alike (h5.kept hq)
theorem zW_calling {G : zG} {m : zM} {U : State} {g : JFrame} {mk : MethodId} {a : Array Value} (h : zW G m U) : zW G m (U.calling g mk a) := by
  obtain ⟨h1, h2, k1, k2, k3, k4, k5⟩ := h
  refine ⟨h1, h2, va_K.moved (u := U) (Vm.Alike.refl U.vm) k1, vk_S.moved (u := U) (Vm.Alike.refl U.vm) k2, fun i hi => (k3 i hi).same rfl, va_Z.moved (u := U) (Vm.Alike.refl U.vm) k4, va_Zq.moved (u := U) (Vm.Alike.refl U.vm) k5⟩
theorem z_blind {G : zG} {m : zM} {av : List Value} : FrameBlind (va_Pc av (fun U => zW G m U)) := fun _ _ _ _ h => ⟨h.1, zW_calling h.2⟩
section ZCALL
variable {C : zC} {G : zG} {cc : ByteArray} {nL : Nat} {Ts : List Cond} {own : String} {k n pc : Nat} {L : List (Nat × Value)} {rest st : List Value} {m : zM}
variable {y : MethodName} {ws : List Cond} {rm : Room} {As : List Value} {bytes : ByteArray} {maxL idx nn : Nat} {ret : Option FieldType} {CN : String} {T : u_T} {N b c : Nat}
theorem z_preV (hF : zF C G cc nL Ts own) {H : Heap} {locs : List Loc} (hP : zPic G m H) (hS : va_S (zA C) (zs C).heap H locs) {av : List Value} : ∀ U : State, U.heap = H → (zs C).WarmedH U.vm → va_Pc av (fun U => zW G m U) av.toArray U := fun U hU hW => ⟨rfl, by rw [hU]; exact hP, hF.2.2.1, zKs_moved hF.2.1 hF.2.2.2.2 hS hU hW⟩
theorem z_recv (hF : zF C G cc nL Ts own) {H : Heap} (hP : zPic G m H) (hb : zK G b = some (c, b)) (hc : c < 1000) (hcl : vwCl[c % 50]? = some (CN, T, N)) : ∃ cell : Cell, H[b]? = some cell ∧ cell.vm.isStatics = false ∧ (zs C).vm.findClass CN = some cell.cls :=
  va_recv (ws := [(b, .inr (c % 50, zfs c b m))]) (q0 := 0) hF.2.1.1 (zsing (by have h := hP.2.1 b _ hb; rw [z_cellO hc] at h; exact h)) hcl rfl
theorem z_A1 (hF : zF C G cc nL Ts own) : ∀ q, zdom G q → zA C q := fun q ⟨kd, h⟩ => hF.2.2.2.1 q kd h
theorem zx_callVi (hF : zF C G cc nL Ts own) {Post : Int32 → zM → Prop} (hM : Met (zl C) y ws rm (va_Pc (.ref b :: As) (fun U => zW G m U)) (va_Qi Post (fun m' t => zW G m' t) (zdom G)) 0 0 (zdom G)) (cw : CallW (zRm C) (zs C) (zar C) own CN idx y bytes maxL ret ws rm 0 0 nn) (hb : zK G b = some (c, b)) (hc : c < 1000) (hcl : vwCl[c % 50]? = some (CN, T, N)) (hdg : decode cc pc = .ok (.invokevirtual idx, 3)) (hn : As.length = nn) (hst : st = As.reverse ++ .ref b :: rest) (hW : (rest.map fun v => v.category).sum ≤ 8) (hk : k + 0 ≤ (zRm C).cells ∧ n + 0 ≤ (zRm C).slots)
    (K : ∀ (r : Int32) (m' : zM), Post r m' → zX C nL k n (pc + 3) L (.int r :: rest) (zPic G m')) : zX C nL k n pc L st (zPic G m) := fun H locs ls hP hS hl =>
  va_calli (va_runV hF.1 hM cw ⟨z_blind, z_recv hF hP hb hc hcl, z_preV hF hP hS⟩ rfl hn hl.1 hst (lv_room hW) hdg hk) hS (fun q _ h => z_A1 hF q h) (z_A1 hF) (fun r m' t H1 locs1 ht hvm hp hB hz hk1 hS1 => K r m' hp H1 locs1 ls (by rw [← ht]; exact hB.1) hS1 hl)
theorem zx_callVl (hF : zF C G cc nL Ts own) {Post : Int64 → zM → Prop} (hM : Met (zl C) y ws rm (va_Pc (.ref b :: As) (fun U => zW G m U)) (va_Ql Post (fun m' t => zW G m' t) (zdom G)) 0 0 (zdom G)) (cw : CallW (zRm C) (zs C) (zar C) own CN idx y bytes maxL ret ws rm 0 0 nn) (hb : zK G b = some (c, b)) (hc : c < 1000) (hcl : vwCl[c % 50]? = some (CN, T, N)) (hdg : decode cc pc = .ok (.invokevirtual idx, 3)) (hn : As.length = nn) (hst : st = As.reverse ++ .ref b :: rest) (hW : (rest.map fun v => v.category).sum ≤ 8) (hk : k + 0 ≤ (zRm C).cells ∧ n + 0 ≤ (zRm C).slots)
    (K : ∀ (r : Int64) (m' : zM), Post r m' → zX C nL k n (pc + 3) L (.long r :: rest) (zPic G m')) : zX C nL k n pc L st (zPic G m) := fun H locs ls hP hS hl =>
  va_calll (va_runV hF.1 hM cw ⟨z_blind, z_recv hF hP hb hc hcl, z_preV hF hP hS⟩ rfl hn hl.1 hst (lv_room hW) hdg hk) hS (fun q _ h => z_A1 hF q h) (z_A1 hF) (fun r m' t H1 locs1 ht hvm hp hB hz hk1 hS1 => K r m' hp H1 locs1 ls (by rw [← ht]; exact hB.1) hS1 hl)
theorem zx_callVv (hF : zF C G cc nL Ts own) {Post : zM → Prop} (hM : Met (zl C) y ws rm (va_Pc (.ref b :: As) (fun U => zW G m U)) (va_Qv Post (fun m' t => zW G m' t) (zdom G)) 0 0 (zdom G)) (cw : CallW (zRm C) (zs C) (zar C) own CN idx y bytes maxL ret ws rm 0 0 nn) (hb : zK G b = some (c, b)) (hc : c < 1000) (hcl : vwCl[c % 50]? = some (CN, T, N)) (hdg : decode cc pc = .ok (.invokevirtual idx, 3)) (hn : As.length = nn) (hst : st = As.reverse ++ .ref b :: rest) (hW : (rest.map fun v => v.category).sum ≤ 8) (hk : k + 0 ≤ (zRm C).cells ∧ n + 0 ≤ (zRm C).slots)
    (K : ∀ (m' : zM), Post m' → zX C nL k n (pc + 3) L rest (zPic G m')) : zX C nL k n pc L st (zPic G m) := fun H locs ls hP hS hl =>
  va_callv (va_runV hF.1 hM cw ⟨z_blind, z_recv hF hP hb hc hcl, z_preV hF hP hS⟩ rfl hn hl.1 hst (lv_room hW) hdg hk) hS (fun q _ h => z_A1 hF q h) (z_A1 hF) (fun m' t H1 locs1 ht hvm hp hB hz hk1 hS1 => K m' hp H1 locs1 ls (by rw [← ht]; exact hB.1) hS1 hl)
theorem zx_callVq (hF : zF C G cc nL Ts own) {Post : Option Nat → zM → Prop} (hM : Met (zl C) y ws rm (va_Pc (.ref b :: As) (fun U => zW G m U)) (va_Qq Post (fun m' t => zW G m' t) (zdom G)) 0 0 (zdom G)) (cw : CallW (zRm C) (zs C) (zar C) own CN idx y bytes maxL ret ws rm 0 0 nn) (hb : zK G b = some (c, b)) (hc : c < 1000) (hcl : vwCl[c % 50]? = some (CN, T, N)) (hdg : decode cc pc = .ok (.invokevirtual idx, 3)) (hn : As.length = nn) (hst : st = As.reverse ++ .ref b :: rest) (hW : (rest.map fun v => v.category).sum ≤ 8) (hk : k + 0 ≤ (zRm C).cells ∧ n + 0 ≤ (zRm C).slots)
    (K : ∀ (r : Option Nat) (m' : zM), Post r m' → zX C nL k n (pc + 3) L (va_rf r :: rest) (zPic G m')) : zX C nL k n pc L st (zPic G m) := fun H locs ls hP hS hl =>
  va_callq (va_runV hF.1 hM cw ⟨z_blind, z_recv hF hP hb hc hcl, z_preV hF hP hS⟩ rfl hn hl.1 hst (lv_room hW) hdg hk) hS (fun q _ h => z_A1 hF q h) (z_A1 hF) (fun r m' t H1 locs1 ht hvm hp hB hz hk1 hS1 => K r m' hp H1 locs1 ls (by rw [← ht]; exact hB.1) hS1 hl)
theorem zx_callSi (hF : zF C G cc nL Ts own) {Post : Int32 → zM → Prop} (hM : Met (zl C) y ws rm (va_Pc As (fun U => zW G m U)) (va_Qi Post (fun m' t => zW G m' t) (zdom G)) 0 0 (zdom G)) (cw : CallB (zRm C) (zs C) (zar C) own idx y bytes maxL ret ws rm 0 0 nn ∧ (Cond.static y).before (zar C) (zs C) = true) (hdg : decode cc pc = .ok (.invokestatic idx, 3)) (hn : As.length = nn) (hst : st = As.reverse ++ rest) (hW : (rest.map fun v => v.category).sum ≤ 8) (hk : k + 0 ≤ (zRm C).cells ∧ n + 0 ≤ (zRm C).slots)
    (K : ∀ (r : Int32) (m' : zM), Post r m' → zX C nL k n (pc + 3) L (.int r :: rest) (zPic G m')) : zX C nL k n pc L st (zPic G m) := fun H locs ls hP hS hl =>
  va_calli (va_runS hF.1 hM cw ⟨z_blind, z_preV hF hP hS⟩ rfl hn hl.1 hst (lv_room hW) hdg hk) hS (fun q _ h => z_A1 hF q h) (z_A1 hF) (fun r m' t H1 locs1 ht hvm hp hB hz hk1 hS1 => K r m' hp H1 locs1 ls (by rw [← ht]; exact hB.1) hS1 hl)
theorem zx_callSv (hF : zF C G cc nL Ts own) {Post : zM → Prop} (hM : Met (zl C) y ws rm (va_Pc As (fun U => zW G m U)) (va_Qv Post (fun m' t => zW G m' t) (zdom G)) 0 0 (zdom G)) (cw : CallB (zRm C) (zs C) (zar C) own idx y bytes maxL ret ws rm 0 0 nn ∧ (Cond.static y).before (zar C) (zs C) = true) (hdg : decode cc pc = .ok (.invokestatic idx, 3)) (hn : As.length = nn) (hst : st = As.reverse ++ rest) (hW : (rest.map fun v => v.category).sum ≤ 8) (hk : k + 0 ≤ (zRm C).cells ∧ n + 0 ≤ (zRm C).slots)
    (K : ∀ (m' : zM), Post m' → zX C nL k n (pc + 3) L rest (zPic G m')) : zX C nL k n pc L st (zPic G m) := fun H locs ls hP hS hl =>
  va_callv (va_runS hF.1 hM cw ⟨z_blind, z_preV hF hP hS⟩ rfl hn hl.1 hst (lv_room hW) hdg hk) hS (fun q _ h => z_A1 hF q h) (z_A1 hF) (fun m' t H1 locs1 ht hvm hp hB hz hk1 hS1 => K m' hp H1 locs1 ls (by rw [← ht]; exact hB.1) hS1 hl)
/-! returns -/
variable {Qc : Array Value → State → Outcome → State → Prop}
theorem zx_iret (hF : zF C G cc nL Ts own) (hQ : zQm C Qc (some .int) k n) {v : Int32} (hdg : decode cc pc = .ok (.ireturn, 1)) (h : zRet C G Qc (some (.int v)) m) : zX C nL k n pc L [.int v] (zPic G m) := by
  intro H locs ls hP hS hl
  unfold zWc
  rw [hQ.1]
  exact W.iret hF.1.1 hF.1.2.1 hQ.2.1 (fun t ht hW => h t (by rw [ht]; exact hP) (hS.F ht) hW) hS.2.2 hdg hQ.2.2
theorem zx_lret (hF : zF C G cc nL Ts own) (hQ : zQm C Qc (some .long) k n) {v : Int64} (hdg : decode cc pc = .ok (.lreturn, 1)) (h : zRet C G Qc (some (.long v)) m) : zX C nL k n pc L [.long v] (zPic G m) := by
  intro H locs ls hP hS hl
  unfold zWc
  rw [hQ.1]
  exact W.lret hF.1.1 hF.1.2.1 hQ.2.1 (fun t ht hW => h t (by rw [ht]; exact hP) (hS.F ht) hW) hS.2.2 hdg hQ.2.2
theorem zx_zret (hF : zF C G cc nL Ts own) {ty : FieldType} (hQ : zQm C Qc (some ty) k n) {v : Int32} (hnw : narrow ty (.int v) = .int v) (hdg : decode cc pc = .ok (.ireturn, 1)) (h : zRet C G Qc (some (.int v)) m) : zX C nL k n pc L [.int v] (zPic G m) := by
  intro H locs ls hP hS hl
  unfold zWc
  rw [hQ.1]
  exact W.zret hF.1.1 hF.1.2.1 hQ.2.1 hnw (fun t ht hW => h t (by rw [ht]; exact hP) (hS.F ht) hW) hS.2.2 hdg hQ.2.2
theorem zx_vret (hF : zF C G cc nL Ts own) (hQ : zQm C Qc none k n) (hdg : decode cc pc = .ok (.return_, 1)) (h : zRet C G Qc none m) : zX C nL k n pc L [] (zPic G m) := by
  intro H locs ls hP hS hl
  unfold zWc
  rw [hQ.1]
  exact W.vret hF.1.1 hF.1.2.1 hQ.2.1 (fun t ht hW => h t (by rw [ht]; exact hP) (hS.F ht) hW) hS.2.2 hdg hQ.2.2
theorem zx_aret (hF : zF C G cc nL Ts own) {CN : String} (hQ : zQm C Qc (some (.object CN)) k n) {a : Nat} (hdg : decode cc pc = .ok (.areturn, 1)) (h : zRet C G Qc (some (va_rf (some a))) m) : zX C nL k n pc L [.ref a] (zPic G m) := by
  intro H locs ls hP hS hl
  unfold zWc
  rw [hQ.1]
  exact W.aret (v := .ref a) hF.1.1 hF.1.2.1 hQ.2.1 (Or.inl ⟨_, rfl⟩) (Or.inr ⟨_, rfl⟩) (fun t ht hW => h t (by rw [ht]; exact hP) (hS.F ht) hW) hS.2.2 hdg hQ.2.2
theorem zx_aretN (hF : zF C G cc nL Ts own) {CN : String} (hQ : zQm C Qc (some (.object CN)) k n) (hdg : decode cc pc = .ok (.areturn, 1)) (h : zRet C G Qc (some (va_rf none)) m) : zX C nL k n pc L [.null] (zPic G m) := by
  intro H locs ls hP hS hl
  unfold zWc
  rw [hQ.1]
  exact W.aret (v := .null) hF.1.1 hF.1.2.1 hQ.2.1 (Or.inl ⟨_, rfl⟩) (Or.inl rfl) (fun t ht hW => h t (by rw [ht]; exact hP) (hS.F ht) hW) hS.2.2 hdg hQ.2.2
end ZCALL
theorem zRet_to {C : zC} {G : zG} {cc : ByteArray} {nL : Nat} {Ts : List Cond} {own : String} (hF : zF C G cc nL Ts own) {Qc : Array Value → State → Outcome → State → Prop} {v : Option Value} {m : zM} (h : ∀ t : State, zW G m t → va_F (zA C) (zs C) t → Qc (zar C) (zs C) (.returned v) t) : zRet C G Qc v m := by
  intro t hP hFr hW
  exact h t ⟨hP, hF.2.2.1, zKs_moved (A := zA C) (locs := []) hF.2.1 hF.2.2.2.2 ⟨hFr.1, hFr.2, fun _ h => by cases h⟩ rfl hW⟩ hFr
/-- a method by its walk from the entry -/
theorem zMet {l : Launch} {y : MethodName} {ws ws' : List Cond} {rm : Room} {cc : ByteArray} {maxL : Nat} {ret : Option FieldType} {mc ms : Nat} {G : zG} {av : List Value} {m : zM} {Qc : Array Value → State → Outcome → State → Prop} {A : Nat → Prop} (hy : plainName y.cls = true) (hw : ws = Cond.code y cc maxL ret :: ws') (hsl : (lg_sl av).length ≤ maxL) (hA : ∀ q k, zK G q = some k → A q) (hAb : ∀ q, A q → zbs G ≤ q)
    (h : ∀ C : zC, zF C G cc maxL ws y.cls → zQm C Qc ret mc ms → zA C = A → zRm C = rm → zl C = l → (zme C).name = y.name → zX C maxL 0 0 0 (lv_args 0 av) [] (zPic G m)) : Met l y ws rm (va_Pc av (fun U => zW G m U)) Qc mc ms A := by
  refine Met.ofW (cc := cc) (maxL := maxL) (ret := ret) hy hw ?_
  intro p e s mi args below meth c s₁ B hml hv
  obtain ⟨rfl, hP, hL, hK⟩ := hv
  have h1 := h (p, l, e, rm, s, mi, av.toArray, below, meth, c, MQ below Qc av.toArray s mc ms A, A) ⟨⟨B.exec, B.bytes, hml, findClass_of_methodNamed B.named, atoms_spec (ws := ws) B.pre⟩, hK, hL, hA, hAb⟩ ⟨rfl, B.returns, B.notSynchronized⟩ rfl rfl rfl (name_of_methodNamed B.named B.method).1
  have hl := lv_entry av (n := maxL) hsl
  rw [lg_entry_eq]
  exact h1 s.heap [] _ hP va_S.rf hl
theorem zMetD {l : Launch} {y : MethodName} {ws ws' : List Cond} {rm : Room} {cc : ByteArray} {maxL : Nat} {ret : Option FieldType} {mc ms : Nat} {G : zG} {av : List Value} {m : zM} {Qc : Array Value → State → Outcome → State → Prop} (hL : zLay G) (hy : plainName y.cls = true) (hw : ws = Cond.code y cc maxL ret :: ws') (hsl : (lg_sl av).length ≤ maxL)
    (h : ∀ C : zC, zF C G cc maxL ws y.cls → zQm C Qc ret mc ms → zA C = zdom G → zRm C = rm → zl C = l → (zme C).name = y.name → zX C maxL 0 0 0 (lv_args 0 av) [] (zPic G m)) : Met l y ws rm (va_Pc av (fun U => zW G m U)) Qc mc ms (zdom G) :=
  zMet hy hw hsl (fun q k h => ⟨k, h⟩) (fun q ⟨k, h⟩ => Nat.le_trans (hL.1.2 q k h).1 (hL.1.2 q k h).2.1) h
