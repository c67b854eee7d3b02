/-! the law: class and reference side by side -/
def zl2 (G1 G2 : zG) (m1 m2 : zM) (H : Heap) : Prop := zPic G1 m1 H ∧ zPic G2 m2 H
def zDj (G1 G2 : zG) : Prop := zsz G1 = zsz G2 ∧ ∀ q, zdom G1 q → zdom G2 q → False
theorem zDj.sy {G1 G2 : zG} (h : zDj G1 G2) : zDj G2 G1 := ⟨h.1.symm, fun q a b => h.2 q b a⟩
/-- the same world, with a higher end -/
def zGz (G : zG) (z : Nat) : zG := (G.1, G.2.1, G.2.2.1, z, G.2.2.2.2)
theorem zGz_L {G : zG} {z : Nat} (h : zLay G) (hz : zsz G ≤ z) : zLay (zGz G z) := ⟨⟨Nat.le_trans h.1.1 hz, fun a k ha => ⟨(h.1.2 a k ha).1, (h.1.2 a k ha).2.1, Nat.lt_of_lt_of_le (h.1.2 a k ha).2.2.1 hz, (h.1.2 a k ha).2.2.2⟩⟩, h.2⟩
theorem zP_other {G1 G2 : zG} {m2 : zM} {H H1 : Heap} (hD : zDj G1 G2) (h : zPic G2 m2 H) (hz : H1.size = zsz G1) (hk : ∀ q : Nat, q < H.size → ¬ zdom G1 q → H1[q]? = H[q]?) : zPic G2 m2 H1 :=
  ⟨hz.trans hD.1, fun a k ha => (h.2.1 a k ha).kept (hk a (h.2.1 a k ha).lt (fun z => hD.2 a z ⟨k, ha⟩)), h.2.2⟩
theorem zP_other2 {G1 G2 : zG} {z : Nat} {m2 : zM} {H H1 : Heap} (hD : zDj G1 G2) (h : zPic G2 m2 H) (hz : H1.size = z) (hk : ∀ q : Nat, q < H.size → ¬ zA1 G1 q → H1[q]? = H[q]?) : zPic (zGz G2 z) m2 H1 :=
  ⟨hz, fun a k ha => (h.2.1 a k ha).kept (hk a (h.2.1 a k ha).lt (fun z => by
    rcases z with z | z
    · exact hD.2 a z ⟨k, ha⟩
    · have h1 := (h.2.1 a k ha).lt
      have h2 : a < H.size := h1
      rw [h.1, ← hD.1] at h2
      omega)), h.2.2⟩
theorem z_blind2 {G : zG} {m : zM} {av : List Value} : FrameBlind (va_Pc av (fun U => zW G m U ∧ zNs U)) := fun _ _ _ _ h => ⟨h.1, zW_calling h.2.1, h.2.2⟩
section ZLK
variable {C : zC} {G1 G2 : zG} {cc : ByteArray} {nL : Nat} {Ts : List Cond} {own : String} {k n pc : Nat} {L : List (Nat × Value)} {rest st : List Value} {m1 m2 : zM}
variable {y : MethodName} {ws : List Cond} {rm : Room} {As : List Value} {bytes : ByteArray} {maxL idx nn : Nat} {ret : Option FieldType} {CN : String} {T : u_T} {N b c : Nat}
theorem zl_callVi (hF : zF C G1 cc nL Ts own) (hD : zDj G1 G2) {Post : Int32 → zM → Prop} (hM : Met (zl C) y ws rm (va_Pc (.ref b :: As) (fun U => zW G1 m1 U)) (va_Qi Post (fun m' t => zW G1 m' t) (zdom G1)) 0 0 (zdom G1)) (cw : CallW (zRm C) (zs C) (zar C) own CN idx y bytes maxL ret ws rm 0 0 nn) (hb : zK G1 b = some (c, b)) (hc : c < 1000) (hcl : vwCl[c % 50]? = some (CN, T, N)) (hdg : decode cc pc = .ok (.invokevirtual idx, 3)) (hn : As.length = nn) (hst : st = As.reverse ++ .ref b :: rest) (hW : (rest.map fun v => v.category).sum ≤ 8) (hk : k ≤ (zRm C).cells ∧ n ≤ (zRm C).slots)
    (K : ∀ (r : Int32) (m' : zM), Post r m' → zX C nL k n (pc + 3) L (.int r :: rest) (zl2 G1 G2 m' m2)) : zX C nL k n pc L st (zl2 G1 G2 m1 m2) := fun H locs ls hP hS hl =>
  va_calli (va_runV hF.1 hM cw ⟨z_blind, z_recv hF hP.1 hb hc hcl, z_preV hF hP.1 hS⟩ rfl hn hl.1 hst (lv_room hW) hdg hk) hS (fun q _ h => z_A1 hF q h) (z_A1 hF) (fun r m' t H1 locs1 ht hvm hp hB hz hk1 hS1 => K r m' hp H1 locs1 ls ⟨by rw [← ht]; exact hB.1, zP_other hD hP.2 (by rw [← ht]; exact hB.1.1) hk1⟩ hS1 hl)
theorem zl_callVl (hF : zF C G1 cc nL Ts own) (hD : zDj G1 G2) {Post : Int64 → zM → Prop} (hM : Met (zl C) y ws rm (va_Pc (.ref b :: As) (fun U => zW G1 m1 U)) (va_Ql Post (fun m' t => zW G1 m' t) (zdom G1)) 0 0 (zdom G1)) (cw : CallW (zRm C) (zs C) (zar C) own CN idx y bytes maxL ret ws rm 0 0 nn) (hb : zK G1 b = some (c, b)) (hc : c < 1000) (hcl : vwCl[c % 50]? = some (CN, T, N)) (hdg : decode cc pc = .ok (.invokevirtual idx, 3)) (hn : As.length = nn) (hst : st = As.reverse ++ .ref b :: rest) (hW : (rest.map fun v => v.category).sum ≤ 8) (hk : k ≤ (zRm C).cells ∧ n ≤ (zRm C).slots)
    (K : ∀ (r : Int64) (m' : zM), Post r m' → zX C nL k n (pc + 3) L (.long r :: rest) (zl2 G1 G2 m' m2)) : zX C nL k n pc L st (zl2 G1 G2 m1 m2) := fun H locs ls hP hS hl =>
  va_calll (va_runV hF.1 hM cw ⟨z_blind, z_recv hF hP.1 hb hc hcl, z_preV hF hP.1 hS⟩ rfl hn hl.1 hst (lv_room hW) hdg hk) hS (fun q _ h => z_A1 hF q h) (z_A1 hF) (fun r m' t H1 locs1 ht hvm hp hB hz hk1 hS1 => K r m' hp H1 locs1 ls ⟨by rw [← ht]; exact hB.1, zP_other hD hP.2 (by rw [← ht]; exact hB.1.1) hk1⟩ hS1 hl)
/-- a call that makes cells -/
theorem zl_callVm (hF : zF C G1 cc nL Ts own) (hNs : zNs (zs C)) (hA : ∀ q, zA1 G1 q → zA C q) (hD : zDj G1 G2) {mc ms : Nat} {Post : Int32 → zM → zG → Prop} (hM : Met (zl C) y ws rm (va_Pc (.ref b :: As) (fun U => zW G1 m1 U ∧ zNs U)) (va_Qi (fun r (u : zM × zG) => Post r u.1 u.2) (fun u t => zW u.2 u.1 t) (zA1 G1)) mc ms (zA1 G1)) (cw : CallW (zRm C) (zs C) (zar C) own CN idx y bytes maxL ret ws rm mc ms nn) (hb : zK G1 b = some (c, b)) (hc : c < 1000) (hcl : vwCl[c % 50]? = some (CN, T, N)) (hdg : decode cc pc = .ok (.invokevirtual idx, 3)) (hn : As.length = nn) (hst : st = As.reverse ++ .ref b :: rest) (hW : (rest.map fun v => v.category).sum ≤ 8) (hk : k + mc ≤ (zRm C).cells ∧ n + ms ≤ (zRm C).slots)
    (K : ∀ (r : Int32) (m' : zM) (G' : zG), Post r m' G' → zLay G' → zX C nL (k + mc) (n + ms) (pc + 3) L (.int r :: rest) (zl2 G' (zGz G2 (zsz G')) m' m2)) : zX C nL k n pc L st (zl2 G1 G2 m1 m2) := fun H locs ls hP hS hl =>
  va_calli (va_runV hF.1 hM cw ⟨z_blind2, z_recv hF hP.1 hb hc hcl, fun U hU hW => ⟨rfl, (z_preV hF hP.1 hS (av := .ref b :: As) U hU hW).2, zNs_moved hNs hW⟩⟩ rfl hn hl.1 hst (lv_room hW) hdg hk) hS (fun q _ h => hA q h) hA (fun r u t H1 locs1 ht hvm hp hB hz hk1 hS1 => K r u.1 u.2 hp hB.2.1 H1 locs1 ls ⟨by rw [← ht]; exact hB.1, zP_other2 hD hP.2 (by rw [← ht]; exact hB.1.1) hk1⟩ hS1 hl)
end ZLK
/-! the script -/
def zSp9 (C : zC) (b L : Nat) (xs : Nat → Int32) : Prop := va_X b L xs (zs C) (zs C).heap ∧ b < (zs C).heap.size ∧ ¬ zA C b ∧ L ≤ 3072
abbrev zLL (f o b i : Nat) : List (Nat × Value) := [(3, .int (nI i)), (2, .ref o), (1, .ref f), (0, .ref b)]
section ZLS
variable {C : zC} {k n pc : Nat} {L : List (Nat × Value)} {rest : List Value} {P : Heap → Prop} {b N : Nat} {xs : Nat → Int32}
theorem zl_sld (hF : zF0 C cL_law 4 lw_tbl RL) (hs : zSp9 C b N xs) {i : Nat} (hi : i < N) (hdg : decode cL_law pc = .ok (.iaload, 1)) (K : zX C 4 k n (pc + 1) L (.int (xs i) :: rest) P) : zX C 4 k n pc L (.int (nI i) :: .ref b :: rest) P := fun H locs ls hP hS hl => by
  have h1 := hs.2.2.2
  refine va_sld hF.1 hF.2.1 hs.1 hs.2.1 hs.2.2.1 hS (vp_in_nI hi (by omega)) hdg ?_
  rw [nI_clamp (by omega)]
  exact K H locs ls hP hS hl
theorem zl_slen (hF : zF0 C cL_law 4 lw_tbl RL) (hs : zSp9 C b N xs) (hdg : decode cL_law pc = .ok (.arraylength, 1)) (K : zX C 4 k n (pc + 1) L (.int (nI N) :: rest) P) : zX C 4 k n pc L (.ref b :: rest) P := fun H locs ls hP hS hl =>
  va_slen hF.1 hF.2.1 hs.1 hs.2.1 hs.2.2.1 hS hdg (K H locs ls hP hS hl)
/-- an argument: script[i + c] -/
theorem zl_arg (hF : zF0 C cL_law 4 lw_tbl RL) (hs : zSp9 C b N xs) {f o i c : Nat} {ci : Int} (hi : i + 6 ≤ N) (hc : c < 6) (hci : Int32.ofInt ci = nI c) (d0 : decode cL_law pc = .ok (.aload_n 0, 1)) (d1 : decode cL_law (pc + 1) = .ok (.iload_n 3, 1)) (d2 : decode cL_law (pc + 2) = .ok (.iconst ci, 1)) (d3 : decode cL_law (pc + 3) = .ok (.iadd, 1)) (d4 : decode cL_law (pc + 4) = .ok (.iaload, 1)) (K : zX C 4 k n (pc + 5) (zLL f o b i) (.int (xs (i + c)) :: rest) P) : zX C 4 k n pc (zLL f o b i) rest P := by
  refine zx_aload_n hF 3 d0 rfl ?_
  refine zx_iload_n hF 0 d1 rfl ?_
  refine zx_iconst hF d2 hci ?_
  refine zx_iadd hF d3 ?_
  rw [nI_add]
  exact zl_sld hF hs (by omega) d4 K
end ZLS
/-- what holds between two calls -/
def zLv (C : zC) (Gc Gr : zG) (mc mr : zM) (f o : Nat) : Prop := zF0 C cL_law 4 lw_tbl RL ∧ zKs Gc (zs C) ∧ zKs Gr (zs C) ∧ zNs (zs C) ∧ zLay Gc ∧ zLay Gr ∧ zDj Gc Gr ∧ zK Gc f = some (5, f) ∧ zK Gr o = some (6, o) ∧ zTot mc mr f o ∧ (∀ q, zA C q ↔ zbs Gc ≤ q) ∧ zbs Gr = zbs Gc
theorem zLv_c {C : zC} {Gc Gr : zG} {mc mr : zM} {f o : Nat} (h : zLv C Gc Gr mc mr f o) : zF C Gc cL_law 4 lw_tbl RL := ⟨h.1, h.2.1, h.2.2.2.2.1, fun q k hk => (h.2.2.2.2.2.2.2.2.2.2.1 q).2 (Nat.le_trans (h.2.2.2.2.1.1.2 q k hk).1 (h.2.2.2.2.1.1.2 q k hk).2.1), fun q => (h.2.2.2.2.2.2.2.2.2.2.1 q).1⟩
theorem zLv_r {C : zC} {Gc Gr : zG} {mc mr : zM} {f o : Nat} (h : zLv C Gc Gr mc mr f o) : zF C Gr cL_law 4 lw_tbl RL := ⟨h.1, h.2.2.1, h.2.2.2.2.2.1, fun q k hk => (h.2.2.2.2.2.2.2.2.2.2.1 q).2 (by rw [← h.2.2.2.2.2.2.2.2.2.2.2]; exact Nat.le_trans (h.2.2.2.2.2.1.1.2 q k hk).1 (h.2.2.2.2.2.1.1.2 q k hk).2.1), fun q hq => by rw [h.2.2.2.2.2.2.2.2.2.2.2]; exact (h.2.2.2.2.2.2.2.2.2.2.1 q).1 hq⟩
theorem zLv_t {C : zC} {Gc Gr : zG} {mc mr mc' mr' : zM} {f o : Nat} (h : zLv C Gc Gr mc mr f o) (ht : zTot mc' mr' f o) : zLv C Gc Gr mc' mr' f o := ⟨h.1, h.2.1, h.2.2.1, h.2.2.2.1, h.2.2.2.2.1, h.2.2.2.2.2.1, h.2.2.2.2.2.2.1, h.2.2.2.2.2.2.2.1, h.2.2.2.2.2.2.2.2.1, ht, h.2.2.2.2.2.2.2.2.2.2⟩
