/-! the class's Claim and Purse -/
def zLM (m : zM) (c : Nat) (L M : Int32) : zM := zsI (zsI m 106 c 0 L) 107 c 0 M
def zST (m : zM) (c : Nat) (s p : Int32) : zM := zsI (zsI (zsI m 105 c 0 s) 106 c 0 p) 107 c 0 p
def zBG (m : zM) (c : Nat) (x1 x2 x3 x4 x5 : Int32) : zM := zsI (zsI (zsI (zsI (zsI (zsI m 100 c 0 x1) 101 c 0 x2) 102 c 0 x3) 103 c 0 x4) 104 c 0 x5) 105 c 0 0
/-- least, most of points over the numbers below n that hold the papers pa -/
def zml (pf : Int32 → Int32) (pa : Int32) : Nat → Int32
  | 0 => 1000000
  | n + 1 => if nI n &&& pa = pa then (if pf (nI n) < zml pf pa n then pf (nI n) else zml pf pa n) else zml pf pa n
def zmm (pf : Int32 → Int32) (pa : Int32) : Nat → Int32
  | 0 => 0
  | n + 1 => if nI n &&& pa = pa then (if zmm pf pa n < pf (nI n) then pf (nI n) else zmm pf pa n) else zmm pf pa n
theorem z_sup : ∀ a, a < 64 → ∀ n, n < a → ¬ nI n &&& nI a = nI a := by decide +kernel
theorem zml_low (pf : Int32 → Int32) {a : Nat} (ha : a < 64) : ∀ n, n ≤ a → zml pf (nI a) n = 1000000
  | 0, _ => rfl
  | n + 1, h => by rw [zml, if_neg (z_sup a ha n (by omega))]; exact zml_low pf ha n (by omega)
theorem zmm_low (pf : Int32 → Int32) {a : Nat} (ha : a < 64) : ∀ n, n ≤ a → zmm pf (nI a) n = 0
  | 0, _ => rfl
  | n + 1, h => by rw [zmm, if_neg (z_sup a ha n (by omega))]; exact zmm_low pf ha n (by omega)
theorem zLM_I (m : zM) (c : Nat) (L M : Int32) {f : Nat} (h1 : f ≠ 106) (h2 : f ≠ 107) (a j : Nat) : zI (zLM m c L M) f a j = zI m f a j := (zI_n h2).trans (zI_n h1)
theorem zLM_f (m : zM) (c : Nat) (L M : Int32) {f : Nat} (h1 : f ≠ 106) (h2 : f ≠ 107) (a : Nat) : zI (zLM m c L M) f a = zI m f a := funext fun j => zLM_I m c L M h1 h2 a j
theorem zLM_6 (m : zM) (c : Nat) (L M : Int32) : zI (zLM m c L M) 106 c 0 = L := (zI_n (by decide)).trans zI_e
theorem zLM_7 (m : zM) (c : Nat) (L M : Int32) : zI (zLM m c L M) 107 c 0 = M := zI_e
theorem zLM_LM (m : zM) (c : Nat) (L M L' M' : Int32) : zLM (zLM m c L M) c L' M' = zLM m c L' M' := by
  refine zM_ext (fun f a j => ?_) (fun _ _ _ => rfl) (fun _ _ => rfl) (fun _ _ _ => rfl)
  unfold zLM
  simp only [zI_sI]
  repeat' split
  all_goals first | rfl | omega
theorem zpg_ext {m m' : zM} {g : Nat} (h : ∀ f, (f = 200 ∨ (1201 ≤ f ∧ f ≤ 1207)) → zI m f g = zI m' f g) (k y l p : Int32) : zpg m g k y l p = zpg m' g k y l p := by
  unfold zpg
  rw [h 200 (by omega), h 1201 (by omega), h 1202 (by omega), h 1203 (by omega), h 1204 (by omega), h 1205 (by omega), h 1206 (by omega), h 1207 (by omega)]
theorem zWG_ext {m m' : zM} {g : Nat} (h : ∀ f, (f = 200 ∨ (1201 ≤ f ∧ f ≤ 1207)) → zI m f g = zI m' f g) (hw : zWG m g) : zWG m' g := by
  unfold zWG at hw ⊢
  rw [← h 200 (by omega), ← h 1203 (by omega)]
  exact hw
/-- a claim's points with papers p -/
def zpw (m : zM) (c g : Nat) (p : Int32) : Int32 := zpg m g (zI m 101 c 0) (zI m 102 c 0) (zI m 103 c 0) p
def zME (m : zM) (c g : Nat) : zM := if zI m 105 c 0 = 0 then zLM m c (zml (zpw m c g) (zI m 104 c 0) 64) (zmm (zpw m c g) (zI m 104 c 0) 64) else m
section ZCL
variable {l : Launch} {G : zG}
theorem C_X1_settle (hL : zLay G) : Con_X1_settle l G (fun _ _ _ _ => True) (fun c s p m m' => m' = zST m c s p) :=
  con_X1_settle hL fun C Qc S hl c s p m kc _ hr => sg_X1_settle_0 S kc (hr _ rfl)
theorem C_X1_begin (hL : zLay G) : Con_X1_begin l G (fun _ _ _ _ _ _ _ => True) (fun c x1 x2 x3 x4 x5 m m' => m' = zBG m c x1 x2 x3 x4 x5) :=
  con_X1_begin hL fun C Qc S hl c x1 x2 x3 x4 x5 m kc _ hr => sg_X1_begin_0 S kc (hr _ rfl)
theorem C_X1_isIn (hL : zLay G) : Con_X1_isIn l G (fun _ _ => True) (fun c m r => r = if zI m 105 c 0 = 0 ∨ zI m 105 c 0 = 1 then 1 else 0) :=
  con_X1_isIn hL fun C Qc S hl c m kc _ hr => sg_X1_isIn_0 S kc (by
    (repeat' (first | with_reducible apply hr | apply And.intro | intro _)) <;> simp_all)
theorem C_X1_mayBring (hL : zLay G) : Con_X1_mayBring l G (fun _ _ _ => True) (fun c x m r => r = if zI m 105 c 0 = 0 ∧ ¬ x < 0 ∧ ¬ 6 ≤ x ∧ ((zI m 104 c 0 >>> (x &&& 31)) &&& 1) = 0 then 1 else 0) :=
  con_X1_mayBring hL fun C Qc S hl c x m kc _ hr => sg_X1_mayBring_0 S kc (by
    refine ⟨fun h1 => hr _ ?_, fun h1 => ⟨fun h2 => hr _ ?_, fun h2 => ⟨fun h3 => hr _ ?_, fun h3 => ⟨fun h4 => hr _ ?_, fun h4 => hr _ ?_⟩⟩⟩⟩
    · rw [if_neg (fun q => h1 q.1)]
    · rw [if_neg (fun q => q.2.1 h2)]
    · rw [if_neg (fun q => q.2.2.1 h3)]
    · rw [if_neg (fun q => h4 q.2.2.2)]
    · rw [if_pos ⟨h1, h2, h3, h4⟩])
theorem C_X1_pointsWith (hL : zLay G) : Con_X1_pointsWith l G (fun _ g _ m => zWG m g) (fun c g p m r => r = zpw m c g p) :=
  con_X1_pointsWith hL fun C Qc S hl c g p m kc kg hp hr => sg_X1_pointsWith_0 S (C_X2_pointsFor hL) kc kg ⟨hp, fun r hq => hr _ hq⟩
theorem C_X1_measure (hL : zLay G) : Con_X1_measure l G (fun c g m => zWG m g ∧ ∃ a, a < 64 ∧ zI m 104 c 0 = nI a) (fun c g m m' => m' = zME m c g) := by
  refine con_X1_measure hL fun C Qc S hl c g m kc kg hp hr => sg_X1_measure_0 S kc kg ⟨fun h0 => ?_, fun h0 => hr _ ?_⟩
  · obtain ⟨hw, a, ha, ha2⟩ := hp
    unfold zME at hr
    rw [if_pos h0, ha2] at hr
    rw [ha2]
    show Pt_X1_measure_24 C G c g (nI a) (zLM m c 1000000 0)
    have key : Pt_X1_measure_24 C G c g (nI a) (zLM m c (zml (zpw m c g) (nI a) a) (zmm (zpw m c g) (nI a) a)) := by
      refine z_loopF (P := fun i => Pt_X1_measure_24 C G c g (nI i) (zLM m c (zml (zpw m c g) (nI a) i) (zmm (zpw m c g) (nI a) i))) a 64 (by omega) ?_ (fun i hi hi2 ih => ?_)
      · exact sg_X1_measure_24 S (C_X2_pointsFor hL) kc kg ⟨fun _ => hr _ rfl, fun q => absurd (by decide) q⟩
      · refine sg_X1_measure_24 S (C_X2_pointsFor hL) kc kg ⟨fun q => absurd q (znlt 63 (by omega)), fun _ => ?_⟩
        rw [zLM_I m c _ _ (by decide) (by decide), zLM_I m c _ _ (by decide) (by decide), zLM_I m c _ _ (by decide) (by decide), zLM_I m c _ _ (by decide) (by decide), ha2, ← nI_succ, zLM_6, zLM_7]
        refine ⟨fun q => ?_, fun q => ⟨?_, fun r hq => ?_⟩⟩
        · rw [zml, if_neg q, zmm, if_neg q] at ih
          exact ih
        · exact zWG_ext (fun f hf => (zLM_f m c _ _ (by omega) (by omega) g).symm) hw
        · have hr2 : r = zpw m c g (nI i) := by
            rw [hq]
            exact zpg_ext (fun f hf => zLM_f m c _ _ (by omega) (by omega) g) _ _ _ _
          rw [zml, if_pos q, zmm, if_pos q, ← hr2] at ih
          have e := zLM_LM m c (zml (zpw m c g) (nI a) i) (zmm (zpw m c g) (nI a) i) (if r < zml (zpw m c g) (nI a) i then r else zml (zpw m c g) (nI a) i) (if zmm (zpw m c g) (nI a) i < r then r else zmm (zpw m c g) (nI a) i)
          rw [← e] at ih
          exact ih
    rw [zml_low _ ha a (Nat.le_refl a), zmm_low _ ha a (Nat.le_refl a)] at key
    exact key
  · unfold zME
    rw [if_neg h0]
end ZCL
/-! Purse: pure functions over its rows -/
def zsumI (f : Nat → Int32) : Nat → Int32
  | 0 => 0
  | n + 1 => zsumI f n + f n
/-- one turn over the first n liens: (left, got) -/
def zpl1 (rk : Nat → Int32) (ow : Nat → Int64) (t : Int32) : Nat → Int64 × (Nat → Int64) → Int64 × (Nat → Int64)
  | 0, s => s
  | n + 1, s => if rk n = t then ((zpl1 rk ow t n s).1 - (if ow n - (zpl1 rk ow t n s).2 n < (zpl1 rk ow t n s).1 then ow n - (zpl1 rk ow t n s).2 n else (zpl1 rk ow t n s).1), zupJ (zpl1 rk ow t n s).2 n ((zpl1 rk ow t n s).2 n + (if ow n - (zpl1 rk ow t n s).2 n < (zpl1 rk ow t n s).1 then ow n - (zpl1 rk ow t n s).2 n else (zpl1 rk ow t n s).1))) else zpl1 rk ow t n s
/-- the first t turns -/
def zpl (rk : Nat → Int32) (ow : Nat → Int64) (n : Nat) : Nat → Int64 × (Nat → Int64) → Int64 × (Nat → Int64)
  | 0, s => s
  | t + 1, s => zpl1 rk ow (nI t) n (zpl rk ow n t s)
/-- heirs: (left, got) of coins over the first n, by all parts -/
def zph (pt : Nat → Int32) (coins all : Int64) : Nat → Int64 × (Nat → Int64) → Int64 × (Nat → Int64)
  | 0, s => s
  | n + 1, s => ((zph pt coins all n s).1 - coins * (pt n).toInt64 / all, zupJ (zph pt coins all n s).2 n ((zph pt coins all n s).2 n + coins * (pt n).toInt64 / all))
def zWP (m : zM) (p : Nat) : Prop := (∃ n, n ≤ 4 ∧ zI m 301 p 0 = nI n) ∧ ∃ n, n ≤ 4 ∧ zI m 302 p 0 = nI n
def zPLs (m : zM) (p : Nat) (coins : Int64) : Int64 × (Nat → Int64) := zpl (zI m 1306 p) (zJ m 1307 p) (zI m 301 p 0).toNatClampNeg 10 (coins, zJ m 1308 p)
def zPHm (m : zM) (p : Nat) (coins : Int64) : zM :=
  if zsumI (zI m 1309 p) (zI m 302 p 0).toNatClampNeg = 0 then zsJ m 305 p 0 (zJ m 305 p 0 + coins)
  else zcJ m 1310 p (zupJ (zph (zI m 1309 p) coins (zsumI (zI m 1309 p) (zI m 302 p 0).toNatClampNeg).toInt64 (zI m 302 p 0).toNatClampNeg (coins, zJ m 1310 p)).2 0 ((zph (zI m 1309 p) coins (zsumI (zI m 1309 p) (zI m 302 p 0).toNatClampNeg).toInt64 (zI m 302 p 0).toNatClampNeg (coins, zJ m 1310 p)).2 0 + (zph (zI m 1309 p) coins (zsumI (zI m 1309 p) (zI m 302 p 0).toNatClampNeg).toInt64 (zI m 302 p 0).toNatClampNeg (coins, zJ m 1310 p)).1))
def zPAm (m : zM) (p : Nat) (coins : Int64) : zM :=
  zPHm (zcJ (zsJ (zsJ m 303 p 0 (zJ m 303 p 0 + coins)) 304 p 0 (zJ m 304 p 0 + coins * (zI m 300 p 0).toInt64 / 100)) 1308 p (zPLs m p (coins - coins * (zI m 300 p 0).toInt64 / 100)).2) p (zPLs m p (coins - coins * (zI m 300 p 0).toInt64 / 100)).1
def zPUm (m : zM) (p : Nat) (due : Int64) : zM := if due ≤ zJ m 303 p 0 then m else zPAm m p (due - zJ m 303 p 0)
def zALm (m : zM) (p : Nat) (rk : Int32) (co : Int64) : zM := zsI (zsJ (zsI m 1306 p (zI m 301 p 0).toNatClampNeg rk) 1307 p (zI m 301 p 0).toNatClampNeg co) 301 p 0 (zI m 301 p 0 + 1)
def zAHm (m : zM) (p : Nat) (pt : Int32) : zM := zsI (zsI m 1309 p (zI m 302 p 0).toNatClampNeg pt) 302 p 0 (zI m 302 p 0 + 1)
theorem z_toInt64_inj {a b : Int32} (h : a.toInt64 = b.toInt64) : a = b := by
  have h1 : a.toInt64.toInt32 = b.toInt64.toInt32 := by rw [h]
  simpa using h1
section ZPU
variable {l : Launch} {G : zG}
theorem C_X3_addLien (hL : zLay G) : Con_X3_addLien l G (fun p _ _ m => zWP m p) (fun p x1 l2 m r m' => if zI m 301 p 0 < 4 then r = zI m 301 p 0 ∧ m' = zALm m p x1 l2 else r = -1 ∧ m' = m) := by
  refine con_X3_addLien hL fun C Qc S hl p x1 l2 m kp hp hr => sg_X3_addLien_0 S kp ?_
  obtain ⟨⟨n, hn, hn2⟩, -⟩ := hp
  refine ⟨fun h => ⟨?_, hr _ _ ?_⟩, fun h => hr _ _ ?_⟩
  · rw [hn2] at h ⊢
    refine vp_in_nI ?_ (by omega)
    by_cases q : n < 4
    · exact q
    · exact absurd h (znlt' 4 (by omega))
  · rw [if_pos h]
    refine ⟨?_, rfl⟩
    rw [Int32.add_sub_cancel]
  · rw [if_neg h]
    exact ⟨rfl, rfl⟩
theorem C_X3_addHeir (hL : zLay G) : Con_X3_addHeir l G (fun p _ m => zWP m p) (fun p x1 m r m' => if zI m 302 p 0 < 4 then r = zI m 302 p 0 ∧ m' = zAHm m p x1 else r = -1 ∧ m' = m) := by
  refine con_X3_addHeir hL fun C Qc S hl p x1 m kp hp hr => sg_X3_addHeir_0 S kp ?_
  obtain ⟨-, n, hn, hn2⟩ := hp
  refine ⟨fun h => ⟨?_, hr _ _ ?_⟩, fun h => hr _ _ ?_⟩
  · rw [hn2] at h ⊢
    refine vp_in_nI ?_ (by omega)
    by_cases q : n < 4
    · exact q
    · exact absurd h (znlt' 4 (by omega))
  · rw [if_pos h]
    refine ⟨?_, rfl⟩
    rw [Int32.add_sub_cancel]
  · rw [if_neg h]
    exact ⟨rfl, rfl⟩
theorem C_X3_lienCoins (hL : zLay G) : Con_X3_lienCoins l G (fun p m => zWP m p) (fun p m r => r = zsum (zJ m 1308 p) (zI m 301 p 0).toNatClampNeg) := by
  refine con_X3_lienCoins hL fun C Qc S hl p m kp hp hr => sg_X3_lienCoins_0 S kp ?_
  obtain ⟨⟨n, hn, hn2⟩, -⟩ := hp
  rw [hn2, nI_clamp (by omega)] at hr
  refine z_loop (P := fun i => Pt_X3_lienCoins_4 C G p (zsum (zJ m 1308 p) i) (nI i) m) n ?_ (fun i hi ih => ?_) 0 (Nat.zero_le n)
  · exact sg_X3_lienCoins_4 S kp ⟨fun _ => hr _ rfl, fun q => by rw [hn2] at q; exact absurd (nI_le (Nat.le_refl n) (by omega)) q⟩
  · refine sg_X3_lienCoins_4 S kp ⟨fun q => by rw [hn2] at q; exact absurd q (nI_ge hi (by omega)), fun _ => ⟨fun q => absurd q (zge 4 (by omega)), fun _ => ⟨vp_in_nI (by omega) (by omega), ?_⟩⟩⟩
    rw [nI_clamp (by omega), ← nI_succ]
    exact ih
theorem C_X3_heirCoins (hL : zLay G) : Con_X3_heirCoins l G (fun p m => zWP m p) (fun p m r => r = zsum (zJ m 1310 p) (zI m 302 p 0).toNatClampNeg) := by
  refine con_X3_heirCoins hL fun C Qc S hl p m kp hp hr => sg_X3_heirCoins_0 S kp ?_
  obtain ⟨-, n, hn, hn2⟩ := hp
  rw [hn2, nI_clamp (by omega)] at hr
  refine z_loop (P := fun i => Pt_X3_heirCoins_4 C G p (zsum (zJ m 1310 p) i) (nI i) m) n ?_ (fun i hi ih => ?_) 0 (Nat.zero_le n)
  · exact sg_X3_heirCoins_4 S kp ⟨fun _ => hr _ rfl, fun q => by rw [hn2] at q; exact absurd (nI_le (Nat.le_refl n) (by omega)) q⟩
  · refine sg_X3_heirCoins_4 S kp ⟨fun q => by rw [hn2] at q; exact absurd q (nI_ge hi (by omega)), fun _ => ⟨fun q => absurd q (zge 4 (by omega)), fun _ => ⟨vp_in_nI (by omega) (by omega), ?_⟩⟩⟩
    rw [nI_clamp (by omega), ← nI_succ]
    exact ih
theorem C_X3_allParts (hL : zLay G) : Con_X3_allParts l G (fun p m => zWP m p) (fun p m r => r = zsumI (zI m 1309 p) (zI m 302 p 0).toNatClampNeg) := by
  refine con_X3_allParts hL fun C Qc S hl p m kp hp hr => sg_X3_allParts_0 S kp ?_
  obtain ⟨-, n, hn, hn2⟩ := hp
  rw [hn2, nI_clamp (by omega)] at hr
  refine z_loop (P := fun i => Pt_X3_allParts_4 C G p (zsumI (zI m 1309 p) i) (nI i) m) n ?_ (fun i hi ih => ?_) 0 (Nat.zero_le n)
  · exact sg_X3_allParts_4 S kp ⟨fun _ => hr _ rfl, fun q => by rw [hn2] at q; exact absurd (nI_le (Nat.le_refl n) (by omega)) q⟩
  · refine sg_X3_allParts_4 S kp ⟨fun q => by rw [hn2] at q; exact absurd q (nI_ge hi (by omega)), fun _ => ⟨fun q => absurd q (zge 4 (by omega)), fun _ => ⟨vp_in_nI (by omega) (by omega), ?_⟩⟩⟩
    rw [nI_clamp (by omega), ← nI_succ]
    exact ih
theorem C_X3_payLiens (hL : zLay G) : Con_X3_payLiens l G (fun p _ m => zWP m p) (fun p coins m r m' => r = (zPLs m p coins).1 ∧ m' = zcJ m 1308 p (zPLs m p coins).2) := by
  refine con_X3_payLiens hL fun C Qc S hl p coins m kp hp hr => sg_X3_payLiens_0 S kp ?_
  obtain ⟨⟨n, hn, hn2⟩, -⟩ := hp
  unfold zPLs at hr
  rw [hn2, nI_clamp (by omega)] at hr
  have e0 : m = zcJ m 1308 p (zpl (zI m 1306 p) (zJ m 1307 p) n 0 (coins, zJ m 1308 p)).2 := (zcJ_self m 1308 p).symm
  have key : Pt_X3_payLiens_5 C G p (zpl (zI m 1306 p) (zJ m 1307 p) n 0 (coins, zJ m 1308 p)).1 (nI 0) (zcJ m 1308 p (zpl (zI m 1306 p) (zJ m 1307 p) n 0 (coins, zJ m 1308 p)).2) := by
    refine z_loop (P := fun t => Pt_X3_payLiens_5 C G p (zpl (zI m 1306 p) (zJ m 1307 p) n t (coins, zJ m 1308 p)).1 (nI t) (zcJ m 1308 p (zpl (zI m 1306 p) (zJ m 1307 p) n t (coins, zJ m 1308 p)).2)) 10 ?_ (fun t ht ih => ?_) 0 (by omega)
    · exact sg_X3_payLiens_5 S kp ⟨fun _ => hr _ _ ⟨rfl, rfl⟩, fun q => absurd (by decide) q⟩
    · refine sg_X3_payLiens_5 S kp ⟨fun q => absurd q (znlt 9 (by omega)), fun _ => ?_⟩
      generalize hs : zpl (zI m 1306 p) (zJ m 1307 p) n t (coins, zJ m 1308 p) = s at ih ⊢
      rw [zpl, hs, nI_succ] at ih
      have inner : ∀ i, i ≤ n → Pt_X3_payLiens_15 C G p (zpl1 (zI m 1306 p) (zJ m 1307 p) (nI t) i s).1 (nI t) (nI i) (zcJ m 1308 p (zpl1 (zI m 1306 p) (zJ m 1307 p) (nI t) i s).2) := by
        refine z_loop n ?_ (fun i hi ih2 => ?_)
        · exact sg_X3_payLiens_15 S kp ⟨fun _ => ih, fun q => by rw [zI_CJ, hn2] at q; exact absurd (nI_le (Nat.le_refl n) (by omega)) q⟩
        · refine sg_X3_payLiens_15 S kp ⟨fun q => by rw [zI_CJ, hn2] at q; exact absurd q (nI_ge hi (by omega)), fun _ => ⟨fun q => absurd q (zge 4 (by omega)), fun _ => ⟨vp_in_nI (by omega) (by omega), ?_⟩⟩⟩
          rw [nI_clamp (by omega), ← nI_succ, zI_CJ, zJ_cn (by decide), zJ_ce, zsJ_cJ]
          refine ⟨fun q => ?_, fun q => ?_⟩
          · rw [zpl1, if_neg q] at ih2
            exact ih2
          · rw [zpl1, if_pos q] at ih2
            exact ih2
      exact inner 0 (Nat.zero_le n)
  have key2 := key
  rw [← e0] at key2
  exact key2
theorem C_X3_payHeirs (hL : zLay G) : Con_X3_payHeirs l G (fun p _ m => zWP m p) (fun p coins m m' => m' = zPHm m p coins) := by
  refine con_X3_payHeirs hL fun C Qc S hl p coins m kp hp hr => sg_X3_payHeirs_0 S (C_X3_allParts hL) kp ⟨hp, fun r hq => ⟨fun q => ?_, fun q => hr _ ?_⟩⟩
  · obtain ⟨-, n, hn, hn2⟩ := hp
    unfold zPHm at hr
    rw [← hq, if_neg q, hn2, nI_clamp (by omega)] at hr
    have q64 : ¬ r.toInt64 = 0 := fun z => q (z_toInt64_inj (b := 0) z)
    have e0 : m = zcJ m 1310 p (zph (zI m 1309 p) coins r.toInt64 0 (coins, zJ m 1310 p)).2 := (zcJ_self m 1310 p).symm
    have key : Pt_X3_payHeirs_26 C G p coins r (zph (zI m 1309 p) coins r.toInt64 0 (coins, zJ m 1310 p)).1 (nI 0) (zcJ m 1310 p (zph (zI m 1309 p) coins r.toInt64 0 (coins, zJ m 1310 p)).2) := by
      refine z_loop (P := fun i => Pt_X3_payHeirs_26 C G p coins r (zph (zI m 1309 p) coins r.toInt64 i (coins, zJ m 1310 p)).1 (nI i) (zcJ m 1310 p (zph (zI m 1309 p) coins r.toInt64 i (coins, zJ m 1310 p)).2)) n ?_ (fun i hi ih => ?_) 0 (Nat.zero_le n)
      · refine sg_X3_payHeirs_26 S kp ⟨fun _ => sg_X3_payHeirs_81 S kp (hr _ ?_), fun z => by rw [zI_CJ, hn2] at z; exact absurd (nI_le (Nat.le_refl n) (by omega)) z⟩
        rw [zsJ_cJ, zJ_ce]
      · refine sg_X3_payHeirs_26 S kp ⟨fun z => by rw [zI_CJ, hn2] at z; exact absurd z (nI_ge hi (by omega)), fun _ => ⟨fun z => absurd z (zge 4 (by omega)), fun _ => ⟨vp_in_nI (by omega) (by omega), q64, ?_⟩⟩⟩
        rw [nI_clamp (by omega), ← nI_succ, zI_CJ, zJ_ce, zsJ_cJ]
        exact ih
    have key2 := key
    rw [← e0] at key2
    exact key2
  · unfold zPHm
    rw [← hq, if_pos q]
theorem zWP_ext {m m' : zM} {p : Nat} (h1 : zI m 301 p 0 = zI m' 301 p 0) (h2 : zI m 302 p 0 = zI m' 302 p 0) (h : zWP m p) : zWP m' p := by
  unfold zWP at h ⊢
  rw [← h1, ← h2]
  exact h
theorem C_X3_pay (hL : zLay G) : Con_X3_pay l G (fun p _ m => zWP m p) (fun p coins m m' => m' = zPAm m p coins) := by
  refine con_X3_pay hL fun C Qc S hl p coins m kp hp hr => sg_X3_pay_0 S (C_X3_payLiens hL) (C_X3_payHeirs hL) kp ⟨hp, fun r m2 hq => ?_⟩
  obtain ⟨rfl, rfl⟩ := hq
  exact ⟨hp, fun m4 h4 => hr _ h4⟩
theorem C_X3_payUpTo (hL : zLay G) : Con_X3_payUpTo l G (fun p _ m => zWP m p) (fun p due m m' => m' = zPUm m p due) := by
  refine con_X3_payUpTo hL fun C Qc S hl p due m kp hp hr => sg_X3_payUpTo_0 S (C_X3_pay hL) kp ⟨fun q => hr _ ?_, fun q => ⟨hp, fun m2 hq => hr _ ?_⟩⟩
  · unfold zPUm; rw [if_pos q]
  · unfold zPUm; rw [if_neg q]; exact hq
def zCOv (m : zM) (p : Nat) (x : Int32) : Int64 :=
  if ¬ x < 10 ∧ ¬ 14 ≤ x then (if zI m 301 p 0 ≤ x - 10 then -1 else zJ m 1308 p (x - 10).toNatClampNeg)
  else if ¬ x < 20 ∧ ¬ 24 ≤ x then (if zI m 302 p 0 ≤ x - 20 then -1 else zJ m 1310 p (x - 20).toNatClampNeg)
  else if x = 1 then zJ m 303 p 0 else if x = 2 then zJ m 304 p 0 else if x = 3 then zsum (zJ m 1308 p) (zI m 301 p 0).toNatClampNeg else if x = 4 then zsum (zJ m 1310 p) (zI m 302 p 0).toNatClampNeg else if x = 5 then zJ m 305 p 0 else -1
theorem z_vpsub {x : Int32} (k : Nat) (hk : k < 2 ^ 20) (c d : Int32) (hc : c = nI k) (hd : d = nI (k + 4)) (h1 : ¬ x < c) (h2 : ¬ d ≤ x) : vp_in (x - c) 4 := by
  subst hc
  subst hd
  rw [vp_in_iff]
  rw [Int32.lt_iff_toInt_lt, nI_toInt (by omega)] at h1
  rw [Int32.le_iff_toInt_le, nI_toInt (by omega)] at h2
  rw [Int32.toInt_sub, nI_toInt (by omega)]
  have e : (x.toInt - (k : Int)).bmod (2 ^ 32) = x.toInt - k := by
    rw [Int.bmod_eq_of_le] <;> omega
  rw [e]
  omega
theorem C_X3_coinsOf (hL : zLay G) : Con_X3_coinsOf l G (fun p _ m => zWP m p) (fun p x m r => r = zCOv m p x) := by
  refine con_X3_coinsOf hL fun C Qc S hl p x m kp hp hr => ?_
  have k78 : ¬ (¬ x < 10 ∧ ¬ 14 ≤ x) → ¬ (¬ x < 20 ∧ ¬ 24 ≤ x) → Pt_X3_coinsOf_78 C G p x m := by
    intro n1 n2
    unfold zCOv at hr
    rw [if_neg n1, if_neg n2] at hr
    refine sg_X3_coinsOf_78 S (C_X3_lienCoins hL) (C_X3_heirCoins hL) kp ⟨fun h => hr _ ?_, fun h => hr _ ?_, fun h => hr _ ?_, fun h => ⟨hp, fun r hq => hr _ ?_⟩, fun h => ⟨hp, fun r hq => hr _ ?_⟩, fun h => hr _ ?_⟩
    · have e1 : ¬ x = 1 := fun q => by rw [q] at h; revert h; decide
      have e2 : ¬ x = 2 := fun q => by rw [q] at h; revert h; decide
      have e3 : ¬ x = 3 := fun q => by rw [q] at h; revert h; decide
      have e4 : ¬ x = 4 := fun q => by rw [q] at h; revert h; decide
      have e5 : ¬ x = 5 := fun q => by rw [q] at h; revert h; decide
      rw [if_neg e1, if_neg e2, if_neg e3, if_neg e4, if_neg e5]
    all_goals subst h
    · rfl
    · rfl
    · exact hq
    · exact hq
    · rfl
  have k39 : ¬ (¬ x < 10 ∧ ¬ 14 ≤ x) → Pt_X3_coinsOf_39 C G p x m := by
    intro n1
    refine sg_X3_coinsOf_39 S kp ⟨fun h => k78 n1 (fun q => q.1 h), fun h => ⟨fun h2 => k78 n1 (fun q => q.2 h2), fun h2 => ⟨fun h3 => hr _ ?_, fun h3 => ⟨z_vpsub 20 (by omega) 20 24 rfl rfl h h2, hr _ ?_⟩⟩⟩⟩
    · unfold zCOv; rw [if_neg n1, if_pos ⟨h, h2⟩, if_pos h3]
    · unfold zCOv; rw [if_neg n1, if_pos ⟨h, h2⟩, if_neg h3]
  refine sg_X3_coinsOf_0 S kp ⟨fun h => k39 (fun q => q.1 h), fun h => ⟨fun h2 => k39 (fun q => q.2 h2), fun h2 => ⟨fun h3 => hr _ ?_, fun h3 => ⟨z_vpsub 10 (by omega) 10 14 rfl rfl h h2, hr _ ?_⟩⟩⟩⟩
  · unfold zCOv; rw [if_pos ⟨h, h2⟩, if_pos h3]
  · unfold zCOv; rw [if_pos ⟨h, h2⟩, if_neg h3]
def zPCm (m : zM) (p q : Nat) : zM := zcJ (zcI (zcJ (zcJ (zcI (zsJ (zsJ (zsJ (zsI (zsI (zsI m 300 p 0 (zI m 300 q 0)) 301 p 0 (zI m 301 q 0)) 302 p 0 (zI m 302 q 0)) 303 p 0 (zJ m 303 q 0)) 304 p 0 (zJ m 304 q 0)) 305 p 0 (zJ m 305 q 0)) 1306 p (zI m 1306 q)) 1307 p (zJ m 1307 q)) 1308 p (zJ m 1308 q)) 1309 p (zI m 1309 q)) 1310 p (zJ m 1310 q)
theorem C_X3_copyFrom (hL : zLay G) : Con_X3_copyFrom l G (fun _ _ _ => True) (fun p q m m' => m' = zPCm m p q) :=
  con_X3_copyFrom hL fun C Qc S hl p q m kp kq _ hr => sg_X3_copyFrom_0 S kp kq (hr _ rfl)
end ZPU
