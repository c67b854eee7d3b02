/-! the class's book and the reference's rows, side by side -/
theorem zhold_x {su su' sg sg' num num' no no' : Nat → Int32} {base : Nat} {k y l p pts : Int32} : ∀ n, (∀ i, i < n → su (base + i) = su' (base + i) ∧ no (base + i) = no' (base + i) ∧ num (base + i) = num' (base + i) ∧ (¬ su (base + i) = 5 → sg (base + i) = sg' (base + i))) → zhold su sg num no base k y l p pts n = zhold su' sg' num' no' base k y l p pts n
  | 0, _ => rfl
  | n + 1, h => by
    obtain ⟨h1, h2, h3, h4⟩ := h n (by omega)
    rw [zhold, zhold, zhold_x n (fun i hi => h i (by omega)), ← h1, ← h2, ← h3]
    congr 3
    unfold zmet
    by_cases q : su (base + n) = 5
    · rw [if_pos q, if_pos q]
    · rw [if_neg q, if_neg q, h4 q]
theorem zpf_x {act act' am am' te te' su su' sg sg' num num' no no' : Nat → Int32} {k y l p : Int32} : ∀ d i pts, (∀ x, i ≤ x → x < i + d → act x = act' x ∧ am x = am' x ∧ te x = te' x ∧ ∀ j, j < (te' x).toNatClampNeg → su (4 * x + j) = su' (4 * x + j) ∧ no (4 * x + j) = no' (4 * x + j) ∧ num (4 * x + j) = num' (4 * x + j) ∧ (¬ su (4 * x + j) = 5 → sg (4 * x + j) = sg' (4 * x + j))) → zpf act am te su sg num no k y l p d i pts = zpf act' am' te' su' sg' num' no' k y l p d i pts
  | 0, _, _, _ => rfl
  | d + 1, i, pts, h => by
    obtain ⟨h1, h2, h3, h4⟩ := h i (Nat.le_refl i) (by omega)
    have ih := fun pts => zpf_x (k := k) (y := y) (l := l) (p := p) d (i + 1) pts (fun x hx hx2 => h x (by omega) (by omega))
    rw [zpf, zpf, h1, h2, h3, zhold_x _ h4, ih, ih]
def zTy (mc mr : zM) (g o x : Nat) : Prop := zI mc 1204 g x = zwS mr o x ∧ zI mc 1207 g x = zwN mr o x ∧ zI mc 1206 g x = zI mr 1622 o x ∧ (¬ zI mc 1204 g x = 5 → zI mc 1205 g x = zI mr 1621 o x)
def zSg (mc mr : zM) (g o : Nat) : Prop := zWG mc g ∧ zRG mr o ∧ zI mc 200 g 0 = zI mr 1618 o 0 ∧ ∀ l, l < (zI mr 1618 o 0).toNatClampNeg → zI mc 1201 g l = zI mr 1623 o l ∧ zI mc 1202 g l = zI mr 1624 o l ∧ zI mc 1203 g l = zI mr 1619 o l ∧ ∀ i, i < (zI mr 1619 o l).toNatClampNeg → zTy mc mr g o (4 * l + i)
theorem zSg_p {mc mr : zM} {g o : Nat} (h : zSg mc mr g o) (k y l p : Int32) : zpg mc g k y l p = zrp mr o k y l p := by
  obtain ⟨-, -, h1, h2⟩ := h
  unfold zpg zrp
  rw [h1]
  refine zpf_x _ _ _ (fun x _ hx => ?_)
  obtain ⟨a, b, c, d⟩ := h2 x (by omega)
  exact ⟨a, b, c, d⟩
theorem zrp_N {mr : zM} {o : Nat} (h : zRG mr o) (k y l p : Int32) : ∃ w, w ≤ 1000000 ∧ zrp mr o k y l p = nI w := by
  obtain ⟨L, hL, eL, hg⟩ := h
  unfold zrp
  rw [eL, nI_clamp (by omega)]
  exact zpf_N hg k y l p L 0 0 (by omega) (by omega)
/-! least and most -/
theorem zml_N {pf : Int32 → Int32} {pa : Int32} (h : ∀ p, ∃ w, w ≤ 1000000 ∧ pf p = nI w) : ∀ n, ∃ w, w ≤ 1000000 ∧ zml pf pa n = nI w
  | 0 => ⟨1000000, by omega, rfl⟩
  | n + 1 => by
    rw [zml]
    split
    · split
      · exact h _
      · exact zml_N h n
    · exact zml_N h n
theorem zmm_N {pf : Int32 → Int32} {pa : Int32} (h : ∀ p, ∃ w, w ≤ 1000000 ∧ pf p = nI w) : ∀ n, ∃ w, w ≤ 1000000 ∧ zmm pf pa n = nI w
  | 0 => ⟨0, by omega, rfl⟩
  | n + 1 => by
    rw [zmm]
    split
    · split
      · exact h _
      · exact zmm_N h n
    · exact zmm_N h n
theorem zml_le {pf : Int32 → Int32} {pa : Int32} : ∀ n i, i < n → nI i &&& pa = pa → zml pf pa n ≤ pf (nI i)
  | 0, i, h, _ => by omega
  | n + 1, i, h, hi => by
    rw [zml]
    by_cases e : i = n
    · subst e
      rw [if_pos hi]
      split
      · exact Int32.le_refl _
      · rename_i q; exact Int32.not_lt.1 q
    · have := zml_le (pf := pf) (pa := pa) n i (by omega) hi
      split
      · split
        · rename_i q; exact Int32.le_of_lt (Int32.lt_of_lt_of_le q this)
        · exact this
      · exact this
theorem zmm_ge {pf : Int32 → Int32} {pa : Int32} : ∀ n i, i < n → nI i &&& pa = pa → pf (nI i) ≤ zmm pf pa n
  | 0, i, h, _ => by omega
  | n + 1, i, h, hi => by
    rw [zmm]
    by_cases e : i = n
    · subst e
      rw [if_pos hi]
      split
      · exact Int32.le_refl _
      · rename_i q; exact Int32.not_lt.1 q
    · have := zmm_ge (pf := pf) (pa := pa) n i (by omega) hi
      split
      · split
        · rename_i q; exact Int32.le_of_lt (Int32.lt_of_le_of_lt this q)
        · exact this
      · exact this
/-- the least is at least v, the most at most v, if all are -/
theorem zml_gt {pf : Int32 → Int32} {pa v : Int32} (hv : v ≤ 1000000) : ∀ n, (∀ i, i < n → nI i &&& pa = pa → v ≤ pf (nI i)) → v ≤ zml pf pa n
  | 0, _ => hv
  | n + 1, h => by
    have ih := zml_gt hv n (fun i hi => h i (by omega))
    rw [zml]
    split
    · rename_i q
      split
      · exact h n (by omega) q
      · exact ih
    · exact ih
theorem zmm_lt {pf : Int32 → Int32} {pa v : Int32} (hv : 0 ≤ v) : ∀ n, (∀ i, i < n → nI i &&& pa = pa → pf (nI i) ≤ v) → zmm pf pa n ≤ v
  | 0, _ => hv
  | n + 1, h => by
    have ih := zmm_lt hv n (fun i hi => h i (by omega))
    rw [zmm]
    split
    · rename_i q
      split
      · exact h n (by omega) q
      · exact ih
    · exact ih
/-- what is known of a claim of the reference -/
def zRk (mr : zM) (o c : Nat) : Prop := zRP mr o c ∧ (∃ s, s < 3 ∧ zI mr 1609 o (10 * c + 5) = nI s) ∧ (zI mr 1609 o (10 * c + 5) = 1 → ∃ v, v ≤ 1000000 ∧ zI mr 1609 o (10 * c + 6) = nI v)
theorem z_self (a : Nat) : nI a &&& nI a = nI a := by rw [Int32.and_self]
theorem zRk_N {mr : zM} {o c : Nat} (hg : zRG mr o) (h : zRk mr o c) : ∃ L M, L ≤ M ∧ M ≤ 1000000 ∧ zRle mr o c = nI L ∧ zRmo mr o c = nI M := by
  obtain ⟨⟨a, ha, ea⟩, -, h1⟩ := h
  unfold zRle zRmo
  by_cases q : zI mr 1609 o (10 * c + 5) = 0
  · rw [if_pos q, if_pos q, ea]
    have hp : ∀ p, ∃ w, w ≤ 1000000 ∧ zrw mr o c p = nI w := fun p => zrp_N hg _ _ _ p
    obtain ⟨L, hL, eL⟩ := zml_N (pa := nI a) hp 64
    obtain ⟨M, hM, eM⟩ := zmm_N (pa := nI a) hp 64
    refine ⟨L, M, ?_, hM, eL, eM⟩
    have h2 := zml_le (pf := zrw mr o c) 64 a ha (z_self a)
    have h3 := zmm_ge (pf := zrw mr o c) 64 a ha (z_self a)
    have := Int32.le_trans h2 h3
    rw [eL, eM, nI_leI (by omega) (by omega)] at this
    exact this
  · rw [if_neg q, if_neg q]
    by_cases q1 : zI mr 1609 o (10 * c + 5) = 1
    · obtain ⟨v, hv, ev⟩ := h1 q1
      rw [if_pos q1]
      exact ⟨v, v, Nat.le_refl v, hv, ev, ev⟩
    · rw [if_neg q1]
      exact ⟨0, 0, by omega, by omega, rfl, rfl⟩
/-! the purse and the claim -/
def zSp (mc mr : zM) (p o c : Nat) : Prop :=
  zI mc 300 p 0 = zI mr 1609 o (10 * c + 7) ∧ zI mc 301 p 0 = zI mr 1609 o (10 * c + 8) ∧ zI mc 302 p 0 = zI mr 1609 o (10 * c + 9) ∧ zRPy mr o c ∧
  zJ mc 303 p 0 = zJ mr 1610 o c ∧ zJ mc 304 p 0 = zJ mr 1611 o c ∧ zJ mc 305 p 0 = zJ mr 1612 o c ∧
  (∀ k, k < (zI mr 1609 o (10 * c + 8)).toNatClampNeg → zI mc 1306 p k = zsh (zI mr 1613 o) c k ∧ zJ mc 1307 p k = zsh (zJ mr 1614 o) c k ∧ zJ mc 1308 p k = zsh (zJ mr 1615 o) c k) ∧
  (∀ k, k < (zI mr 1609 o (10 * c + 9)).toNatClampNeg → zI mc 1309 p k = zsh (zI mr 1616 o) c k ∧ zJ mc 1310 p k = zsh (zJ mr 1617 o) c k) ∧
  (∀ k, (zI mr 1609 o (10 * c + 8)).toNatClampNeg ≤ k → k < 4 → zJ mc 1308 p k = 0) ∧ (∀ k, (zI mr 1609 o (10 * c + 9)).toNatClampNeg ≤ k → k < 4 → zJ mc 1310 p k = 0)
def zSd (mr : zM) (o c : Nat) : Prop := (∃ P, P ≤ 1000000000000 ∧ zJ mr 1610 o c = lN P) ∧ (zI mr 1609 o (10 * c + 5) = 2 → zJ mr 1610 o c = 0)
def zSc (mc mr : zM) (q o c : Nat) : Prop :=
  (zI mc 100 q 0 = zI mr 1609 o (10 * c) ∧ zI mc 101 q 0 = zI mr 1609 o (10 * c + 1) ∧ zI mc 102 q 0 = zI mr 1609 o (10 * c + 2) ∧ zI mc 103 q 0 = zI mr 1609 o (10 * c + 3) ∧ zI mc 104 q 0 = zI mr 1609 o (10 * c + 4) ∧ zI mc 105 q 0 = zI mr 1609 o (10 * c + 5)) ∧
  zRk mr o c ∧ zI mc 106 q 0 = zRle mr o c ∧ zI mc 107 q 0 = zRmo mr o c ∧ zSp mc mr (q + 1) o c ∧ zSd mr o c
/-- a claim that is free -/
def zSf (mc : zM) (q : Nat) : Prop := (zI mc 105 q 0 = 3 ∧ zI mc 106 q 0 = 0 ∧ zI mc 107 q 0 = 0 ∧ ∃ a, a < 64 ∧ zI mc 104 q 0 = nI a) ∧
  (zI mc 300 (q + 1) 0 = 0 ∧ zI mc 301 (q + 1) 0 = 0 ∧ zI mc 302 (q + 1) 0 = 0 ∧ zJ mc 303 (q + 1) 0 = 0 ∧ zJ mc 304 (q + 1) 0 = 0 ∧ zJ mc 305 (q + 1) 0 = 0 ∧ ∀ k, k < 4 → zJ mc 1308 (q + 1) k = 0 ∧ zJ mc 1310 (q + 1) k = 0)
/-- all but the claims -/
def zSh0 (mc mr : zM) (b o : Nat) : Prop :=
  (zJ mc 0 b 0 = zJ mr 1605 o 0 ∧ ∃ K, 1 ≤ K ∧ K ≤ 1000000000000 ∧ zJ mr 1605 o 0 = lN K) ∧
  (∀ j, j < 400 → zI mc 1001 b j = zI mr 1601 o j) ∧
  (zI mc 2 b 0 = zI mr 1602 o 0 ∧ ∃ k, k ≤ 400 ∧ zI mr 1602 o 0 = nI k) ∧
  zI mc 4 b 0 = zI mr 1603 o 0 ∧ zI mc 5 b 0 = zI mr 1604 o 0 ∧
  (zI mc 7 b 0 = zI mr 1606 o 0 ∧ ∃ n, n ≤ 16 ∧ zI mr 1606 o 0 = nI n) ∧
  zI mc 8 b 0 = zI mr 1607 o 0 ∧ (zI mc 9 b 0 = zI mr 1608 o 0 ∧ (zI mr 1608 o 0 = 0 ∨ zI mr 1608 o 0 = 1))
def zSq (mc mr : zM) (b o : Nat) : Prop :=
  zSh0 mc mr b o ∧ zSg mc mr (zR mc 3 b) o ∧ (∀ c, c < (zI mr 1606 o 0).toNatClampNeg → zSc mc mr (zkq b c) o c) ∧ (∀ c, (zI mr 1606 o 0).toNatClampNeg ≤ c → c < 16 → zSf mc (zkq b c))
def zSm (mc mr : zM) (b o : Nat) : Prop := zSq mc mr b o ∧ (zI mr 1608 o 0 = 0 → zRH mr o)
section ZSM
variable {mc mr : zM} {b o : Nat}
theorem zSq_n (h : zSq mc mr b o) : ∃ n, n ≤ 16 ∧ zI mr 1606 o 0 = nI n ∧ (zI mr 1606 o 0).toNatClampNeg = n := by
  obtain ⟨⟨-, -, -, -, -, ⟨-, n, hn, en⟩, -⟩, -⟩ := h
  exact ⟨n, hn, en, by rw [en, nI_clamp (by omega)]⟩
theorem zSq_C (h : zSq mc mr b o) : zRC mr o := by
  obtain ⟨n, hn, en, en2⟩ := zSq_n h
  refine ⟨h.2.1.2.1, n, hn, en, fun c hc => ?_⟩
  exact (h.2.2.1 c (by omega)).2.1.1
theorem zSq_pp (h : zSq mc mr b o) : zRpp mr o := fun c hc => (h.2.2.1 c hc).2.2.2.2.1.2.2.2.1
theorem zSq_lh (h : zSq mc mr b o) : zRLH mr o := fun c hc => by
  obtain ⟨h1, H, h2, h3, -⟩ := zSq_pp h c hc
  exact ⟨h1, H, h2, h3⟩
theorem zSq_W (h : zSq mc mr b o) : zbWP mc b := fun c hc => by
  by_cases q : c < (zI mr 1606 o 0).toNatClampNeg
  · obtain ⟨-, -, -, -, hp, -⟩ := h.2.2.1 c q
    obtain ⟨-, e1, e2, ⟨⟨L, hL, eL⟩, H, hH, eH, -⟩, -⟩ := hp
    exact ⟨⟨L, hL, e1.trans eL⟩, H, hH, e2.trans eH⟩
  · obtain ⟨-, -, e1, e2, -⟩ := h.2.2.2 c (by omega) hc
    exact ⟨⟨0, by omega, e1⟩, 0, by omega, e2⟩
theorem zSq_P (h : zSq mc mr b o) : zbPP mc b := fun c hc => by
  by_cases q : c < (zI mr 1606 o 0).toNatClampNeg
  · obtain ⟨⟨-, -, -, -, e4, -⟩, ⟨⟨a, ha, ea⟩, -⟩, -⟩ := h.2.2.1 c q
    exact ⟨a, ha, e4.trans ea⟩
  · exact (h.2.2.2 c (by omega) hc).1.2.2.2
theorem zSq_Ma (h : zSq mc mr b o) : zbMa mc b = zRa mr o := by
  obtain ⟨n, hn, en, en2⟩ := zSq_n h
  unfold zbMa zRa
  rw [zsum_more (n := n) hn (fun c h1 h2 => by rw [(h.2.2.2 c (by omega) h2).1.2.2.1]; rfl), en2]
  exact zsum_ext (fun c hc => by rw [(h.2.2.1 c (by omega)).2.2.2.1])
theorem zSq_La (h : zSq mc mr b o) : zbLa mc b = zsum (fun c => (zRle mr o c).toInt64) (zI mr 1606 o 0).toNatClampNeg := by
  obtain ⟨n, hn, en, en2⟩ := zSq_n h
  unfold zbLa
  rw [zsum_more (n := n) hn (fun c h1 h2 => by rw [(h.2.2.2 c (by omega) h2).1.2.1]; rfl), en2]
  exact zsum_ext (fun c hc => by rw [(h.2.2.1 c (by omega)).2.2.1])
theorem zSq_Pa (h : zSq mc mr b o) : zbPa mc b = zsum (zJ mr 1610 o) (zI mr 1606 o 0).toNatClampNeg := by
  obtain ⟨n, hn, en, en2⟩ := zSq_n h
  unfold zbPa
  rw [zsum_more (n := n) hn (fun c h1 h2 => (h.2.2.2 c (by omega) h2).2.2.2.2.1), en2]
  exact zsum_ext (fun c hc => (h.2.2.1 c (by omega)).2.2.2.2.1.2.2.2.2.1)
end ZSM
/-- a sum of small numbers -/
theorem zsum_N {f : Nat → Int64} {B : Nat} : ∀ n, (∀ i, i < n → ∃ v, v ≤ B ∧ f i = lN v) → ∃ V, V ≤ n * B ∧ zsum f n = lN V ∧ ∀ i v, i < n → f i = lN v → v < 2 ^ 63 → n * B < 2 ^ 63 → v ≤ V
  | 0, _ => ⟨0, by omega, rfl, fun i v h => by omega⟩
  | n + 1, h => by
    obtain ⟨V, h1, h2, h3⟩ := zsum_N n (fun i hi => h i (by omega))
    obtain ⟨v, hv, ev⟩ := h n (by omega)
    refine ⟨V + v, ?_, ?_, fun i w hi ew hw hb => ?_⟩
    · rw [Nat.succ_mul]; omega
    · rw [zsum, h2, ev, lN_add]
    · rw [Nat.succ_mul] at hb
      by_cases e : i = n
      · subst e
        rw [ev] at ew
        have := (pk_lEQ (by omega) hw).1 ew
        omega
      · have := h3 i w (by omega) ew hw (by omega)
        omega
