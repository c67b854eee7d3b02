/-! the class's reader: words and numbers, held against the reference's tokens -/
/-- the token as the reference has it -/
def zSo (T : Nat → Int32) (n b : Nat) : Int32 := if n ≤ b then 0 else if zql T n b = true then 2 else if zqd T n b = true then (if zTd T n b - b ≤ 4 then 3 else 1) else zsg (zse T n b)
def zVa (T : Nat → Int32) (n b : Nat) : Int32 := if n ≤ b then zse T n b else if zql T n b = true then zse T n b else if zqd T n b = true then zvl T b (zTd T n b - b) else zse T n b
def zWo (T : Nat → Int32) (n b : Nat) : Int64 := if n ≤ b then 0 else if zql T n b = true then (if zTl T n b - b ≤ 8 then zwd T b (zTl T n b - b) else 0) else 0
theorem zTL_627 (m : zM) (o b e : Nat) (v : Int32) (w : Int64) (s : Int32) : zI (zsI (zTL m o b e v w) 628 o 0 s) 627 o 0 = nI b := by
  rw [zI_n (by decide)]
  unfold zTL
  rw [zI_n (by decide), zI_sJ, zI_e]
theorem zRtk_e (m : zM) (o : Nat) (T : Nat → Int32) (n b : Nat) : zI (zRtk m o T n b) 625 o 0 = nI (zTe T n b) ∧ zI (zRtk m o T n b) 627 o 0 = nI b ∧ zI (zRtk m o T n b) 628 o 0 = zSo T n b ∧ zI (zRtk m o T n b) 629 o 0 = zVa T n b ∧ zJ (zRtk m o T n b) 630 o 0 = zWo T n b := by
  have k25 : ∀ e v w s, zI (zsI (zTL m o b e v w) 628 o 0 s) 625 o 0 = nI e := fun e v w s => (zI_n (by decide)).trans (zTL_625 ..)
  have k29 : ∀ e v w s, zI (zsI (zTL m o b e v w) 628 o 0 s) 629 o 0 = v := fun e v w s => (zI_n (by decide)).trans (zTL_629 ..)
  have k30 : ∀ e v w s, zJ (zsI (zTL m o b e v w) 628 o 0 s) 630 o 0 = w := fun e v w s => zTL_630 m o b e v w
  unfold zRtk zTe zSo zVa zWo
  by_cases q : n ≤ b
  · rw [if_pos (zse_neg.2 q), if_pos q, if_pos q, if_pos q, if_pos q]
    exact ⟨k25 _ _ _ _, zTL_627 .., zI_e, k29 _ _ _ _, k30 _ _ _ _⟩
  · rw [if_neg (fun z => q (zse_neg.1 z)), if_neg q, if_neg q, if_neg q, if_neg q]
    by_cases q1 : zql T n b = true
    · rw [if_pos q1, if_pos q1, if_pos q1, if_pos q1, if_pos q1]
      exact ⟨k25 _ _ _ _, zTL_627 .., zI_e, k29 _ _ _ _, k30 _ _ _ _⟩
    · rw [if_neg q1, if_neg q1, if_neg q1, if_neg q1, if_neg q1]
      by_cases q2 : zqd T n b = true
      · rw [if_pos q2, if_pos q2, if_pos q2, if_pos q2]
        exact ⟨k25 _ _ _ _, zTL_627 .., zI_e, k29 _ _ _ _, k30 _ _ _ _⟩
      · rw [if_neg q2, if_neg q2, if_neg q2, if_neg q2]
        exact ⟨k25 _ _ _ _, zTL_627 .., zI_e, k29 _ _ _ _, k30 _ _ _ _⟩
/-! only the first n bytes count -/
theorem zse_x {T T' : Nat → Int32} {n : Nat} (h : ∀ j, j < n → T' j = T j) : zse T' n = zse T n := by
  funext i
  unfold zse
  split
  · rename_i q; rw [h i q]
  · rfl
theorem zql_x {T T' : Nat → Int32} {n : Nat} (h : ∀ j, j < n → T' j = T j) : zql T' n = zql T n := by funext i; unfold zql; rw [zse_x h]
theorem zqd_x {T T' : Nat → Int32} {n : Nat} (h : ∀ j, j < n → T' j = T j) : zqd T' n = zqd T n := by funext i; unfold zqd; rw [zse_x h]
theorem zqb_x {T T' : Nat → Int32} {n : Nat} (h : ∀ j, j < n → T' j = T j) : zqb T' n = zqb T n := by funext i; unfold zqb; rw [zse_x h]
theorem zTb_x {T T' : Nat → Int32} {n : Nat} (h : ∀ j, j < n → T' j = T j) (p : Nat) : zTb T' n p = zTb T n p := by unfold zTb; rw [zqb_x h]
theorem zTl_x {T T' : Nat → Int32} {n : Nat} (h : ∀ j, j < n → T' j = T j) (p : Nat) : zTl T' n p = zTl T n p := by unfold zTl; rw [zql_x h]
theorem zTd_x {T T' : Nat → Int32} {n : Nat} (h : ∀ j, j < n → T' j = T j) (p : Nat) : zTd T' n p = zTd T n p := by unfold zTd; rw [zqd_x h]
theorem zTe_x {T T' : Nat → Int32} {n : Nat} (h : ∀ j, j < n → T' j = T j) (p : Nat) : zTe T' n p = zTe T n p := by unfold zTe; rw [zql_x h, zqd_x h, zTl_x h, zTd_x h]
theorem zSo_x {T T' : Nat → Int32} {n : Nat} (h : ∀ j, j < n → T' j = T j) (p : Nat) : zSo T' n p = zSo T n p := by unfold zSo; rw [zql_x h, zqd_x h, zTd_x h, zse_x h]
theorem zwd_x {T T' : Nat → Int32} {n : Nat} (h : ∀ j, j < n → T' j = T j) (b : Nat) : ∀ k, b + k ≤ n → zwd T' b k = zwd T b k
  | 0, _ => rfl
  | k + 1, hk => by rw [zwd, zwd, zwd_x h b k (by omega), h _ (by omega)]
theorem zvl_x {T T' : Nat → Int32} {n : Nat} (h : ∀ j, j < n → T' j = T j) (b : Nat) : ∀ k, b + k ≤ n → zvl T' b k = zvl T b k
  | 0, _ => rfl
  | k + 1, hk => by rw [zvl, zvl, zvl_x h b k (by omega), h _ (by omega)]
theorem zVa_x {T T' : Nat → Int32} {n : Nat} (h : ∀ j, j < n → T' j = T j) (b : Nat) : zVa T' n b = zVa T n b := by
  unfold zVa
  rw [zql_x h, zqd_x h, zTd_x h, zse_x h]
  by_cases q : n ≤ b
  · rw [if_pos q, if_pos q]
  · have := (zTd_le (T := T) (n := n) (b := b) (by omega))
    rw [zvl_x h b _ (by omega)]
theorem zWo_x {T T' : Nat → Int32} {n : Nat} (h : ∀ j, j < n → T' j = T j) (b : Nat) : zWo T' n b = zWo T n b := by
  unfold zWo
  rw [zql_x h, zTl_x h]
  by_cases q : n ≤ b
  · rw [if_pos q, if_pos q]
  · have := (zTl_le (T := T) (n := n) (b := b) (by omega))
    rw [zwd_x h b _ (by omega)]
theorem zTe_le {T : Nat → Int32} {n b : Nat} (h : b ≤ n) : b ≤ zTe T n b ∧ zTe T n b ≤ n := by
  have h1 := zTl_le (T := T) h
  have h2 := zTd_le (T := T) h
  unfold zTe
  repeat' split
  all_goals omega
/-- class and reference stand behind the same place of the same text -/
def zLp (m mr : zM) (r o n p : Nat) : Prop := zPc m r n p ∧ zRp mr o n p ∧ ∀ j, j < n → zI mr 1601 o j = zcT m r j
/-- .. and have the token that begins at b -/
def zLt (m mr : zM) (r o n b : Nat) : Prop := zLp m mr r o n (zTe (zcT m r) n b) ∧ b ≤ n ∧ zI m 403 r 0 = nI b ∧ zI m 405 r 0 = zKd (zcT m r) n b ∧ zI mr 627 o 0 = nI b ∧ zI mr 628 o 0 = zSo (zcT m r) n b ∧ zI mr 629 o 0 = zVa (zcT m r) n b ∧ zJ mr 630 o 0 = zWo (zcT m r) n b
theorem zAv_T (m : zM) (r n p : Nat) : zcT (zAv m r n p) r = zcT m r := funext fun j => zTC_I (by decide) (by decide) (by decide) _ _
theorem zLt_nx {m mr : zM} {r o n p : Nat} (h : zLp m mr r o n p) : zLt (zAv m r n p) (zRnx mr o) r o n (zTb (zcT m r) n p) := by
  obtain ⟨⟨hn, hp, e1, e2, hb⟩, ⟨-, -, e3, e4⟩, hT⟩ := h
  have hbn := (zTb_le (T := zcT m r) hp).2
  have hen := (zTe_le (T := zcT m r) hbn).2
  unfold zLt zLp
  rw [zAv_T]
  have er : zRnx mr o = zRtk mr o (zI mr 1601 o) n (zTb (zcT m r) n p) := by
    unfold zRnx
    rw [e3, e4, nI_clamp (by omega), nI_clamp (by omega), zTb_x hT]
  have h5 := zRtk_e mr o (zI mr 1601 o) n (zTb (zcT m r) n p)
  rw [← er, zTe_x hT, zSo_x hT, zVa_x hT, zWo_x hT] at h5
  obtain ⟨f1, f2, f3, f4, f5⟩ := h5
  refine ⟨⟨⟨hn, hen, (zTC_I (by decide) (by decide) (by decide) _ _).trans e1, zTC_404 .., fun j hj => ?_⟩, ⟨hn, hen, (zRnx_I (by decide) (by decide) (by decide) (by decide) _ _).trans e3, f1⟩, fun j hj => ?_⟩, hbn, zTC_403 .., zTC_405 .., f2, f3, f4, f5⟩
  · have : zI (zAv m r n p) 1001 (zR (zAv m r n p) 400 r) j = zI m 1001 (zR m 400 r) j := congrFun (zAv_T m r n p) j
    rw [this]
    exact hb j hj
  · exact (zRnx_I (by decide) (by decide) (by decide) (by decide) _ _).trans (hT j hj)
theorem zLt_b {m mr : zM} {r o n b : Nat} (h : zLt m mr r o n b) : ∀ j, j < n → (zcT m r j).toInt8.toInt32 = zcT m r j := h.1.1.2.2.2.2
/-- the class's kind and the reference's sort -/
theorem zLt_k {m mr : zM} {r o n b : Nat} (h : zLt m mr r o n b) : (zI m 405 r 0 = 0 ↔ zI mr 628 o 0 = 0) ∧ (zI m 405 r 0 = 1 ↔ zI mr 628 o 0 = 2) ∧ (zI m 405 r 0 = 2 ↔ zI mr 628 o 0 = 3) ∧ (∀ c : Int32, 58 ≤ c → c ≤ 62 → (zI m 405 r 0 = c ↔ zI mr 628 o 0 = 4 ∧ zI mr 629 o 0 = c)) := by
  have hb := zLt_b h
  obtain ⟨-, hbn, -, e1, -, e2, e3, -⟩ := h
  rw [e1, e2, e3]
  generalize zcT m r = T at *
  unfold zKd zSo zVa
  by_cases q : n ≤ b
  · rw [if_pos q, if_pos q, if_pos q]
    refine ⟨⟨fun _ => rfl, fun _ => rfl⟩, ⟨fun z => absurd z (by decide), fun z => absurd z (by decide)⟩, ⟨fun z => absurd z (by decide), fun z => absurd z (by decide)⟩, fun c h1 _ => ⟨fun z => ?_, fun z => absurd z.1 (by decide)⟩⟩
    rw [← z] at h1; exact absurd h1 (by decide)
  rw [if_neg q, if_neg q, if_neg q]
  by_cases q1 : zql T n b = true
  · rw [if_pos q1, if_pos q1, if_pos q1]
    refine ⟨⟨fun z => absurd z (by decide), fun z => absurd z (by decide)⟩, ⟨fun _ => rfl, fun _ => rfl⟩, ⟨fun z => absurd z (by decide), fun z => absurd z (by decide)⟩, fun c h1 _ => ⟨fun z => ?_, fun z => absurd z.1 (by decide)⟩⟩
    rw [← z] at h1; exact absurd h1 (by decide)
  rw [if_neg q1, if_neg q1, if_neg q1]
  by_cases q2 : zqd T n b = true
  · rw [if_pos q2, if_pos q2, if_pos q2]
    by_cases q3 : zTd T n b - b ≤ 4
    · rw [if_pos q3, if_pos q3]
      refine ⟨⟨fun z => absurd z (by decide), fun z => absurd z (by decide)⟩, ⟨fun z => absurd z (by decide), fun z => absurd z (by decide)⟩, ⟨fun _ => rfl, fun _ => rfl⟩, fun c h1 _ => ⟨fun z => ?_, fun z => absurd z.1 (by decide)⟩⟩
      rw [← z] at h1; exact absurd h1 (by decide)
    · rw [if_neg q3, if_neg q3]
      refine ⟨⟨fun z => absurd z (by decide), fun z => absurd z (by decide)⟩, ⟨fun z => absurd z (by decide), fun z => absurd z (by decide)⟩, ⟨fun z => absurd z (by decide), fun z => absurd z (by decide)⟩, fun c h1 _ => ⟨fun z => ?_, fun z => absurd z.1 (by decide)⟩⟩
      rw [← z] at h1; exact absurd h1 (by decide)
  rw [if_neg q2, if_neg q2, if_neg q2]
  have hbb := hb b (by omega)
  rw [zse_in (by omega)]
  obtain ⟨k1, k2, -, k0⟩ := zkd_1 hbb
  have n1 : ¬ zkd (T b) = 1 := fun z => q1 (by rw [zql_t, zse_in (by omega)]; exact k1.1 z)
  have n2 : ¬ zkd (T b) = 2 := fun z => q2 (by rw [zqd_t, zse_in (by omega)]; exact k2.1 z)
  rcases zkd_3 hbb n1 n2 with ⟨a, d⟩ | ⟨a, d, d1, d2⟩
  · rw [a, d]
    refine ⟨⟨fun z => absurd z (by decide), fun z => absurd z (by decide)⟩, ⟨fun z => absurd z (by decide), fun z => absurd z (by decide)⟩, ⟨fun z => absurd z (by decide), fun z => absurd z (by decide)⟩, fun c h1 _ => ⟨fun z => ?_, fun z => absurd z.1 (by decide)⟩⟩
    rw [← z] at h1; exact absurd h1 (by decide)
  · rw [d]
    refine ⟨⟨fun z => absurd z k0, fun z => absurd z (by decide)⟩, ⟨fun z => absurd z n1, fun z => absurd z (by decide)⟩, ⟨fun z => absurd z n2, fun z => absurd z (by decide)⟩, fun c _ _ => ?_⟩
    rw [a]
    exact ⟨fun z => ⟨rfl, z⟩, fun z => z.2⟩
/-! words as numbers -/
def zwn (B : Nat → Nat) : Nat → Nat
  | 0 => 0
  | k + 1 => zwn B k * 256 + B k
theorem zwn_lt {B : Nat → Nat} : ∀ k, (∀ i, i < k → B i < 256) → zwn B k < 256 ^ k
  | 0, _ => Nat.one_pos
  | k + 1, h => by
    have h1 := zwn_lt k (fun i hi => h i (by omega))
    have h2 := h k (by omega)
    rw [zwn, Nat.pow_succ]
    omega
theorem zwn_inj {B B' : Nat → Nat} : ∀ k k', (∀ i, i < k → 0 < B i ∧ B i < 256) → (∀ i, i < k' → 0 < B' i ∧ B' i < 256) → zwn B k = zwn B' k' → k = k' ∧ ∀ i, i < k → B i = B' i
  | 0, 0, _, _, _ => ⟨rfl, fun i hi => by omega⟩
  | 0, k' + 1, _, h2, e => by
    have := h2 k' (by omega)
    rw [zwn, zwn] at e
    omega
  | k + 1, 0, h1, _, e => by
    have := h1 k (by omega)
    rw [zwn, zwn] at e
    omega
  | k + 1, k' + 1, h1, h2, e => by
    have a1 := h1 k (by omega)
    have a2 := h2 k' (by omega)
    rw [zwn, zwn] at e
    obtain ⟨e1, e2⟩ := zwn_inj k k' (fun i hi => h1 i (by omega)) (fun i hi => h2 i (by omega)) (by omega)
    subst e1
    refine ⟨rfl, fun i hi => ?_⟩
    by_cases q : i = k
    · subst q; omega
    · exact e2 i (by omega)
theorem zl64 {a : Nat} (h : a < 2 ^ 64) : (lN a).toBitVec.toNat = a := Nat.mod_eq_of_lt h
theorem zl64_inj {a b : Nat} (ha : a < 2 ^ 64) (hb : b < 2 ^ 64) (h : lN a = lN b) : a = b := by
  have := congrArg (fun x : Int64 => x.toBitVec.toNat) h
  rw [zl64 ha, zl64 hb] at this
  exact this
theorem zsh8 {a b : Nat} (ha : a < 2 ^ 56) (hb : b < 256) : (lN a <<< ((8 : Int32).toInt64 &&& 63)) ||| lN b = lN (a * 256 + b) := by
  apply Int64.toBitVec_inj.1
  apply BitVec.eq_of_toNat_eq
  have e8 : ((lN a) <<< ((8 : Int32).toInt64 &&& 63)).toBitVec = (lN a).toBitVec <<< 8 := rfl
  rw [Int64.toBitVec_or, BitVec.toNat_or, e8, BitVec.toNat_shiftLeft, zl64 (by omega), zl64 (by omega), zl64 (by omega), Nat.shiftLeft_eq]
  rw [Nat.mod_eq_of_lt (by omega)]
  have := Nat.two_pow_add_eq_or_of_lt (i := 8) (b := b) (by omega) a
  rw [show a * 2 ^ 8 = 2 ^ 8 * a by omega, ← this]
theorem zwd_n {T : Nat → Int32} {b : Nat} {B : Nat → Nat} : ∀ k, k ≤ 8 → (∀ i, i < k → B i < 256 ∧ T (b + i) &&& 255 = nI (B i)) → zwd T b k = lN (zwn B k)
  | 0, _, _ => rfl
  | k + 1, hk, h => by
    have h1 := zwn_lt (B := B) k (fun i hi => (h i (by omega)).1)
    have h2 : 256 ^ k ≤ 256 ^ 7 := Nat.pow_le_pow_right (by decide) (by omega)
    rw [zwd, zwd_n k (by omega) (fun i hi => h i (by omega)), (h k (by omega)).2, nI_l (by have := (h k (by omega)).1; omega), zsh8 (by omega) (h k (by omega)).1]
    rfl
/-- the number of a word of the class's -/
def zch (t j : Nat) : Nat := (zchr t j).toNatClampNeg
def zwt (t : Nat) : Int64 := lN (zwn (zch t) (zlens.getD t 0))
theorem zwt_0 : zwt 0 = 2003330414 := by decide
theorem zwt_1 : zwt 1 = 6385252 := by decide
theorem zwt_2 : zwt 2 = 7237492 := by decide
theorem zwt_3 : zwt 3 = 1802071652 := by decide
theorem zwt_4 : zwt 4 = 521391927923 := by decide
theorem zwt_5 : zwt 5 = 1818326117 := by decide
theorem zwt_6 : zwt 6 = 123563799835251 := by decide
theorem zwt_7 : zwt 7 = 7566701 := by decide
theorem zwt_8 : zwt 8 = 482671093106 := by decide
theorem zwt_9 : zwt 9 = 123623812527219 := by decide
theorem zwt_10 : zwt 10 = 1836020325 := by decide
theorem zwt_11 : zwt 11 = 499984983411 := by decide
theorem zwt_12 : zwt 12 = 1852796517 := by decide
theorem zch_ok : ∀ t, t < 13 → 0 < zlens.getD t 0 ∧ zlens.getD t 0 ≤ 6 ∧ ∀ j, j < zlens.getD t 0 → 0 < zch t j ∧ zch t j < 256 ∧ zchr t j = nI (zch t j) := by decide
theorem zwo_t {T : Nat → Int32} {n b t : Nat} (ht : t < 13) (hb : ∀ j, j < n → (T j).toInt8.toInt32 = T j) (hbn : b < n) (hq : zql T n b = true) : (zWo T n b = zwt t) ↔ (zTl T n b - b = zlens.getD t 0 ∧ ∀ j, j < zlens.getD t 0 → T (b + j) = zchr t j) := by
  obtain ⟨h0, h6, hc⟩ := zch_ok t ht
  have hl := zTl_le (T := T) (n := n) (b := b) (by omega)
  have hB : ∀ i, i < zTl T n b - b → ∃ c, 0 < c ∧ c < 256 ∧ T (b + i) &&& 255 = nI c ∧ T (b + i) = nI c := fun i hi => by
    have hin := zrun_in (Q := zql T n) (n - b) b (b + i) (by omega) (by unfold zTl at hi; omega)
    rw [zql_t, zse_in (by omega)] at hin
    obtain ⟨c, hc1, e⟩ := pk_andE (T (b + i)) (m := 255) 8 (by decide)
    have e2 := zby_255 (hb (b + i) (by omega)) (Or.inl hin)
    rw [e] at hin e2
    rw [show (97 : Int32) = nI 97 from rfl, nI_leI (by omega) (by omega)] at hin
    exact ⟨c, by omega, by omega, e, e2.symm⟩
  have hw : zWo T n b = if zTl T n b - b ≤ 8 then zwd T b (zTl T n b - b) else 0 := by
    unfold zWo
    rw [if_neg (by omega), if_pos hq]
  have big : zwn (zch t) (zlens.getD t 0) < 2 ^ 64 := by
    have := zwn_lt (B := zch t) (zlens.getD t 0) (fun i hi => (hc i hi).2.1)
    have h2 : 256 ^ (zlens.getD t 0) ≤ 256 ^ 6 := Nat.pow_le_pow_right (by decide) h6
    omega
  rw [hw]
  generalize hk : zTl T n b - b = k at *
  have hB2 : ∀ i, i < k → 0 < (T (b + i)).toNatClampNeg ∧ (T (b + i)).toNatClampNeg < 256 ∧ T (b + i) &&& 255 = nI (T (b + i)).toNatClampNeg ∧ T (b + i) = nI (T (b + i)).toNatClampNeg := fun i hi => by
    obtain ⟨c, h1, h2, h3, h4⟩ := hB i hi
    rw [h4] at h3 ⊢
    rw [nI_clamp (by omega)]
    exact ⟨h1, h2, h3, rfl⟩
  constructor
  · intro e
    by_cases q : k ≤ 8
    · rw [if_pos q, zwd_n (B := fun i => (T (b + i)).toNatClampNeg) k q (fun i hi => ⟨(hB2 i hi).2.1, (hB2 i hi).2.2.1⟩)] at e
      have b2 := zwn_lt (B := fun i => (T (b + i)).toNatClampNeg) k (fun i hi => (hB2 i hi).2.1)
      have h2 : 256 ^ k ≤ 256 ^ 8 := Nat.pow_le_pow_right (by decide) q
      obtain ⟨e1, e2⟩ := zwn_inj k _ (fun i hi => ⟨(hB2 i hi).1, (hB2 i hi).2.1⟩) (fun i hi => ⟨(hc i hi).1, (hc i hi).2.1⟩) (zl64_inj (by omega) big e)
      refine ⟨e1, fun j hj => ?_⟩
      rw [(hc j hj).2.2, (hB2 j (by omega)).2.2.2]
      exact congrArg nI (e2 j (by omega))
    · rw [if_neg q] at e
      exfalso
      have : (0 : Nat) = zwn (zch t) (zlens.getD t 0) := zl64_inj (by decide) big e
      have h3 : zlens.getD t 0 = (zlens.getD t 0 - 1) + 1 := by omega
      rw [h3, zwn] at this
      have := (hc (zlens.getD t 0 - 1) (by omega)).1
      omega
  · rintro ⟨e1, e2⟩
    rw [if_pos (by omega), zwd_n (B := zch t) k (by omega) (fun i hi => ⟨(hc i (by omega)).2.1, by rw [(hB2 i hi).2.2.1, e2 i (by omega)]; rfl⟩), e1]
    rfl
/-- what isWord looks at -/
def zCw (m : zM) (r t b p : Nat) : Prop := zI m 405 r 0 = 1 ∧ p - b = zlens.getD t 0 ∧ ∀ j, j < zlens.getD t 0 → zcT m r (b + j) = zchr t j
theorem zLt_w {m mr : zM} {r o n b t : Nat} (h : zLt m mr r o n b) (ht : t < 13) : zCw m r t b (zTe (zcT m r) n b) ↔ zXi mr o (zwt t) := by
  have hb := zLt_b h
  obtain ⟨-, hbn, -, e1, -, e2, -, e4⟩ := h
  unfold zCw
  show _ ↔ (zI mr 628 o 0 = 2 ∧ zJ mr 630 o 0 = zwt t)
  rw [e1, e2, e4]
  generalize zcT m r = T at *
  by_cases q : n ≤ b
  · have a1 : zKd T n b = 0 := by unfold zKd; rw [if_pos q]
    have a2 : zSo T n b = 0 := by unfold zSo; rw [if_pos q]
    rw [a1, a2]
    exact ⟨fun z => absurd z.1 (by decide), fun z => absurd z.1 (by decide)⟩
  · by_cases q1 : zql T n b = true
    · have a1 : zKd T n b = 1 := by unfold zKd; rw [if_neg q, if_pos q1]
      have a2 : zSo T n b = 2 := by unfold zSo; rw [if_neg q, if_pos q1]
      have a3 : zTe T n b = zTl T n b := by unfold zTe; rw [if_neg q, if_pos q1]
      rw [a1, a2, a3, zwo_t ht hb (by omega) q1]
      exact ⟨fun z => ⟨rfl, z.2⟩, fun z => ⟨rfl, z.2⟩⟩
    · constructor
      · intro z
        exfalso
        have z := z.1
        unfold zKd at z
        rw [if_neg q, if_neg q1] at z
        split at z
        · split at z
          · exact absurd z (by decide)
          · exact absurd z (by decide)
        · have := (zkd_1 (hb b (by omega))).1.1 z
          exact q1 (by rw [zql_t, zse_in (by omega)]; exact this)
      · intro z
        exfalso
        have z := z.1
        unfold zSo at z
        rw [if_neg q, if_neg q1] at z
        split at z
        · split at z
          · exact absurd z (by decide)
          · exact absurd z (by decide)
        · unfold zsg at z
          split at z
          · exact absurd z (by decide)
          · exact absurd z (by decide)
section ZRD2
variable {l : Launch} {G : zG}
theorem C_X4_note (hL : zLay G) : Con_X4_note l G (fun _ _ _ => True) (fun r x m m' => m' = if zI m 406 r 0 = 0 then zsI (zsI m 406 r 0 x) 407 r 0 (zI m 403 r 0) else m) :=
  con_X4_note hL fun C Qc S hl r x m kr _ hr => sg_X4_note_0 S kr ⟨fun q => hr _ (by rw [if_neg q]), fun q => hr _ (by rw [if_pos q])⟩
theorem C_X4_isWord (hLen : Con_len l G) (hChr : Con_chr l G) (hL : zLay G) : Con_X4_isWord l G (fun r _ m => ∃ n p b, zPc m r n p ∧ b ≤ p ∧ zI m 403 r 0 = nI b) (fun r t m ret => ∀ n p b, zPc m r n p → b ≤ p → zI m 403 r 0 = nI b → zB ret (zCw m r t b p)) := by
  refine con_X4_isWord hL fun C Qc S hl r t m kr kt hp hr => ?_
  subst hl
  obtain ⟨n, p, b, ⟨hn, hp, e1, e2, hb⟩, hbp, e3⟩ := hp
  have hr2 : ∀ ret, zB ret (zCw m r t b p) → zRet C G Qc (some (.int ret)) m := fun ret h => hr ret (by
    rintro n' p' b' ⟨hn', hp', e1', e2', -⟩ hbp' e3'
    rw [e2, nI_eq (by omega) (by omega)] at e2'
    rw [e3, nI_eq (by omega) (by omega)] at e3'
    rw [← e2', ← e3']
    exact h)
  obtain ⟨h0, h6, hc⟩ := zch_ok t kt
  have key : zI m 405 r 0 = 1 → p - b = zlens.getD t 0 → ∀ j, j ≤ zlens.getD t 0 → (∀ i, i < j → zcT m r (b + i) = zchr t i) → Pt_X4_isWord_28 C G r t (nI j) m := fun k1 k2 => by
    refine z_loop (P := fun j => (∀ i, i < j → zcT m r (b + i) = zchr t i) → Pt_X4_isWord_28 C G r t (nI j) m) (zlens.getD t 0) (fun h => ?_) (fun j hj ih h => ?_)
    · exact sg_X4_isWord_28 S hLen hChr kr kt ⟨fun _ => hr2 _ (Or.inl ⟨rfl, k1, k2, h⟩), fun q => absurd (nI_le (Nat.le_refl _) (by omega)) q⟩
    · refine sg_X4_isWord_28 S hLen hChr kr kt ⟨fun q => absurd q (nI_ge hj (by omega)), fun _ => ?_⟩
      rw [e3, nI_add, nI_clamp (by omega), nI_clamp (by omega), ← nI_succ]
      refine ⟨vp_in_nI (by omega) (by omega), ⟨j, hj, rfl⟩, fun q => ih (fun i hi => ?_), fun q => hr2 _ (Or.inr ⟨rfl, fun z => q (z.2.2 j hj)⟩)⟩
      by_cases e : i = j
      · subst e; exact q
      · exact h i (by omega)
  refine sg_X4_isWord_0 S hLen hChr kr kt ⟨fun q => hr2 _ (Or.inr ⟨rfl, fun z => q z.1⟩), fun q => ?_⟩
  rw [e2, e3, pk_sub hbp, nI_eq (by omega) (by omega)]
  exact ⟨fun q2 => key q q2 0 (by omega) (fun i hi => by omega), fun q2 => hr2 _ (Or.inr ⟨rfl, fun z => q2 z.2.1⟩)⟩
theorem C_X4_takeWord (hLen : Con_len l G) (hChr : Con_chr l G) (hL : zLay G) : Con_X4_takeWord l G (fun r _ m => ∃ n p b, zPc m r n p ∧ b ≤ p ∧ zI m 403 r 0 = nI b) (fun r t m ret m' => ∀ n p b, zPc m r n p → b ≤ p → zI m 403 r 0 = nI b → (ret = 1 ∧ zCw m r t b p ∧ m' = zAv m r n p) ∨ (ret = 0 ∧ ¬ zCw m r t b p ∧ m' = m)) := by
  refine con_X4_takeWord hL fun C Qc S hl r t m kr kt hp hr => ?_
  subst hl
  refine sg_X4_takeWord_0 S (C_X4_isWord hLen hChr hL) (C_X4_advance hL) kr kt ⟨hp, fun r2 h2 => ?_⟩
  obtain ⟨n0, p0, b0, hp0, hb0, e0⟩ := hp
  refine ⟨fun q => ⟨⟨n0, p0, hp0⟩, fun m4 h4 => hr _ _ fun n p b h1 h3 h5 => Or.inl ⟨rfl, ?_, h4 n p h1⟩⟩, fun q => hr _ _ fun n p b h1 h3 h5 => Or.inr ⟨rfl, ?_, rfl⟩⟩
  · exact ((h2 n p b h1 h3 h5).resolve_right (fun z => q z.1)).2
  · exact ((h2 n p b h1 h3 h5).resolve_left (fun z => by rw [q] at z; exact absurd z.1 (by decide))).2
theorem zLt_p {m mr : zM} {r o n b : Nat} (h : zLt m mr r o n b) : zPc m r n (zTe (zcT m r) n b) ∧ b ≤ zTe (zcT m r) n b ∧ zI m 403 r 0 = nI b := ⟨h.1.1, (zTe_le h.2.1).1, h.2.2.1⟩
theorem zLt_isw {m mr : zM} {r o n b t : Nat} (h : zLt m mr r o n b) (ht : t < 13) {ret : Int32} (h2 : ∀ n p b, zPc m r n p → b ≤ p → zI m 403 r 0 = nI b → zB ret (zCw m r t b p)) : zB ret (zXi mr o (zwt t)) := by
  have := h2 n _ b h.1.1 (zTe_le h.2.1).1 h.2.2.1
  rcases this with ⟨a, c⟩ | ⟨a, c⟩
  · exact Or.inl ⟨a, (zLt_w h ht).1 c⟩
  · exact Or.inr ⟨a, fun z => c ((zLt_w h ht).2 z)⟩
theorem C_X4_subjectAtHand (hLen : Con_len l G) (hChr : Con_chr l G) (hL : zLay G) : Con_X4_subjectAtHand l G (fun r m => ∃ mr o n b, zLt m mr r o n b) (fun r m ret => ∀ mr o n b, zLt m mr r o n b → ret = zXsu mr o) := by
  refine con_X4_subjectAtHand hL fun C Qc S hl r m kr hp hr => ?_
  subst hl
  obtain ⟨mr0, o0, n0, b0, h0⟩ := hp
  have P : ∃ n p b, zPc m r n p ∧ b ≤ p ∧ zI m 403 r 0 = nI b := ⟨n0, _, b0, zLt_p h0⟩
  have Y : ∀ {t : Nat} {ret : Int32} {mr : zM} {o n b : Nat}, t < 13 → (∀ n p b, zPc m r n p → b ≤ p → zI m 403 r 0 = nI b → zB ret (zCw m r t b p)) → ¬ ret = 0 → zLt m mr r o n b → zXi mr o (zwt t) := fun ht h q hl => ((zLt_isw hl ht h).resolve_right (fun z => q z.1)).2
  have N : ∀ {t : Nat} {ret : Int32} {mr : zM} {o n b : Nat}, t < 13 → (∀ n p b, zPc m r n p → b ≤ p → zI m 403 r 0 = nI b → zB ret (zCw m r t b p)) → ret = 0 → zLt m mr r o n b → ¬ zXi mr o (zwt t) := fun ht h q hl => ((zLt_isw hl ht h).resolve_left (fun z => by rw [q] at z; exact absurd z.1 (by decide))).2
  refine sg_X4_subjectAtHand_0 S (C_X4_isWord hLen hChr hL) kr ⟨P, fun r2 h2 => ⟨fun q2 => ⟨P, fun r4 h4 => ⟨fun q4 => ⟨P, fun r6 h6 => ⟨fun q6 => ⟨P, fun r8 h8 => ⟨fun q8 => ⟨P, fun r10 h10 => ⟨fun q10 => ⟨P, fun r12 h12 => ⟨fun q12 => hr _ fun mr o n b hl => ?_, fun q12 => hr _ fun mr o n b hl => ?_⟩⟩, fun q10 => hr _ fun mr o n b hl => ?_⟩⟩, fun q8 => hr _ fun mr o n b hl => ?_⟩⟩, fun q6 => hr _ fun mr o n b hl => ?_⟩⟩, fun q4 => hr _ fun mr o n b hl => ?_⟩⟩, fun q2 => hr _ fun mr o n b hl => ?_⟩⟩
  · have a3 := N (t := 3) (by decide) h2 q2 hl
    rw [zwt_3] at a3
    have a4 := N (t := 4) (by decide) h4 q4 hl
    rw [zwt_4] at a4
    have a5 := N (t := 5) (by decide) h6 q6 hl
    rw [zwt_5] at a5
    have a6 := N (t := 6) (by decide) h8 q8 hl
    rw [zwt_6] at a6
    have a7 := N (t := 7) (by decide) h10 q10 hl
    rw [zwt_7] at a7
    have a8 := N (t := 8) (by decide) h12 q12 hl
    rw [zwt_8] at a8
    unfold zXsu
    rw [if_neg a3, if_neg a4, if_neg a5, if_neg a6, if_neg a7, if_neg a8]
  · have a3 := N (t := 3) (by decide) h2 q2 hl
    rw [zwt_3] at a3
    have a4 := N (t := 4) (by decide) h4 q4 hl
    rw [zwt_4] at a4
    have a5 := N (t := 5) (by decide) h6 q6 hl
    rw [zwt_5] at a5
    have a6 := N (t := 6) (by decide) h8 q8 hl
    rw [zwt_6] at a6
    have a7 := N (t := 7) (by decide) h10 q10 hl
    rw [zwt_7] at a7
    have a8 := Y (t := 8) (by decide) h12 q12 hl
    rw [zwt_8] at a8
    unfold zXsu
    rw [if_neg a3, if_neg a4, if_neg a5, if_neg a6, if_neg a7, if_pos a8]
  · have a3 := N (t := 3) (by decide) h2 q2 hl
    rw [zwt_3] at a3
    have a4 := N (t := 4) (by decide) h4 q4 hl
    rw [zwt_4] at a4
    have a5 := N (t := 5) (by decide) h6 q6 hl
    rw [zwt_5] at a5
    have a6 := N (t := 6) (by decide) h8 q8 hl
    rw [zwt_6] at a6
    have a7 := Y (t := 7) (by decide) h10 q10 hl
    rw [zwt_7] at a7
    unfold zXsu
    rw [if_neg a3, if_neg a4, if_neg a5, if_neg a6, if_pos a7]
  · have a3 := N (t := 3) (by decide) h2 q2 hl
    rw [zwt_3] at a3
    have a4 := N (t := 4) (by decide) h4 q4 hl
    rw [zwt_4] at a4
    have a5 := N (t := 5) (by decide) h6 q6 hl
    rw [zwt_5] at a5
    have a6 := Y (t := 6) (by decide) h8 q8 hl
    rw [zwt_6] at a6
    unfold zXsu
    rw [if_neg a3, if_neg a4, if_neg a5, if_pos a6]
  · have a3 := N (t := 3) (by decide) h2 q2 hl
    rw [zwt_3] at a3
    have a4 := N (t := 4) (by decide) h4 q4 hl
    rw [zwt_4] at a4
    have a5 := Y (t := 5) (by decide) h6 q6 hl
    rw [zwt_5] at a5
    unfold zXsu
    rw [if_neg a3, if_neg a4, if_pos a5]
  · have a3 := N (t := 3) (by decide) h2 q2 hl
    rw [zwt_3] at a3
    have a4 := Y (t := 4) (by decide) h4 q4 hl
    rw [zwt_4] at a4
    unfold zXsu
    rw [if_neg a3, if_pos a4]
  · have a3 := Y (t := 3) (by decide) h2 q2 hl
    rw [zwt_3] at a3
    unfold zXsu
    rw [if_pos a3]
theorem C_X4_actAtHand (hLen : Con_len l G) (hChr : Con_chr l G) (hL : zLay G) : Con_X4_actAtHand l G (fun r m => ∃ mr o n b, zLt m mr r o n b) (fun r m ret => ∀ mr o n b, zLt m mr r o n b → ret = zXac mr o) := by
  refine con_X4_actAtHand hL fun C Qc S hl r m kr hp hr => ?_
  subst hl
  obtain ⟨mr0, o0, n0, b0, h0⟩ := hp
  have P : ∃ n p b, zPc m r n p ∧ b ≤ p ∧ zI m 403 r 0 = nI b := ⟨n0, _, b0, zLt_p h0⟩
  have Y : ∀ {t : Nat} {ret : Int32} {mr : zM} {o n b : Nat}, t < 13 → (∀ n p b, zPc m r n p → b ≤ p → zI m 403 r 0 = nI b → zB ret (zCw m r t b p)) → ¬ ret = 0 → zLt m mr r o n b → zXi mr o (zwt t) := fun ht h q hl => ((zLt_isw hl ht h).resolve_right (fun z => q z.1)).2
  have N : ∀ {t : Nat} {ret : Int32} {mr : zM} {o n b : Nat}, t < 13 → (∀ n p b, zPc m r n p → b ≤ p → zI m 403 r 0 = nI b → zB ret (zCw m r t b p)) → ret = 0 → zLt m mr r o n b → ¬ zXi mr o (zwt t) := fun ht h q hl => ((zLt_isw hl ht h).resolve_left (fun z => by rw [q] at z; exact absurd z.1 (by decide))).2
  refine sg_X4_actAtHand_0 S (C_X4_isWord hLen hChr hL) kr ⟨P, fun r2 h2 => ⟨fun q2 => ⟨P, fun r4 h4 => ⟨fun q4 => ⟨P, fun r6 h6 => ⟨fun q6 => ⟨P, fun r8 h8 => ⟨fun q8 => hr _ fun mr o n b hl => ?_, fun q8 => hr _ fun mr o n b hl => ?_⟩⟩, fun q6 => hr _ fun mr o n b hl => ?_⟩⟩, fun q4 => hr _ fun mr o n b hl => ?_⟩⟩, fun q2 => hr _ fun mr o n b hl => ?_⟩⟩
  · have a3 := N (t := 9) (by decide) h2 q2 hl
    rw [zwt_9] at a3
    have a4 := N (t := 10) (by decide) h4 q4 hl
    rw [zwt_10] at a4
    have a5 := N (t := 11) (by decide) h6 q6 hl
    rw [zwt_11] at a5
    have a6 := N (t := 12) (by decide) h8 q8 hl
    rw [zwt_12] at a6
    unfold zXac
    rw [if_neg a3, if_neg a4, if_neg a5, if_neg a6]
  · have a3 := N (t := 9) (by decide) h2 q2 hl
    rw [zwt_9] at a3
    have a4 := N (t := 10) (by decide) h4 q4 hl
    rw [zwt_10] at a4
    have a5 := N (t := 11) (by decide) h6 q6 hl
    rw [zwt_11] at a5
    have a6 := Y (t := 12) (by decide) h8 q8 hl
    rw [zwt_12] at a6
    unfold zXac
    rw [if_neg a3, if_neg a4, if_neg a5, if_pos a6]
  · have a3 := N (t := 9) (by decide) h2 q2 hl
    rw [zwt_9] at a3
    have a4 := N (t := 10) (by decide) h4 q4 hl
    rw [zwt_10] at a4
    have a5 := Y (t := 11) (by decide) h6 q6 hl
    rw [zwt_11] at a5
    unfold zXac
    rw [if_neg a3, if_neg a4, if_pos a5]
  · have a3 := N (t := 9) (by decide) h2 q2 hl
    rw [zwt_9] at a3
    have a4 := Y (t := 10) (by decide) h4 q4 hl
    rw [zwt_10] at a4
    unfold zXac
    rw [if_neg a3, if_pos a4]
  · have a3 := Y (t := 9) (by decide) h2 q2 hl
    rw [zwt_9] at a3
    unfold zXac
    rw [if_pos a3]
theorem C_X4_numberAtHand (hL : zLay G) : Con_X4_numberAtHand l G (fun r m => zI m 405 r 0 = 2 ∧ ∃ mr o n b, zLt m mr r o n b) (fun r m ret => ∀ mr o n b, zLt m mr r o n b → ret = zI mr 629 o 0) := by
  refine con_X4_numberAtHand hL fun C Qc S hl r m kr hp hr => sg_X4_numberAtHand_0 S kr ?_
  obtain ⟨k2, mr, o, n, b, h⟩ := hp
  have hb := zLt_b h
  have hk := (zLt_k h).2.2.1.1 k2
  obtain ⟨⟨⟨hn, hen, e1, e2, -⟩, -, -⟩, hbn, e3, e4, -, e6, e7, -⟩ := h
  rw [e4] at k2
  -- the token is a number of at most four digits
  have hd : ¬ n ≤ b ∧ zqd (zcT m r) n b = true ∧ ¬ zql (zcT m r) n b = true ∧ zTd (zcT m r) n b - b ≤ 4 := by
    unfold zKd at k2
    split at k2
    · exact absurd k2 (by decide)
    rename_i q
    split at k2
    · exact absurd k2 (by decide)
    rename_i q1
    split at k2
    · rename_i q2
      split at k2
      · rename_i q3
        exact ⟨q, q2, q1, q3⟩
      · exact absurd k2 (by decide)
    · rename_i q2
      exfalso
      have := (zkd_1 (hb b (by omega))).2.1.1 k2
      exact q2 (by rw [zqd_t, zse_in (by omega)]; exact this)
  obtain ⟨q, q2, q1, q3⟩ := hd
  have hte : zTe (zcT m r) n b = zTd (zcT m r) n b := by unfold zTe; rw [if_neg q, if_neg q1, if_pos q2]
  have hva : zVa (zcT m r) n b = zvl (zcT m r) b (zTd (zcT m r) n b - b) := by unfold zVa; rw [if_neg q, if_neg q1, if_pos q2]
  rw [hte] at e2 hen
  have hr2 : zRet C G Qc (some (.int (zvl (zcT m r) b (zTd (zcT m r) n b - b)))) m := hr _ (by
    intro mr' o' n' b' h'
    obtain ⟨⟨⟨hn', hen', e1', e2', -⟩, -, -⟩, hbn', e3', e4', -, e6', e7', -⟩ := h'
    rw [e1, nI_eq (by omega) (by omega)] at e1'
    rw [e3, nI_eq (by omega) (by omega)] at e3'
    rw [e7', ← e1', ← e3', hva])
  generalize he : zTd (zcT m r) n b = e at *
  have hbe : b ≤ e := by rw [← he]; exact (zTd_le (by omega)).1
  rw [e3]
  have key : ∀ i, i ≤ e - b → Pt_X4_numberAtHand_7 C G r (zvl (zcT m r) b i) (nI (b + i)) m := by
    refine z_loop (e - b) ?_ (fun i hi ih => ?_)
    · refine sg_X4_numberAtHand_7 S kr ⟨fun _ => hr2, fun z => absurd ?_ z⟩
      rw [e2]
      exact nI_le (by omega) (by omega)
    · refine sg_X4_numberAtHand_7 S kr ?_
      rw [e2, nI_clamp (by omega), ← nI_succ]
      refine ⟨fun z => absurd z (nI_ge (by omega) (by omega)), fun _ => ⟨vp_in_nI (by omega) (by omega), ?_⟩⟩
      have hin := zrun_in (Q := zqd (zcT m r) n) (n - b) b (b + i) (by omega) (by unfold zTd at he; omega)
      rw [zqd_t, zse_in (by omega)] at hin
      have e255 := zby_255 (hb (b + i) (by omega)) (Or.inr hin)
      rw [zvl, if_pos (by omega), e255] at ih
      have e9 : zvl (zcT m r) b i * 10 + zI m 1001 (zR m 400 r) (b + i) - 48 = 10 * zvl (zcT m r) b i + zcT m r (b + i) - 48 := by
        rw [Int32.mul_comm]
        rfl
      rw [e9]
      exact ih
  exact key 0 (by omega)
end ZRD2
