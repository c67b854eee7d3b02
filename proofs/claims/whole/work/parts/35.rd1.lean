/-! the class's reader: tokens -/
/-- what holds of all bytes holds of a byte -/
theorem zbt {x : Int32} (h : x.toInt8.toInt32 = x) (P : Int32 → Prop) (hP : ∀ k : Fin 256, P (Int8.ofBitVec (BitVec.ofFin k)).toInt32) : P x := by
  rw [← h]
  exact hP x.toInt8.toBitVec.toFin
def zkd (x : Int32) : Int32 := if 97 ≤ x ∧ x ≤ 122 then 1 else if 48 ≤ x ∧ x ≤ 57 then 2 else if 58 ≤ x ∧ x ≤ 62 then x else 3
theorem zkd_1 {x : Int32} (h : x.toInt8.toInt32 = x) : (zkd x = 1 ↔ 97 ≤ x &&& 255 ∧ x &&& 255 ≤ 122) ∧ (zkd x = 2 ↔ 48 ≤ x &&& 255 ∧ x &&& 255 ≤ 57) ∧ (zkd x = 3 → zsg (x &&& 255) = 1 ∨ zkd x = 2) ∧ ¬ zkd x = 0 :=
  zbt h (fun x => (zkd x = 1 ↔ 97 ≤ x &&& 255 ∧ x &&& 255 ≤ 122) ∧ (zkd x = 2 ↔ 48 ≤ x &&& 255 ∧ x &&& 255 ≤ 57) ∧ (zkd x = 3 → zsg (x &&& 255) = 1 ∨ zkd x = 2) ∧ ¬ zkd x = 0) (by unfold zkd zsg; decide +kernel)
theorem zkd_3 {x : Int32} (h : x.toInt8.toInt32 = x) : ¬ zkd x = 1 → ¬ zkd x = 2 → (zkd x = 3 ∧ zsg (x &&& 255) = 1) ∨ (zkd x = x &&& 255 ∧ zsg (x &&& 255) = 4 ∧ 58 ≤ x &&& 255 ∧ x &&& 255 ≤ 62) :=
  zbt h (fun x => ¬ zkd x = 1 → ¬ zkd x = 2 → (zkd x = 3 ∧ zsg (x &&& 255) = 1) ∨ (zkd x = x &&& 255 ∧ zsg (x &&& 255) = 4 ∧ 58 ≤ x &&& 255 ∧ x &&& 255 ≤ 62)) (by unfold zkd zsg; decide +kernel)
theorem zkd_b {x : Int32} (h : x.toInt8.toInt32 = x) : (x = 32 ∨ x = 10) ↔ (x &&& 255 = 10 ∨ x &&& 255 = 32) :=
  zbt h (fun x => (x = 32 ∨ x = 10) ↔ (x &&& 255 = 10 ∨ x &&& 255 = 32)) (by decide +kernel)
theorem zby_255 {x : Int32} (h : x.toInt8.toInt32 = x) : 97 ≤ x &&& 255 ∧ x &&& 255 ≤ 122 ∨ 48 ≤ x &&& 255 ∧ x &&& 255 ≤ 57 → x &&& 255 = x :=
  zbt h (fun x => 97 ≤ x &&& 255 ∧ x &&& 255 ≤ 122 ∨ 48 ≤ x &&& 255 ∧ x &&& 255 ≤ 57 → x &&& 255 = x) (by decide +kernel)
/-- the token that begins at b: its end and the class's kind -/
def zTe (T : Nat → Int32) (n b : Nat) : Nat := if n ≤ b then b else if zql T n b = true then zTl T n b else if zqd T n b = true then zTd T n b else b + 1
def zKd (T : Nat → Int32) (n b : Nat) : Int32 := if n ≤ b then 0 else if zql T n b = true then 1 else if zqd T n b = true then (if zTd T n b - b ≤ 4 then 2 else 3) else zkd (T b)
def zTC (m : zM) (r b e : Nat) (k : Int32) : zM := zsI (zsI (zsI m 403 r 0 (nI b)) 404 r 0 (nI e)) 405 r 0 k
theorem zTC_e (m : zM) (r b e e' : Nat) (k : Int32) : zsI (zTC m r b e k) 404 r 0 (nI e') = zTC m r b e' k := by
  refine zM_ext (fun f' a' j' => ?_) (fun _ _ _ => rfl) (fun _ _ => rfl) (fun _ _ _ => rfl)
  unfold zTC
  simp only [zI_sI]
  repeat' split
  all_goals first | rfl | omega
theorem zTC_k (m : zM) (r b e : Nat) (k k' : Int32) : zsI (zTC m r b e k) 405 r 0 k' = zTC m r b e k' := zsI_sI _ _ _ _ _ _
theorem zTC_I {m : zM} {r b e : Nat} {k : Int32} {f : Nat} (h1 : f ≠ 403) (h2 : f ≠ 404) (h3 : f ≠ 405) (a j : Nat) : zI (zTC m r b e k) f a j = zI m f a j := by
  unfold zTC
  rw [zI_n h3, zI_n h2, zI_n h1]
theorem zTC_403 (m : zM) (r b e : Nat) (k : Int32) : zI (zTC m r b e k) 403 r 0 = nI b := by
  unfold zTC
  rw [zI_n (by decide), zI_n (by decide), zI_e]
theorem zTC_404 (m : zM) (r b e : Nat) (k : Int32) : zI (zTC m r b e k) 404 r 0 = nI e := by
  unfold zTC
  rw [zI_n (by decide), zI_e]
theorem zTC_405 (m : zM) (r b e : Nat) (k : Int32) : zI (zTC m r b e k) 405 r 0 = k := zI_e
/-- the class's reader stands behind p of n bytes -/
def zPc (m : zM) (r n p : Nat) : Prop := n ≤ 400 ∧ p ≤ n ∧ zI m 401 r 0 = nI n ∧ zI m 404 r 0 = nI p ∧ ∀ j, j < n → (zI m 1001 (zR m 400 r) j).toInt8.toInt32 = zI m 1001 (zR m 400 r) j
def zcT (m : zM) (r : Nat) : Nat → Int32 := zI m 1001 (zR m 400 r)
def zAv (m : zM) (r n p : Nat) : zM := zTC m r (zTb (zcT m r) n p) (zTe (zcT m r) n (zTb (zcT m r) n p)) (zKd (zcT m r) n (zTb (zcT m r) n p))
theorem zse_in {T : Nat → Int32} {n p : Nat} (h : p < n) : zse T n p = T p &&& 255 := if_pos h
theorem zrun_T {Q : Nat → Bool} {n p : Nat} (hp : p < n) (h : Q p = true) : zrun Q (n - p) p = zrun Q (n - (p + 1)) (p + 1) := by
  rw [show n - p = (n - (p + 1)) + 1 by omega, zrun, if_pos h]
theorem zrun_F {Q : Nat → Bool} {n p : Nat} (h : ¬ Q p = true) : zrun Q (n - p) p = p := by
  cases hd : n - p with
  | zero => rfl
  | succ d => rw [zrun, if_neg h]
section ZRD
variable {l : Launch} {G : zG}
theorem C_X4_kindOf (hL : zLay G) : Con_X4_kindOf l G (fun _ _ => True) (fun x _ r => r = zkd x) := by
  refine con_X4_kindOf hL fun C Qc S hl x m _ hr => ?_
  have h28 : ¬ (97 ≤ x ∧ x ≤ 122) → ¬ (48 ≤ x ∧ x ≤ 57) → Pt_X4_kindOf_28 C G x m := fun n1 n2 => by
    refine sg_X4_kindOf_28 S ⟨fun q => hr _ ?_, fun q => ⟨fun q2 => hr _ ?_, fun q2 => hr _ ?_⟩⟩
    · unfold zkd; rw [if_neg n1, if_neg n2, if_neg (fun z => absurd z.1 (Int32.not_le.2 q))]
    · unfold zkd; rw [if_neg n1, if_neg n2, if_neg (fun z => absurd z.2 (Int32.not_le.2 q2))]
    · unfold zkd; rw [if_neg n1, if_neg n2, if_pos ⟨Int32.not_lt.1 q, Int32.not_lt.1 q2⟩]
  refine sg_X4_kindOf_0 S ⟨fun q => ?_, fun q => ⟨fun q2 => ?_, fun q2 => hr _ ?_⟩⟩
  · have n1 : ¬ (97 ≤ x ∧ x ≤ 122) := fun z => absurd z.1 (Int32.not_le.2 q)
    refine ⟨fun q3 => h28 n1 (fun z => absurd z.1 (Int32.not_le.2 q3)), fun q3 => ⟨fun q4 => h28 n1 (fun z => absurd z.2 (Int32.not_le.2 q4)), fun q4 => hr _ ?_⟩⟩
    unfold zkd; rw [if_neg n1, if_pos ⟨Int32.not_lt.1 q3, Int32.not_lt.1 q4⟩]
  · have n1 : ¬ (97 ≤ x ∧ x ≤ 122) := fun z => absurd z.2 (Int32.not_le.2 q2)
    refine ⟨fun q3 => h28 n1 (fun z => absurd z.1 (Int32.not_le.2 q3)), fun q3 => ⟨fun q4 => h28 n1 (fun z => absurd z.2 (Int32.not_le.2 q4)), fun q4 => hr _ ?_⟩⟩
    unfold zkd; rw [if_neg n1, if_pos ⟨Int32.not_lt.1 q3, Int32.not_lt.1 q4⟩]
  · unfold zkd; rw [if_pos ⟨Int32.not_lt.1 q, Int32.not_lt.1 q2⟩]
theorem C_X4_advance (hL : zLay G) : Con_X4_advance l G (fun r m => ∃ n p, zPc m r n p) (fun r m m' => ∀ n p, zPc m r n p → m' = zAv m r n p) := by
  refine con_X4_advance hL fun C Qc S hl r m kr hp hr => sg_X4_advance_0 S kr ?_
  obtain ⟨n, p, hn, hp, e1, e2, hb⟩ := hp
  have hr : zRet C G Qc none (zAv m r n p) := by
    refine hr _ ?_
    rintro n' p' ⟨hn', hp', e1', e2', -⟩
    rw [e1, nI_eq (by omega) (by omega)] at e1'
    rw [e2, nI_eq (by omega) (by omega)] at e2'
    rw [← e1', ← e2']
  rw [e2]
  generalize hT : zcT m r = T at *
  have hT2 : zI m 1001 (zR m 400 r) = T := hT
  unfold zAv at hr
  rw [hT] at hr
  generalize hbb : zTb T n p = b at hr
  have hbn : b ≤ n := by
    have := (zTb_le (T := T) hp).2
    omega
  -- behind the row
  have h180 : ∀ e k, e ≤ n → b ≤ e → (k = 2 → zTe T n b = e ∧ zKd T n b = if e - b ≤ 4 then 2 else 3) → (¬ k = 2 → zTe T n b = e ∧ zKd T n b = k) → Pt_X4_advance_180 C G r (zTC m r b e k) := by
    intro e k he hbe h1 h2
    refine sg_X4_advance_180 S kr ?_
    rw [zTC_403, zTC_404, zTC_405, pk_sub hbe, show (4 : Int32) = nI 4 from rfl, nI_leI (by omega) (by decide)]
    refine ⟨fun q => ?_, fun q => ⟨fun q2 => ?_, fun q2 => ?_⟩⟩
    · obtain ⟨a1, a2⟩ := h2 q
      rw [a1, a2] at hr
      exact hr
    · obtain ⟨a1, a2⟩ := h1 q
      rw [a1, a2, if_pos q2] at hr
      rw [q]
      exact hr
    · obtain ⟨a1, a2⟩ := h1 q
      rw [a1, a2, if_neg q2] at hr
      rw [zTC_k]
      exact hr
  have T1 : ∀ e k, zI (zTC m r b e k) 1001 (zR (zTC m r b e k) 400 r) = T := fun e k => by
    rw [← hT2]
    funext j
    exact zTC_I (by decide) (by decide) (by decide) _ _
  have L1 : ∀ e k, zI (zTC m r b e k) 401 r 0 = nI n := fun e k => (zTC_I (by decide) (by decide) (by decide) _ _).trans e1
  -- a row of letters or digits
  have h133 : ∀ (Q : Nat → Bool) (k : Int32), (k = 1 ∨ k = 2) → (∀ i, i < n → (Q i = true ↔ zkd (T i) = k)) → (∀ i, n ≤ i → Q i = false) → (k = 2 → zTe T n b = zrun Q (n - b) b ∧ zKd T n b = if zrun Q (n - b) b - b ≤ 4 then 2 else 3) → (¬ k = 2 → zTe T n b = zrun Q (n - b) b ∧ zKd T n b = k) → ∀ e, e ≤ n → b ≤ e → zrun Q (n - b) b = zrun Q (n - e) e → Pt_X4_advance_133 C G r 1 (zTC m r b e k) := by
    intro Q k hk hQ hQn h1 h2
    refine z_loop (P := fun e => b ≤ e → zrun Q (n - b) b = zrun Q (n - e) e → Pt_X4_advance_133 C G r 1 (zTC m r b e k)) n (fun hbe he => ?_) (fun e hen ih hbe he => ?_)
    · refine sg_X4_advance_133 S (C_X4_kindOf hL) kr ⟨fun q => absurd q (by decide), fun _ => ⟨fun _ => ?_, fun q => absurd ?_ q⟩⟩
      · rw [Nat.sub_self] at he
        have he : zrun Q (n - b) b = n := he
        rw [he] at h1 h2
        exact h180 n k (Nat.le_refl _) hbn h1 h2
      · rw [L1, zTC_404]; exact nI_le (Nat.le_refl n) (by omega)
    · refine sg_X4_advance_133 S (C_X4_kindOf hL) kr ⟨fun q => absurd q (by decide), fun _ => ⟨fun q => absurd q ?_, fun _ => ?_⟩⟩
      · rw [L1, zTC_404]; exact nI_ge hen (by omega)
      rw [zTC_404, nI_clamp (by omega), T1, zTC_405]
      refine ⟨vp_in_nI (by omega) (by omega), trivial, fun r4 h4 => ?_⟩
      have h4 : r4 = zkd (T e) := h4
      rw [h4]
      refine ⟨fun q => ?_, fun q => ?_⟩
      · have : ¬ Q e = true := fun z => q ((hQ e hen).1 z)
        rw [zrun_F this] at he
        rw [he] at h1 h2
        exact h180 e k (by omega) hbe h1 h2
      · rw [zrun_T hen ((hQ e hen).2 q)] at he
        rw [← nI_succ, zTC_e]
        exact ih (by omega) he
  -- the token's first byte
  have h60 : ∀ M, M = zsI m 403 r 0 (nI b) → Pt_X4_advance_60 C G r M := by
    intro M hM
    have e403 : zI M 403 r 0 = nI b := by rw [hM, zI_e]
    have e401 : zI M 401 r 0 = nI n := by rw [hM, zI_n (by decide)]; exact e1
    refine sg_X4_advance_60 S (C_X4_kindOf hL) kr ?_
    rw [e403, e401, nI_ltI (by omega) (by omega), nI_clamp (by omega)]
    have c1 : ∀ k, zsI (zsI M 404 r 0 (nI b)) 405 r 0 k = zTC m r b b k := fun k => by rw [hM]; rfl
    refine ⟨fun q => ⟨vp_in_nI (by omega) (by omega), trivial, fun r4 h4 => ?_⟩, fun q => ?_⟩
    · have h4 : r4 = zkd (T b) := by
        rw [← hT2]
        refine Eq.trans h4 (congrArg zkd ?_)
        rw [hM]
        exact zI_n (by decide)
      rw [c1, ← nI_succ, zTC_e]
      have hbb : (T b).toInt8.toInt32 = T b := by rw [← hT2]; exact hb b q
      obtain ⟨k1, k2, -, -⟩ := zkd_1 hbb
      have q1 : zql T n b = true ↔ zkd (T b) = 1 := by rw [zql_t, zse_in q]; exact k1.symm
      have q2 : zqd T n b = true ↔ zkd (T b) = 2 := by rw [zqd_t, zse_in q]; exact k2.symm
      have hby : ∀ i, i < n → (T i).toInt8.toInt32 = T i := fun i hi => by rw [← hT2]; exact hb i hi
      refine ⟨fun q3 => ?_, fun q3 => ⟨fun q4 => ?_, fun q4 => ?_⟩⟩
      · rw [q3]
        rw [h4] at q3
        have a1 := q1.2 q3
        refine h133 (zql T n) 1 (Or.inl rfl) (fun i hi => by rw [zql_t, zse_in hi]; exact (zkd_1 (hby i hi)).1.symm) (fun i hi => zql_o hi) (fun z => absurd z (by decide)) (fun _ => ⟨?_, ?_⟩) (b + 1) (by omega) (by omega) (zrun_T q a1)
        · unfold zTe; rw [if_neg (by omega), if_pos a1]; rfl
        · unfold zKd; rw [if_neg (by omega), if_pos a1]
      · rw [h4] at q3 q4 ⊢
        refine sg_X4_advance_133 S (C_X4_kindOf hL) kr ⟨fun _ => h180 (b + 1) _ (by omega) (by omega) (fun z => absurd z q4) (fun _ => ⟨?_, ?_⟩), fun z => absurd rfl z⟩
        · unfold zTe; rw [if_neg (by omega), if_neg (fun z => q3 (q1.1 z)), if_neg (fun z => q4 (q2.1 z))]
        · unfold zKd; rw [if_neg (by omega), if_neg (fun z => q3 (q1.1 z)), if_neg (fun z => q4 (q2.1 z))]
      · rw [q4]
        rw [h4] at q3 q4
        have a2 := q2.2 q4
        have a1 : ¬ zql T n b = true := fun z => q3 (q1.1 z)
        refine h133 (zqd T n) 2 (Or.inr rfl) (fun i hi => by rw [zqd_t, zse_in hi]; exact (zkd_1 (hby i hi)).2.1.symm) (fun i hi => zqd_o hi) (fun _ => ⟨?_, ?_⟩) (fun z => absurd rfl z) (b + 1) (by omega) (by omega) (zrun_T q a2)
        · unfold zTe; rw [if_neg (by omega), if_neg a1, if_pos a2]; rfl
        · unfold zKd; rw [if_neg (by omega), if_neg a1, if_pos a2]; rfl
    · rw [c1]
      unfold zTe zKd at hr
      rw [if_pos (by omega), if_pos (by omega)] at hr
      exact hr
  -- blanks
  have h8 : ∀ q, q ≤ n → p ≤ q → zrun (zqb T n) (n - q) q = b → Pt_X4_advance_8 C G r (zsI m 403 r 0 (nI q)) := by
    refine z_loop (P := fun q => p ≤ q → zrun (zqb T n) (n - q) q = b → Pt_X4_advance_8 C G r (zsI m 403 r 0 (nI q))) n (fun _ he => ?_) (fun q hq ih hpq he => ?_)
    · refine sg_X4_advance_8 S kr ⟨fun _ => h60 _ ?_, fun z => absurd ?_ z⟩
      · rw [Nat.sub_self] at he
        have he : n = b := he
        rw [he]
      · rw [zI_e, zI_n (by decide), e1]; exact nI_le (Nat.le_refl n) (by omega)
    · have t1 : zI (zsI m 403 r 0 (nI q)) 1001 (zR (zsI m 403 r 0 (nI q)) 400 r) q = T q := by
        rw [zI_n (by decide), ← hT2]
        rfl
      refine sg_X4_advance_8 S kr ?_
      rw [zI_e, zI_n (by decide), e1, nI_clamp (by omega), t1, zsI_sI, ← nI_succ]
      refine ⟨fun z => absurd z (nI_ge hq (by omega)), fun _ => ⟨vp_in_nI (by omega) (by omega), ?_⟩⟩
      have hby : (T q).toInt8.toInt32 = T q := by rw [← hT2]; exact hb q hq
      have kb := zkd_b hby
      have yes : (T q = 32 ∨ T q = 10) → Pt_X4_advance_8 C G r (zsI m 403 r 0 (nI (q + 1))) := fun z => by
        have : zqb T n q = true := by rw [zqb_t, zse_in hq]; exact kb.1 z
        rw [zrun_T hq this] at he
        exact ih (by omega) he
      refine ⟨fun z => yes (Or.inl z), fun z => ⟨fun z2 => ?_, fun z2 => yes (Or.inr z2)⟩⟩
      have : ¬ zqb T n q = true := by rw [zqb_t, zse_in hq]; exact fun z3 => (kb.2 z3).elim z z2
      rw [zrun_F this] at he
      exact h60 _ (by rw [he])
  exact h8 p hp (Nat.le_refl p) hbb
end ZRD
