/-! tokens: pure, and the reference's next -/
def zse (T : Nat → Int32) (n p : Nat) : Int32 := if p < n then T p &&& 255 else -1
def zrun (Q : Nat → Bool) : Nat → Nat → Nat
  | 0, p => p
  | d + 1, p => if Q p = true then zrun Q d (p + 1) else p
theorem zrun_in {Q : Nat → Bool} : ∀ d p i, p ≤ i → i < zrun Q d p → Q i = true
  | 0, p, i, h1, h2 => by unfold zrun at h2; omega
  | d + 1, p, i, h1, h2 => by
    unfold zrun at h2
    split at h2
    · rename_i q
      by_cases e : i = p
      · rw [e]; exact q
      · exact zrun_in d (p + 1) i (by omega) h2
    · omega
theorem zrun_le {Q : Nat → Bool} : ∀ d p, p ≤ zrun Q d p ∧ zrun Q d p ≤ p + d
  | 0, p => by unfold zrun; omega
  | d + 1, p => by
    unfold zrun
    have := zrun_le (Q := Q) d (p + 1)
    split <;> omega
theorem zrun_end {Q : Nat → Bool} {n : Nat} (hn : ∀ p, n ≤ p → Q p = false) : ∀ d p, n ≤ p + d → Q (zrun Q d p) = false
  | 0, p, h => hn _ (by unfold zrun; omega)
  | d + 1, p, h => by
    unfold zrun
    split
    · exact zrun_end hn d (p + 1) (by omega)
    · rename_i q; simpa using q
theorem zrun_ext {Q R : Nat → Bool} : ∀ d p, (∀ i, p ≤ i → i < p + d → Q i = R i) → zrun Q d p = zrun R d p
  | 0, _, _ => rfl
  | d + 1, p, h => by
    unfold zrun
    rw [h p (by omega) (by omega), zrun_ext d (p + 1) (fun i h1 h2 => h i (by omega) (by omega))]
def zqb (T : Nat → Int32) (n i : Nat) : Bool := decide (zse T n i = 10) || decide (zse T n i = 32)
def zql (T : Nat → Int32) (n i : Nat) : Bool := decide (97 ≤ zse T n i) && decide (zse T n i ≤ 122)
def zqd (T : Nat → Int32) (n i : Nat) : Bool := decide (48 ≤ zse T n i) && decide (zse T n i ≤ 57)
theorem zse_o {T : Nat → Int32} {n i : Nat} (h : n ≤ i) : zse T n i = -1 := if_neg (by omega)
theorem zqb_o {T : Nat → Int32} {n i : Nat} (h : n ≤ i) : zqb T n i = false := by
  unfold zqb; rw [zse_o h]; decide
theorem zql_o {T : Nat → Int32} {n i : Nat} (h : n ≤ i) : zql T n i = false := by
  unfold zql; rw [zse_o h]; decide
theorem zqd_o {T : Nat → Int32} {n i : Nat} (h : n ≤ i) : zqd T n i = false := by
  unfold zqd; rw [zse_o h]; decide
theorem zql_t {T : Nat → Int32} {n i : Nat} : zql T n i = true ↔ 97 ≤ zse T n i ∧ zse T n i ≤ 122 := by
  unfold zql; simp
theorem zqd_t {T : Nat → Int32} {n i : Nat} : zqd T n i = true ↔ 48 ≤ zse T n i ∧ zse T n i ≤ 57 := by
  unfold zqd; simp
theorem zqb_t {T : Nat → Int32} {n i : Nat} : zqb T n i = true ↔ zse T n i = 10 ∨ zse T n i = 32 := by
  unfold zqb; simp
/-- a token from p: where it begins, ends; its sort, value, word, as the reference has them -/
def zTb (T : Nat → Int32) (n p : Nat) : Nat := zrun (zqb T n) (n - p) p
def zTl (T : Nat → Int32) (n b : Nat) : Nat := zrun (zql T n) (n - b) b
def zTd (T : Nat → Int32) (n b : Nat) : Nat := zrun (zqd T n) (n - b) b
def zwd (T : Nat → Int32) (b : Nat) : Nat → Int64
  | 0 => 0
  | k + 1 => (zwd T b k <<< ((8 : Int32).toInt64 &&& 63)) ||| (T (b + k) &&& 255).toInt64
def zvl (T : Nat → Int32) (b : Nat) : Nat → Int32
  | 0 => 0
  | k + 1 => if k < 4 then 10 * zvl T b k + (T (b + k) &&& 255) - 48 else zvl T b k
def zsg (c : Int32) : Int32 := if c = 58 ∨ c = 59 ∨ c = 60 ∨ c = 62 ∨ c = 61 then 4 else 1
def zTL (m : zM) (o b e : Nat) (v : Int32) (w : Int64) : zM := zsI (zsJ (zsI (zsI m 625 o 0 (nI e)) 627 o 0 (nI b)) 630 o 0 w) 629 o 0 v
/-- the memory with the token that begins at b -/
def zRtk (m : zM) (o : Nat) (T : Nat → Int32) (n b : Nat) : zM :=
  if zse T n b < 0 then zsI (zTL m o b b (zse T n b) 0) 628 o 0 0
  else if zql T n b = true then zsI (zTL m o b (zTl T n b) (zse T n b) (if zTl T n b - b ≤ 8 then zwd T b (zTl T n b - b) else 0)) 628 o 0 2
  else if zqd T n b = true then zsI (zTL m o b (zTd T n b) (zvl T b (zTd T n b - b)) 0) 628 o 0 (if zTd T n b - b ≤ 4 then 3 else 1)
  else zsI (zTL m o b (b + 1) (zse T n b) 0) 628 o 0 (zsg (zse T n b))
def zRnx (m : zM) (o : Nat) : zM := zRtk m o (zI m 1601 o) (zI m 626 o 0).toNatClampNeg (zTb (zI m 1601 o) (zI m 626 o 0).toNatClampNeg (zI m 625 o 0).toNatClampNeg)
theorem zsI_sI (m : zM) (f a j : Nat) (v w : Int32) : zsI (zsI m f a j v) f a j w = zsI m f a j w := by
  refine zM_ext (fun f' a' j' => ?_) (fun _ _ _ => rfl) (fun _ _ => rfl) (fun _ _ _ => rfl)
  simp only [zI_sI]
  repeat' split
  all_goals rfl
theorem zsI_id {m : zM} {f a j : Nat} {v : Int32} (h : zI m f a j = v) : zsI m f a j v = m := by
  refine zM_ext (fun f' a' j' => ?_) (fun _ _ _ => rfl) (fun _ _ => rfl) (fun _ _ _ => rfl)
  rw [zI_sI]
  split
  · rename_i q
    rw [q.1, q.2.1, q.2.2, h]
  · rfl
theorem zTL_0 (m : zM) (o b : Nat) (v : Int32) : zsJ (zsI (zsI (zsI m 625 o 0 (nI b)) 627 o 0 (nI b)) 629 o 0 v) 630 o 0 0 = zTL m o b b v 0 := rfl
theorem zTL_e (m : zM) (o b e e' : Nat) (v : Int32) (w : Int64) : zsI (zTL m o b e v w) 625 o 0 (nI e') = zTL m o b e' v w := by
  refine zM_ext (fun f' a' j' => ?_) (fun _ _ _ => rfl) (fun _ _ => rfl) (fun _ _ _ => rfl)
  unfold zTL
  simp only [zI_sI, zI_sJ]
  repeat' split
  all_goals first | rfl | omega
theorem zTL_v (m : zM) (o b e : Nat) (v v' : Int32) (w : Int64) : zsI (zTL m o b e v w) 629 o 0 v' = zTL m o b e v' w := zsI_sI _ _ _ _ _ _
theorem zTL_w (m : zM) (o b e : Nat) (v : Int32) (w w' : Int64) : zsJ (zTL m o b e v w) 630 o 0 w' = zTL m o b e v w' := by
  refine zM_ext (fun _ _ _ => rfl) (fun f' a' j' => ?_) (fun _ _ => rfl) (fun _ _ _ => rfl)
  unfold zTL
  simp only [zJ_sI, zJ_sJ]
  repeat' split
  all_goals first | rfl | omega
theorem zTL_I {m : zM} {o b e : Nat} {v : Int32} {w : Int64} {f : Nat} (h1 : f ≠ 625) (h2 : f ≠ 627) (h3 : f ≠ 629) (a j : Nat) : zI (zTL m o b e v w) f a j = zI m f a j := by
  unfold zTL
  rw [zI_n h3, zI_sJ, zI_n h2, zI_n h1]
theorem zTL_625 (m : zM) (o b e : Nat) (v : Int32) (w : Int64) : zI (zTL m o b e v w) 625 o 0 = nI e := by
  unfold zTL
  rw [zI_n (by decide), zI_sJ, zI_n (by decide), zI_e]
theorem zTL_629 (m : zM) (o b e : Nat) (v : Int32) (w : Int64) : zI (zTL m o b e v w) 629 o 0 = v := zI_e
theorem zTL_630 (m : zM) (o b e : Nat) (v : Int32) (w : Int64) : zJ (zTL m o b e v w) 630 o 0 = w := zJ_e
/-- the reader of the reference stands within its text -/
def zRx (m : zM) (o : Nat) : Prop := ∃ n p, n ≤ 400 ∧ p ≤ n ∧ zI m 626 o 0 = nI n ∧ zI m 625 o 0 = nI p
section ZLX
variable {l : Launch} {G : zG}
theorem C_X6_see (hL : zLay G) : Con_X6_see l G (fun o m => ∃ n p, n ≤ 400 ∧ p ≤ 800 ∧ zI m 626 o 0 = nI n ∧ zI m 625 o 0 = nI p) (fun o m r => r = zse (zI m 1601 o) (zI m 626 o 0).toNatClampNeg (zI m 625 o 0).toNatClampNeg) := by
  refine con_X6_see hL fun C Qc S hl o m ko hp hr => sg_X6_see_0 S ko ?_
  obtain ⟨n, p, hn, hpn, e1, e2⟩ := hp
  rw [e1, e2, nI_clamp (by omega), nI_clamp (by omega)] at hr
  rw [e1, e2, nI_clamp (by omega), nI_leI (by omega) (by omega)]
  exact ⟨fun q => hr _ (by unfold zse; rw [if_neg (by omega)]), fun q => ⟨vp_in_nI (by omega) (by omega), hr _ (by unfold zse; rw [if_pos (by omega)])⟩⟩
theorem C_X6_next (hL : zLay G) : Con_X6_next l G (fun o m => zRx m o) (fun o m m' => m' = zRnx m o) := by
  refine con_X6_next hL fun C Qc S hl o m ko hp hr => ?_
  obtain ⟨n, p, hn, hpn, e1, e2⟩ := hp
  unfold zRnx at hr
  rw [e1, e2, nI_clamp (by omega), nI_clamp (by omega)] at hr
  generalize hT : zI m 1601 o = T at hr
  -- what a look sees, over a memory M
  have see : ∀ M : zM, zI M 1601 o = T → zI M 626 o 0 = nI n → ∀ q, q ≤ 800 → zI M 625 o 0 = nI q → ∀ r, r = zse (zI M 1601 o) (zI M 626 o 0).toNatClampNeg (zI M 625 o 0).toNatClampNeg → r = zse T n q := by
    intro M h1 h2 q hq h3 r h
    rw [h, h1, h2, h3, nI_clamp (by omega), nI_clamp (by omega)]
  have inB : ∀ r q, zB r (97 ≤ q ∧ q ≤ 122) → ∀ i, q = zse T n i → zB r (zql T n i = true) := fun r q h i e => zB_iff h (by rw [e]; exact zql_t.symm)
  have inD : ∀ r q, zB r (48 ≤ q ∧ q ≤ 57) → ∀ i, q = zse T n i → zB r (zqd T n i = true) := fun r q h i e => zB_iff h (by rw [e]; exact zqd_t.symm)
  -- a row of letters
  have word : ∀ b v, b ≤ n → (zRet C G Qc none (zsI (zTL m o b (zTl T n b) v (if zTl T n b - b ≤ 8 then zwd T b (zTl T n b - b) else 0)) 628 o 0 2)) → ∀ d i, i + d = n → b ≤ i → zTl T n b = zrun (zql T n) d i → Pt_X6_next_79 C G o (nI (i - b)) (zTL m o b i v (zwd T b (i - b))) := by
    intro b v hb hret d
    have hM : ∀ i w, zI (zTL m o b i v w) 1601 o = T := fun i w => funext fun j => by rw [zTL_I (by decide) (by decide) (by decide), hT]
    have hN : ∀ i w, zI (zTL m o b i v w) 626 o 0 = nI n := fun i w => (zTL_I (by decide) (by decide) (by decide) _ _).trans e1
    have stop : ∀ i, i ≤ n → b ≤ i → zTl T n b = i → zql T n i = false → Pt_X6_next_79 C G o (nI (i - b)) (zTL m o b i v (zwd T b (i - b))) := by
      intro i hi hbi he hq
      refine sg_X6_next_79 S (C_X6_see hL) (C_X6_in hL) ko ⟨⟨n, i, hn, by omega, hN _ _, zTL_625 _ _ _ _ _ _⟩, fun r2 h2 => ⟨trivial, fun r4 h4 => ?_⟩⟩
      have e2 := see _ (hM _ _) (hN _ _) i (by omega) (zTL_625 _ _ _ _ _ _) r2 h2
      have h4' := inB _ _ h4 i e2
      refine ⟨fun _ => ⟨fun z => ?_, fun z => ?_⟩, fun z => absurd (zB_t h4' z) (by rw [hq]; decide)⟩
      · rw [zTL_630, zTL_w]
        rw [he, if_pos (by rw [show (8 : Int32) = nI 8 from rfl, nI_leI (by omega) (by omega)] at z; exact z)] at hret
        exact hret
      · rw [zTL_w]
        rw [he, if_neg (by rw [show (8 : Int32) = nI 8 from rfl, nI_leI (by omega) (by omega)] at z; exact z)] at hret
        exact hret
    induction d with
    | zero =>
      intro i hi hbi he
      exact stop i (by omega) hbi he (zql_o (by omega))
    | succ d ih =>
      intro i hi hbi he
      by_cases hq : zql T n i = true
      · rw [zrun, if_pos hq] at he
        refine sg_X6_next_79 S (C_X6_see hL) (C_X6_in hL) ko ⟨⟨n, i, hn, by omega, hN _ _, zTL_625 _ _ _ _ _ _⟩, fun r2 h2 => ⟨trivial, fun r4 h4 => ?_⟩⟩
        have e2 := see _ (hM _ _) (hN _ _) i (by omega) (zTL_625 _ _ _ _ _ _) r2 h2
        have h4' := inB _ _ h4 i e2
        refine ⟨fun z => absurd hq (zB_f h4' z), fun _ r5 h5 => ?_⟩
        have e5 := see _ (hM _ _) (hN _ _) i (by omega) (zTL_625 _ _ _ _ _ _) r5 h5
        have e6 : zse T n i = T i &&& 255 := if_pos (by omega)
        rw [zTL_630, zTL_w, zTL_625, ← nI_succ i, zTL_e, ← nI_succ, e5, e6]
        have ih2 := ih (i + 1) (by omega) (by omega) he
        rw [show i + 1 - b = (i - b) + 1 by omega, zwd, show b + (i - b) = i by omega] at ih2
        exact ih2
      · rw [zrun, if_neg hq] at he
        exact stop i (by omega) hbi he (by simpa using hq)
  -- a row of digits
  have numb : ∀ b, b ≤ n → (zRet C G Qc none (zsI (zTL m o b (zTd T n b) (zvl T b (zTd T n b - b)) 0) 628 o 0 (if zTd T n b - b ≤ 4 then 3 else 1))) → ∀ d i, i + d = n → b ≤ i → zTd T n b = zrun (zqd T n) d i → Pt_X6_next_168 C G o (nI (i - b)) (zTL m o b i (zvl T b (i - b)) 0) := by
    intro b hb hret d
    have hM : ∀ i v, zI (zTL m o b i v 0) 1601 o = T := fun i v => funext fun j => by rw [zTL_I (by decide) (by decide) (by decide), hT]
    have hN : ∀ i v, zI (zTL m o b i v 0) 626 o 0 = nI n := fun i v => (zTL_I (by decide) (by decide) (by decide) _ _).trans e1
    have stop : ∀ i, i ≤ n → b ≤ i → zTd T n b = i → zqd T n i = false → Pt_X6_next_168 C G o (nI (i - b)) (zTL m o b i (zvl T b (i - b)) 0) := by
      intro i hi hbi he hq
      refine sg_X6_next_168 S (C_X6_see hL) (C_X6_in hL) ko ⟨⟨n, i, hn, by omega, hN _ _, zTL_625 _ _ _ _ _ _⟩, fun r2 h2 => ⟨trivial, fun r4 h4 => ?_⟩⟩
      have e2 := see _ (hM _ _) (hN _ _) i (by omega) (zTL_625 _ _ _ _ _ _) r2 h2
      have h4' := inD _ _ h4 i e2
      refine ⟨fun _ => ⟨fun z => ?_, fun z => ?_⟩, fun z => absurd (zB_t h4' z) (by rw [hq]; decide)⟩
      · rw [he, if_pos (by rw [show (4 : Int32) = nI 4 from rfl, nI_leI (by omega) (by omega)] at z; exact z)] at hret
        exact hret
      · rw [he, if_neg (by rw [show (4 : Int32) = nI 4 from rfl, nI_leI (by omega) (by omega)] at z; exact z)] at hret
        exact hret
    induction d with
    | zero =>
      intro i hi hbi he
      exact stop i (by omega) hbi he (zqd_o (by omega))
    | succ d ih =>
      intro i hi hbi he
      by_cases hq : zqd T n i = true
      · rw [zrun, if_pos hq] at he
        have ih2 := ih (i + 1) (by omega) (by omega) he
        rw [show i + 1 - b = (i - b) + 1 by omega, zvl, show b + (i - b) = i by omega, nI_succ] at ih2
        have k210 : ∀ s0, s0 = (if i - b < 4 then 10 * zvl T b (i - b) + (T i &&& 255) - 48 else zvl T b (i - b)) → Pt_X6_next_210 C G o (nI (i - b)) s0 (zTL m o b i (zvl T b (i - b)) 0) := by
          intro s0 hs0
          refine sg_X6_next_210 S ko ?_
          rw [zTL_v, zTL_625, ← nI_succ i, zTL_e, hs0]
          exact ih2
        refine sg_X6_next_168 S (C_X6_see hL) (C_X6_in hL) ko ⟨⟨n, i, hn, by omega, hN _ _, zTL_625 _ _ _ _ _ _⟩, fun r2 h2 => ⟨trivial, fun r4 h4 => ?_⟩⟩
        have e2 := see _ (hM _ _) (hN _ _) i (by omega) (zTL_625 _ _ _ _ _ _) r2 h2
        have h4' := inD _ _ h4 i e2
        refine ⟨fun z => absurd hq (zB_f h4' z), fun _ => ⟨fun z => k210 _ ?_, fun z r5 h5 => k210 _ ?_⟩⟩
        · rw [show (4 : Int32) = nI 4 from rfl, nI_leI (by omega) (by omega)] at z
          rw [if_neg (by omega), zTL_629]
        · have e5 := see _ (hM _ _) (hN _ _) i (by omega) (zTL_625 _ _ _ _ _ _) r5 h5
          have e6 : zse T n i = T i &&& 255 := if_pos (by omega)
          rw [show (4 : Int32) = nI 4 from rfl, nI_leI (by omega) (by omega)] at z
          rw [if_pos (by omega), zTL_629, e5, e6]
      · rw [zrun, if_neg hq] at he
        exact stop i (by omega) hbi he (by simpa using hq)
  -- behind the blanks
  have tok : ∀ b, b ≤ n → zqb T n b = false → zTb T n p = b → Pt_X6_next_0 C G o (zsI m 625 o 0 (nI b)) := by
    intro b hb hq he
    rw [he] at hr
    have hM : zI (zsI m 625 o 0 (nI b)) 1601 o = T := funext fun j => by rw [zI_n (by decide), hT]
    have hN : zI (zsI m 625 o 0 (nI b)) 626 o 0 = nI n := (zI_n (by decide)).trans e1
    have h25 : zI (zsI m 625 o 0 (nI b)) 625 o 0 = nI b := zI_e
    have nq : ¬ (zse T n b = 10 ∨ zse T n b = 32) := fun z => by rw [zqb_t.2 z] at hq; cases hq
    refine sg_X6_next_0 S (C_X6_see hL) (C_X6_in hL) ko ⟨⟨n, b, hn, by omega, hN, h25⟩, fun r2 h2 => ?_⟩
    have e2 := see _ hM hN b (by omega) h25 r2 h2
    refine ⟨fun z => absurd (Or.inl (e2.symm.trans z)) nq, fun _ r3 h3 => ?_⟩
    have e3 := see _ hM hN b (by omega) h25 r3 h3
    refine ⟨fun _ => ?_, fun z => absurd (Or.inr (e3.symm.trans z)) nq⟩
    rw [h25]
    refine ⟨⟨n, b, hn, by omega, (zI_n (by decide)).trans hN, (zI_n (by decide)).trans h25⟩, fun r5 h5 => ?_⟩
    have e5 := see (zsI (zsI m 625 o 0 (nI b)) 627 o 0 (nI b)) (funext fun j => by rw [zI_n (by decide), hM]) ((zI_n (by decide)).trans hN) b (by omega) ((zI_n (by decide)).trans h25) r5 h5
    rw [e5, zTL_0]
    unfold zRtk at hr
    refine ⟨fun q0 => ⟨trivial, fun r7 h7 => ⟨fun q7 => ⟨trivial, fun r9 h9 => ⟨fun q9 => ?_, fun q9 => ?_⟩⟩, fun q7 => ?_⟩⟩, fun q0 => ?_⟩
    · have nl : ¬ zql T n b = true := zB_f (inB _ _ h7 b rfl) q7
      have nd : ¬ zqd T n b = true := zB_f (inD _ _ h9 b rfl) q9
      rw [if_neg (by rw [Int32.not_lt]; exact q0), if_neg nl, if_neg nd] at hr
      rw [← nI_succ, zTL_e]
      unfold zsg at hr
      refine ⟨fun q => hr _ ?_, fun n1 => ⟨fun q => hr _ ?_, fun n2 => ⟨fun q => hr _ ?_, fun n3 => ⟨fun q => hr _ ?_, fun n4 => ⟨fun q => hr _ ?_, fun q => hr _ ?_⟩⟩⟩⟩⟩
      · rw [if_pos (Or.inl q)]
      · rw [if_pos (Or.inr (Or.inl q))]
      · rw [if_pos (Or.inr (Or.inr (Or.inl q)))]
      · rw [if_pos (Or.inr (Or.inr (Or.inr (Or.inl q))))]
      · rw [if_neg (by simp [n1, n2, n3, n4, q])]
      · rw [if_pos (Or.inr (Or.inr (Or.inr (Or.inr q))))]
    · have nl : ¬ zql T n b = true := zB_f (inB _ _ h7 b rfl) q7
      have yd : zqd T n b = true := zB_t (inD _ _ h9 b rfl) q9
      rw [if_neg (by rw [Int32.not_lt]; exact q0), if_neg nl, if_pos yd] at hr
      rw [zTL_v]
      have := numb b hb (hr _ rfl) (n - b) b (by omega) (Nat.le_refl b) rfl
      rw [Nat.sub_self] at this
      exact this
    · have yl : zql T n b = true := zB_t (inB _ _ h7 b rfl) q7
      rw [if_neg (by rw [Int32.not_lt]; exact q0), if_pos yl] at hr
      have := word b _ hb (hr _ rfl) (n - b) b (by omega) (Nat.le_refl b) rfl
      rw [Nat.sub_self] at this
      exact this
    · rw [if_pos (by rw [← Int32.not_le]; exact q0)] at hr
      exact hr _ rfl
  have blanks : ∀ d q, q + d = n → p ≤ q → zTb T n p = zrun (zqb T n) d q → Pt_X6_next_0 C G o (zsI m 625 o 0 (nI q)) := by
    intro d
    induction d with
    | zero => intro q hq _ he; exact tok q (by omega) (zqb_o (by omega)) he
    | succ d ih =>
      intro q hq hpq he
      by_cases hz : zqb T n q = true
      · rw [zrun, if_pos hz] at he
        have hM : zI (zsI m 625 o 0 (nI q)) 1601 o = T := funext fun j => by rw [zI_n (by decide), hT]
        have hN : zI (zsI m 625 o 0 (nI q)) 626 o 0 = nI n := (zI_n (by decide)).trans e1
        have h25 : zI (zsI m 625 o 0 (nI q)) 625 o 0 = nI q := zI_e
        have nx := ih (q + 1) (by omega) (by omega) he
        refine sg_X6_next_0 S (C_X6_see hL) (C_X6_in hL) ko ⟨⟨n, q, hn, by omega, hN, h25⟩, fun r2 h2 => ?_⟩
        have e2 := see _ hM hN q (by omega) h25 r2 h2
        have nx2 : Pt_X6_next_0 C G o (zsI (zsI m 625 o 0 (nI q)) 625 o 0 (zI (zsI m 625 o 0 (nI q)) 625 o 0 + 1)) := by
          rw [h25, zsI_sI, ← nI_succ]
          exact nx
        refine ⟨fun _ => nx2, fun n10 r3 h3 => ⟨fun n32 => ?_, fun _ => nx2⟩⟩
        have e3 := see _ hM hN q (by omega) h25 r3 h3
        rcases zqb_t.1 hz with z | z
        · exact absurd (e2.trans z) n10
        · exact absurd (e3.trans z) n32
      · rw [zrun, if_neg hz] at he
        exact tok q (by omega) (by simpa using hz) he
  have := blanks (n - p) p (by omega) (Nat.le_refl p) rfl
  rw [zsI_id e2] at this
  exact this
end ZLX
