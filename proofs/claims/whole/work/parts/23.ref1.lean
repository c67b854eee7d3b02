/-! the reference: the small methods -/
def zB (r : Int32) (P : Prop) : Prop := (r = 1 ∧ P) ∨ (r = 0 ∧ ¬ P)
theorem zB_t {r : Int32} {P : Prop} (h : zB r P) (q : ¬ r = 0) : P := h.elim (fun z => z.2) (fun z => absurd z.1 q)
theorem zB_f {r : Int32} {P : Prop} (h : zB r P) (q : r = 0) : ¬ P := h.elim (fun z => absurd (z.1.symm.trans q) (by decide)) (fun z => z.2)
theorem zB_1 {P : Prop} (h : P) : zB 1 P := Or.inl ⟨rfl, h⟩
theorem zB_0 {P : Prop} (h : ¬ P) : zB 0 P := Or.inr ⟨rfl, h⟩
theorem zB_01 {r : Int32} {P : Prop} (h : zB r P) : r = 0 ∨ r = 1 := h.elim (fun z => Or.inr z.1) (fun z => Or.inl z.1)
theorem zB_iff {r : Int32} {P Q : Prop} (h : zB r P) (e : P ↔ Q) : zB r Q := h.elim (fun z => Or.inl ⟨z.1, e.1 z.2⟩) (fun z => Or.inr ⟨z.1, fun q => z.2 (e.2 q)⟩)
theorem zB_eq {r s : Int32} {P Q : Prop} (h : zB r P) (h2 : zB s Q) (e : P ↔ Q) : r = s := by
  rcases h with ⟨h, p⟩ | ⟨h, p⟩ <;> rcases h2 with ⟨h2, p2⟩ | ⟨h2, p2⟩
  · rw [h, h2]
  · exact absurd (e.1 p) p2
  · exact absurd (e.2 p2) p
  · rw [h, h2]
/-- count of the places below n that p holds at -/
def zcb (p : Nat → Bool) : Nat → Nat
  | 0 => 0
  | n + 1 => if p n = true then zcb p n + 1 else zcb p n
theorem zcb_le (p : Nat → Bool) : ∀ n, zcb p n ≤ n
  | 0 => Nat.le_refl 0
  | n + 1 => by
    unfold zcb
    have := zcb_le p n
    split <;> omega
theorem zcb_ext {p q : Nat → Bool} : ∀ {n : Nat}, (∀ i, i < n → p i = q i) → zcb p n = zcb q n
  | 0, _ => rfl
  | n + 1, h => by
    unfold zcb
    rw [h n (by omega), zcb_ext (n := n) (fun i hi => h i (by omega))]
theorem zcb_more {p : Nat → Bool} {n : Nat} : ∀ {N : Nat}, n ≤ N → (∀ i, n ≤ i → i < N → p i = false) → zcb p N = zcb p n
  | 0, h, _ => by rw [show n = 0 by omega]
  | N + 1, h, hp => by
    by_cases q : n = N + 1
    · rw [q]
    · rw [zcb, hp N (by omega) (by omega)]
      exact zcb_more (N := N) (by omega) (fun i h1 h2 => hp i h1 (by omega))
theorem zcb_0 {p : Nat → Bool} {n : Nat} (h : zcb p n = 0) : ∀ i, i < n → p i = false := by
  induction n with
  | zero => intro i hi; omega
  | succ n ih =>
    intro i hi
    rw [zcb] at h
    by_cases q : p n = true
    · rw [if_pos q] at h; omega
    · rw [if_neg q] at h
      by_cases e : i = n
      · rw [e]; simpa using q
      · exact ih h i (by omega)
theorem zcb_0' {p : Nat → Bool} {n : Nat} (h : ∀ i, i < n → p i = false) : zcb p n = 0 := by
  induction n with
  | zero => rfl
  | succ n ih =>
    rw [zcb, h n (by omega)]
    exact ih (fun i hi => h i (by omega))
theorem zsum_ext {f g : Nat → Int64} : ∀ {n : Nat}, (∀ i, i < n → f i = g i) → zsum f n = zsum g n
  | 0, _ => rfl
  | n + 1, h => by
    unfold zsum
    rw [h n (by omega), zsum_ext (n := n) (fun i hi => h i (by omega))]
theorem zsum_more {f : Nat → Int64} {n : Nat} : ∀ {N : Nat}, n ≤ N → (∀ i, n ≤ i → i < N → f i = 0) → zsum f N = zsum f n
  | 0, h, _ => by rw [show n = 0 by omega]
  | N + 1, h, hp => by
    by_cases q : n = N + 1
    · rw [q]
    · rw [zsum, hp N (by omega) (by omega), Int64.add_zero]
      exact zsum_more (N := N) (by omega) (fun i h1 h2 => hp i h1 (by omega))
def zIsC (x k : Int32) : Prop := ∃ i, i < k.toNatClampNeg ∧ x = nI i
theorem zIsC_n {x : Int32} {n : Nat} (hn : n < 2 ^ 31) : zIsC x (nI n) ↔ ∃ i, i < n ∧ x = nI i := by
  unfold zIsC
  rw [nI_clamp hn]
theorem zIsC_lt {x : Int32} {n : Nat} (hn : n < 2 ^ 31) : zIsC x (nI n) ↔ ¬ x < 0 ∧ ¬ nI n ≤ x := by
  rw [zIsC_n hn]
  constructor
  · rintro ⟨i, hi, rfl⟩
    exact ⟨nI_pos (by omega), nI_ge hi hn⟩
  · rintro ⟨h1, h2⟩
    obtain ⟨j, hj, rfl⟩ := nI_of h1
    refine ⟨j, ?_, rfl⟩
    rw [nI_leI hn hj] at h2
    omega
theorem zIsC_m1 {x : Int32} {n : Nat} (hn : n < 2 ^ 31) : (0 ≤ x ∧ x ≤ nI n - 1) ↔ zIsC x (nI n) := by
  rw [zIsC_lt hn, Int32.not_lt, Int32.not_le]
  refine and_congr_right fun h0 => ?_
  obtain ⟨j, hj, rfl⟩ := nI_of (by rw [Int32.not_lt]; exact h0)
  rcases n with _ | n
  · rw [nI_ltI hj hn]
    constructor
    · intro h
      rw [Int32.le_iff_toInt_le, nI_toInt hj] at h
      have e : (nI 0 - 1).toInt = -1 := by decide
      rw [e] at h
      omega
    · intro h; omega
  · rw [nI_pred, nI_leI hj (by omega), nI_ltI hj hn]
    omega
section ZR1
variable {l : Launch} {G : zG}
theorem C_X6_in (hL : zLay G) : Con_X6_in l G (fun _ _ _ _ => True) (fun x0 x1 x2 _ r => zB r (x1 ≤ x0 ∧ x0 ≤ x2)) :=
  con_X6_in hL fun C Qc S hl x0 x1 x2 m _ hr => sg_X6_in_0 S ⟨fun h => hr _ (zB_0 fun q => Int32.not_le.2 h q.1), fun h => ⟨fun h2 => hr _ (zB_0 fun q => Int32.not_le.2 h2 q.2), fun h2 => hr _ (zB_1 ⟨Int32.not_lt.1 h, Int32.not_lt.1 h2⟩)⟩⟩
def zRN (m : zM) (o : Nat) : Prop := ∃ n, n ≤ 16 ∧ zI m 1606 o 0 = nI n
theorem C_X6_isClaim (hL : zLay G) : Con_X6_isClaim l G (fun o _ m => zRN m o) (fun o x m r => zB r (zIsC x (zI m 1606 o 0))) := by
  refine con_X6_isClaim hL fun C Qc S hl o x m ko hp hr => sg_X6_isClaim_0 S (C_X6_in hL) ko ⟨trivial, fun r h => ⟨zB_01 h, hr _ ?_⟩⟩
  obtain ⟨n, hn, hn2⟩ := hp
  rw [hn2] at h ⊢
  exact zB_iff h (zIsC_m1 (by omega))
theorem C_X6_of (hL : zLay G) : Con_X6_of l G (fun _ x1 x2 _ => ∃ i k, i < 16 ∧ k < 10 ∧ x1 = nI i ∧ x2 = nI k) (fun o x1 x2 m r => ∀ i k, i < 16 → k < 10 → x1 = nI i → x2 = nI k → r = zI m 1609 o (10 * i + k)) := by
  refine con_X6_of hL fun C Qc S hl o x1 x2 m ko hp hr => sg_X6_of_0 S ko ?_
  obtain ⟨i, k, hi, hk, rfl, rfl⟩ := hp
  have e : 10 * nI i + nI k = nI (10 * i + k) := by rw [show (10 : Int32) = nI 10 from rfl, pk_mul, nI_add]
  rw [e]
  refine ⟨vp_in_nI (by omega) (by omega), hr _ ?_⟩
  intro i' k' hi' hk' e1 e2
  rw [nI_eq (by omega) (by omega)] at e1 e2
  subst e1 e2
  rw [nI_clamp (by omega)]
theorem C_X6_is (hL : zLay G) : Con_X6_is l G (fun o _ _ m => zRN m o) (fun o x1 x2 m r => zB r (∃ i, i < (zI m 1606 o 0).toNatClampNeg ∧ x1 = nI i ∧ zI m 1609 o (10 * i + 5) = x2)) := by
  refine con_X6_is hL fun C Qc S hl o x1 x2 m ko hp hr => sg_X6_is_0 S (C_X6_isClaim hL) (C_X6_of hL) ko ⟨hp, fun r h => ⟨fun q => hr _ (zB_0 ?_), fun q => ?_⟩⟩
  · rintro ⟨i, hi, e, -⟩
    exact zB_f h q ⟨i, hi, e⟩
  · obtain ⟨n, hn, hn2⟩ := hp
    obtain ⟨i, hi, rfl⟩ := zB_t h q
    have hi2 : i < 16 := by rw [hn2, nI_clamp (by omega)] at hi; omega
    refine ⟨⟨i, 5, hi2, by decide, rfl, rfl⟩, fun r4 h4 => ?_⟩
    have e4 := h4 i 5 hi2 (by decide) rfl rfl
    refine ⟨fun z => hr _ (zB_0 ?_), fun z => hr _ (zB_1 ⟨i, hi, rfl, by rw [← e4]; exact z⟩)⟩
    rintro ⟨j, hj, e, z2⟩
    have : j < 16 := by rw [hn2, nI_clamp (by omega)] at hj; omega
    rw [nI_eq (by omega) (by omega)] at e
    subst e
    exact z (by rw [e4]; exact z2)
theorem C_X6_paidAll (hL : zLay G) : Con_X6_paidAll l G (fun o m => zRN m o) (fun o m r => r = zsum (zJ m 1610 o) (zI m 1606 o 0).toNatClampNeg) := by
  refine con_X6_paidAll hL fun C Qc S hl o m ko hp hr => sg_X6_paidAll_0 S ko ?_
  obtain ⟨n, hn, hn2⟩ := hp
  rw [hn2, nI_clamp (by omega)] at hr
  refine z_loop (P := fun i => Pt_X6_paidAll_4 C G o (zsum (zJ m 1610 o) i) (nI i) m) n ?_ (fun i hi ih => ?_) 0 (Nat.zero_le n)
  · exact sg_X6_paidAll_4 S ko ⟨fun _ => hr _ rfl, fun q => by rw [hn2] at q; exact absurd (nI_le (Nat.le_refl n) (by omega)) q⟩
  · refine sg_X6_paidAll_4 S ko ⟨fun q => by rw [hn2] at q; exact absurd q (nI_ge hi (by omega)), fun _ => ⟨vp_in_nI (by omega) (by omega), ?_⟩⟩
    rw [nI_clamp (by omega), ← nI_succ]
    exact ih
theorem C_X6_states (hL : zLay G) : Con_X6_states l G (fun o _ m => zRN m o) (fun o x m r => r = nI (zcb (fun c => decide (zI m 1609 o (10 * c + 5) = x)) (zI m 1606 o 0).toNatClampNeg)) := by
  refine con_X6_states hL fun C Qc S hl o x m ko hp hr => sg_X6_states_0 S ko ?_
  obtain ⟨n, hn, hn2⟩ := hp
  rw [hn2, nI_clamp (by omega)] at hr
  refine z_loop (P := fun i => Pt_X6_states_4 C G o x (nI (zcb (fun c => decide (zI m 1609 o (10 * c + 5) = x)) i)) (nI i) m) n ?_ (fun i hi ih => ?_) 0 (Nat.zero_le n)
  · exact sg_X6_states_4 S (C_X6_of hL) ko ⟨fun _ => hr _ rfl, fun q => by rw [hn2] at q; exact absurd (nI_le (Nat.le_refl n) (by omega)) q⟩
  · refine sg_X6_states_4 S (C_X6_of hL) ko ⟨fun q => by rw [hn2] at q; exact absurd q (nI_ge hi (by omega)), fun _ => ⟨⟨i, 5, by omega, by decide, rfl, rfl⟩, fun r h => ?_⟩⟩
    have e := h i 5 (by omega) (by decide) rfl rfl
    rw [zcb, nI_succ] at ih
    refine ⟨fun q => ?_, fun q => ?_⟩
    · rw [e] at q
      rw [if_neg (by simpa using q)] at ih
      rw [Int32.add_zero]
      exact ih
    · rw [e] at q
      rw [if_pos (by simpa using q), nI_succ] at ih
      exact ih
def ztw (m : zM) (o c : Nat) (x : Int32) (k : Nat) : Bool := !decide (k = c) && decide (zI m 1609 o (10 * k) = zI m 1609 o (10 * c)) && (if x = -1 then !decide (zI m 1609 o (10 * k + 5) = 2) else decide (zI m 1609 o (10 * k + 5) = x))
theorem C_X6_twins (hL : zLay G) : Con_X6_twins l G (fun o x1 _ m => zRN m o ∧ ∃ c, c < 16 ∧ x1 = nI c) (fun o x1 x2 m r => r = nI (zcb (ztw m o x1.toNatClampNeg x2) (zI m 1606 o 0).toNatClampNeg)) := by
  refine con_X6_twins hL fun C Qc S hl o x1 x2 m ko hp hr => sg_X6_twins_0 S ko ?_
  obtain ⟨⟨n, hn, hn2⟩, c, hc, rfl⟩ := hp
  rw [hn2, nI_clamp (by omega), nI_clamp (by omega)] at hr
  refine z_loop (P := fun i => Pt_X6_twins_5 C G o (nI c) x2 (nI (zcb (ztw m o c x2) i)) (nI i) m) n ?_ (fun i hi ih => ?_) 0 (Nat.zero_le n)
  · exact sg_X6_twins_5 S (C_X6_of hL) ko ⟨fun _ => hr _ rfl, fun q => by rw [hn2] at q; exact absurd (nI_le (Nat.le_refl n) (by omega)) q⟩
  · rw [zcb, nI_succ] at ih
    have no : ztw m o c x2 i = false → Pt_X6_twins_5 C G o (nI c) x2 (nI (zcb (ztw m o c x2) i) + 0) (nI i + 1) m := fun q => by
      rw [q, if_neg (by decide)] at ih
      rw [Int32.add_zero]
      exact ih
    have yes : ztw m o c x2 i = true → Pt_X6_twins_5 C G o (nI c) x2 (nI (zcb (ztw m o c x2) i) + 1) (nI i + 1) m := fun q => by
      rw [q, if_pos rfl, nI_succ] at ih
      exact ih
    refine sg_X6_twins_5 S (C_X6_of hL) ko ⟨fun q => by rw [hn2] at q; exact absurd q (nI_ge hi (by omega)), fun _ => ⟨fun q => no ?_, fun q => ⟨⟨i, 0, by omega, by decide, rfl, rfl⟩, fun r h => ⟨⟨c, 0, by omega, by decide, rfl, rfl⟩, fun r2 h2 => ⟨fun q2 => no ?_, fun q2 => ⟨fun q3 => ⟨⟨i, 5, by omega, by decide, rfl, rfl⟩, fun r6 h6 => ⟨fun q6 => no ?_, fun q6 => yes ?_⟩⟩, fun q3 => ⟨⟨i, 5, by omega, by decide, rfl, rfl⟩, fun r6 h6 => ⟨fun q6 => no ?_, fun q6 => yes ?_⟩⟩⟩⟩⟩⟩⟩⟩
    · rw [nI_eq (by omega) (by omega)] at q
      simp [ztw, q]
    all_goals
      have e := h i 0 (by omega) (by decide) rfl rfl
      have e2 := h2 c 0 (by omega) (by decide) rfl rfl
      rw [nI_eq (by omega) (by omega)] at q
      rw [e, e2] at q2
      simp only [Nat.add_zero] at q2
    · simp [ztw, q2]
    all_goals
      have e6 := h6 i 5 (by omega) (by decide) rfl rfl
      rw [e6] at q6
      simp [ztw, q, q2, q3, q6]
theorem C_X6_canBe (hL : zLay G) : Con_X6_canBe l G (fun _ _ _ _ _ => True) (fun x0 x1 x2 x3 _ r => zB r ((0 ≤ x0 ∧ x0 ≤ 3) ∧ (0 ≤ x1 ∧ x1 ≤ 60) ∧ (0 ≤ x2 ∧ x2 ≤ 999) ∧ (0 ≤ x3 ∧ x3 ≤ 63))) :=
  con_X6_canBe hL fun C Qc S hl x0 x1 x2 x3 m _ hr => sg_X6_canBe_0 S (C_X6_in hL) ⟨trivial, fun r1 h1 => ⟨fun q => hr _ (zB_0 fun z => zB_f h1 q z.1), fun q1 => ⟨trivial, fun r2 h2 => ⟨fun q => hr _ (zB_0 fun z => zB_f h2 q z.2.1), fun q2 => ⟨trivial, fun r3 h3 => ⟨fun q => hr _ (zB_0 fun z => zB_f h3 q z.2.2.1), fun q3 => ⟨trivial, fun r4 h4 => ⟨fun q => hr _ (zB_0 fun z => zB_f h4 q z.2.2.2), fun q4 => hr _ (zB_1 ⟨zB_t h1 q1, zB_t h2 q2, zB_t h3 q3, zB_t h4 q4⟩)⟩⟩⟩⟩⟩⟩⟩⟩
end ZR1
