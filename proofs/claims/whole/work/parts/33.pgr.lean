/-! the reference's grid: what the parser keeps, and the change of grids -/
def zXlo (o : Nat) : Nat → Int32 → zM → Int32 × zM
  | 0, f, m => (f, m)
  | d + 1, f, m => if f = 0 ∨ zI m 628 o 0 = 0 then (f, m) else zXlo o d (zXl m o).1 (zXl m o).2
/-- all but the parser's own fields stays -/
def zPf (m m' : zM) : Prop := (∀ f, ¬ (625 ≤ f ∧ f ≤ 633 ∧ f ≠ 626) → ¬ (1635 ≤ f ∧ f ≤ 1640) → ∀ a j, zI m' f a j = zI m f a j) ∧ (∀ f, f ≠ 630 → ∀ a j, zJ m' f a j = zJ m f a j)
theorem zPf_rf {m : zM} : zPf m m := ⟨fun _ _ _ _ _ => rfl, fun _ _ _ _ => rfl⟩
theorem zPf_tr {m m1 m2 : zM} (h : zPf m m1) (h2 : zPf m1 m2) : zPf m m2 := ⟨fun f a b c d => (h2.1 f a b c d).trans (h.1 f a b c d), fun f a b c => (h2.2 f a b c).trans (h.2 f a b c)⟩
theorem zPf_s {m : zM} {f a j : Nat} {v : Int32} (h : (625 ≤ f ∧ f ≤ 633 ∧ f ≠ 626) ∨ (1635 ≤ f ∧ f ≤ 1640)) : zPf m (zsI m f a j v) := ⟨fun f' h1 h2 a' j' => zI_n (fun e => by subst e; exact h.elim h1 h2), fun _ _ _ _ => rfl⟩
theorem zPf_nx {m : zM} {o : Nat} : zPf m (zRnx m o) := ⟨fun f h1 h2 a j => zRnx_I (by omega) (by omega) (by omega) (by omega) a j, fun f h a j => zRnx_J h a j⟩
theorem zPf_w {m : zM} {o : Nat} : zPf m (zXw m o) := zPf_s (by decide)
theorem zPf_la {m : zM} {o : Nat} {x : Int32} : zPf m (zXla m o x) := ⟨fun f h1 h2 a j => zXla_I (by omega) (by omega) a j, fun f _ a j => zXla_J f a j⟩
theorem zPf_227 {m : zM} {o l n : Nat} {no w s than : Int32} : zPf m (zX227 m o l n no w s than) := by
  unfold zX227 zX269
  split
  · exact zPf_tr zPf_nx (zPf_tr (zPf_s (by decide)) (zPf_tr (zPf_s (by decide)) (zPf_tr (zPf_s (by decide)) (zPf_s (by decide)))))
  · exact zPf_nx
theorem zPf_186 {m : zM} {o l n : Nat} {no w s : Int32} : zPf m (zX186 m o l n no w s).2 := by
  unfold zX186
  split
  · refine zPf_tr ?_ zPf_227
    split
    · exact zPf_la
    · exact zPf_rf
  · exact zPf_w
theorem zPf_115 {m : zM} {o l n : Nat} {no w : Int32} : zPf m (zX115 m o l n no w).2 := by
  unfold zX115
  split
  · exact zPf_w
  · split
    · exact zPf_tr zPf_nx zPf_186
    · split
      · exact zPf_tr zPf_nx (zPf_tr zPf_nx zPf_186)
      · exact zPf_tr zPf_nx zPf_w
theorem zPf_t {m : zM} {o l n : Nat} : zPf m (zXt m o l n).2 := by
  have h : ∀ M, zPf M (zX30 M o l n).2 := fun M => by
    unfold zX30
    split
    · exact zPf_tr zPf_nx zPf_115
    · exact zPf_115
  unfold zXt
  split
  · exact zPf_tr zPf_la (h _)
  · exact h _
/-! numbers -/
theorem zvl_N {T : Nat → Int32} {n b : Nat} : ∀ k, k ≤ 4 → (∀ i, b ≤ i → i < b + k → zqd T n i = true) → ∃ q, q < 10 ^ k ∧ zvl T b k = nI q
  | 0, _, _ => ⟨0, by omega, rfl⟩
  | k + 1, hk, h => by
    obtain ⟨q, h1, h2⟩ := zvl_N k (by omega) (fun i h3 h4 => h i h3 (by omega))
    obtain ⟨h5, h6⟩ := zqd_t.1 (h (b + k) (by omega) (by omega))
    have hlt : b + k < n := by
      rcases Nat.lt_or_ge (b + k) n with z | z
      · exact z
      · rw [zse_o z] at h5
        exact absurd h5 (by decide)
    have e : zse T n (b + k) = T (b + k) &&& 255 := if_pos hlt
    rw [e] at h5 h6
    obtain ⟨d, hd, e2⟩ := pk_andE (T (b + k)) (m := 255) 8 (by decide)
    rw [e2, show (48 : Int32) = nI 48 from rfl, nI_leI (by omega) (by omega)] at h5
    rw [e2, show (57 : Int32) = nI 57 from rfl, nI_leI (by omega) (by omega)] at h6
    refine ⟨10 * q + d - 48, ?_, ?_⟩
    · rw [Nat.pow_succ]
      omega
    · rw [zvl, if_pos (by omega), h2, e2, show (10 : Int32) = nI 10 from rfl, pk_mul, nI_add, show (48 : Int32) = nI 48 from rfl, pk_sub (by omega)]
theorem zRtk_3 {m : zM} {o : Nat} {T : Nat → Int32} {n b : Nat} (h : zI (zRtk m o T n b) 628 o 0 = 3) : ∃ q, q ≤ 9999 ∧ zI (zRtk m o T n b) 629 o 0 = nI q := by
  unfold zRtk at h ⊢
  split at h
  · rw [zI_e] at h; exact absurd h (by decide)
  split at h
  · rw [zI_e] at h; exact absurd h (by decide)
  split at h
  · rename_i q0 ql qd
    rw [zI_e] at h
    split at h
    · rename_i h4
      rw [if_neg q0, if_neg ql, if_pos qd]
      obtain ⟨q, h1, h2⟩ := zvl_N (T := T) (n := n) (b := b) (zTd T n b - b) h4 (fun i h5 h6 => by
        refine zrun_in (n - b) b i h5 ?_
        have : b ≤ zTd T n b := (zrun_le (Q := zqd T n) (n - b) b).1
        show i < zTd T n b
        omega)
      refine ⟨q, ?_, ?_⟩
      · have : 10 ^ (zTd T n b - b) ≤ 10 ^ 4 := Nat.pow_le_pow_right (by decide) h4
        omega
      · rw [zI_n (by decide), zTL_629]
        exact h2
    · exact absurd h (by decide)
  · rw [zI_e] at h
    unfold zsg at h
    split at h
    · exact absurd h (by decide)
    · exact absurd h (by decide)
/-- the reference's parser between two lines -/
def zIv (m : zM) (o N : Nat) : Prop := zI m 634 o 0 = nI N ∧ (zI m 632 o 0 = 0 ∨ 0 < zI m 632 o 0) ∧ (zI m 632 o 0 = 0 → N ≤ 16 ∧ zGok (zI m 1639 o) (zI m 1640 o) (zI m 1635 o) N)
/-- within line l = N, n tests are read -/
def zIw (m : zM) (o N n : Nat) : Prop := zI m 634 o 0 = nI N ∧ (zI m 632 o 0 = 0 ∨ 0 < zI m 632 o 0) ∧ (zI m 632 o 0 = 0 → N < 16 ∧ n ≤ 4 ∧ zI m 1635 o N = nI n ∧ zGok (zI m 1639 o) (zI m 1640 o) (zI m 1635 o) N)
/-- a change that spares these rows -/
theorem zIw_f {m m' : zM} {o N n : Nat} (h : zIw m o N n) (h1 : ∀ f, f = 634 ∨ f = 632 ∨ f = 1635 ∨ f = 1639 ∨ f = 1640 → zI m' f o = zI m f o) : zIw m' o N n := by
  unfold zIw at h ⊢
  rw [h1 634 (by omega), h1 632 (by omega), h1 1635 (by omega), h1 1639 (by omega), h1 1640 (by omega)]
  exact h
theorem zIw_la {m : zM} {o N n : Nat} {x : Int32} (h : zIw m o N n) (hx : 0 < x) : zIw (zXla m o x) o N n := by
  unfold zXla
  split
  · rename_i q
    refine ⟨(zI_n (by decide)).trans ((zI_n (by decide)).trans h.1), Or.inr ?_, fun z => ?_⟩
    · rw [zI_n (by decide), zI_e]; exact hx
    · rw [zI_n (by decide), zI_e] at z
      rw [z] at hx
      exact absurd hx (by decide)
  · exact h
theorem zIw_nx {m : zM} {o N n : Nat} (h : zIw m o N n) : zIw (zRnx m o) o N n := zIw_f h (fun f hf => funext fun j => zRnx_I (by omega) (by omega) (by omega) (by omega) o j)
theorem zXln_e {m : zM} {o N : Nat} (h : zI m 634 o 0 = nI N) (hN : N ≤ 800) : zXln m o = if 16 ≤ N then 16 else N := by
  unfold zXln
  rw [h, nI_clamp (by omega)]
/-- what the tests of a line keep: a count of n is right when n ≤ 4 and no later fault stands -/
def zIt4 (m : zM) (o N n : Nat) : Prop := zI m 634 o 0 = nI N ∧ (zI m 632 o 0 = 0 ∨ 0 < zI m 632 o 0) ∧ (zI m 632 o 0 = 0 → N < 16 ∧ n < 4 ∧ zI m 1635 o N = nI n ∧ zGok (zI m 1639 o) (zI m 1640 o) (zI m 1635 o) N)
theorem zIt4_f {m m' : zM} {o N n : Nat} (h : zIt4 m o N n) (h1 : ∀ f, f = 634 ∨ f = 632 ∨ f = 1635 ∨ f = 1639 ∨ f = 1640 → zI m' f o = zI m f o) : zIt4 m' o N n := by
  unfold zIt4 at h ⊢
  rw [h1 634 (by omega), h1 632 (by omega), h1 1635 (by omega), h1 1639 (by omega), h1 1640 (by omega)]
  exact h
theorem zIt4_la {m : zM} {o N n : Nat} {x : Int32} (h : zIt4 m o N n) (hx : 0 < x) : zIt4 (zXla m o x) o N n := by
  unfold zXla
  split
  · refine ⟨(zI_n (by decide)).trans ((zI_n (by decide)).trans h.1), Or.inr ?_, fun z => ?_⟩
    · rw [zI_n (by decide), zI_e]; exact hx
    · rw [zI_n (by decide), zI_e] at z
      rw [z] at hx
      exact absurd hx (by decide)
  · exact h
theorem zIt4_nx {m : zM} {o N n : Nat} (h : zIt4 m o N n) : zIt4 (zRnx m o) o N n := zIt4_f h (fun f hf => funext fun j => zRnx_I (by omega) (by omega) (by omega) (by omega) o j)
theorem zGok_up {ac am te te' : Nat → Int32} {N : Nat} (h : zGok ac am te N) (he : ∀ l, l < N → te' l = te l) : zGok ac am te' N := fun l hl => by
  obtain ⟨t, a, q, h1, h2, h3, h4, h5, h6⟩ := h l hl
  exact ⟨t, a, q, h1, h2, h3, (he l hl).trans h4, h5, h6⟩
theorem zIw_227 {m : zM} {o N n l : Nat} {no w s than : Int32} (h : zIt4 m o N n) (hl : zI m 632 o 0 = 0 → l = N) : zIw (zX227 m o l n no w s than) o N (n + 1) := by
  have h2 := zIt4_nx h
  have e632 : zI (zRnx m o) 632 o 0 = zI m 632 o 0 := zRnx_I (by decide) (by decide) (by decide) (by decide) _ _
  unfold zX227
  split
  · rename_i q
    unfold zX269
    refine ⟨(zI_n (by decide)).trans ((zI_n (by decide)).trans ((zI_n (by decide)).trans ((zI_n (by decide)).trans h2.1))), ?_, fun z => ?_⟩
    · rw [zI_n (by decide), zI_n (by decide), zI_n (by decide), zI_n (by decide)]
      exact h2.2.1
    · rw [zI_n (by decide), zI_n (by decide), zI_n (by decide), zI_n (by decide)] at z
      obtain ⟨h3, h4, h5, h6⟩ := h2.2.2 z
      have el := hl (e632.symm.trans z)
      subst el
      refine ⟨h3, by omega, by rw [zI_e], ?_⟩
      have e1 : zI (zsI (zsI (zsI (zsI (zRnx m o) 1636 o (4 * l + n) (if no = 0 then w else w + 8)) 1637 o (4 * l + n) s) 1638 o (4 * l + n) than) 1635 o l (nI (n + 1))) 1639 o = zI (zRnx m o) 1639 o := funext fun j => by rw [zI_n (by decide), zI_n (by decide), zI_n (by decide), zI_n (by decide)]
      have e2 : zI (zsI (zsI (zsI (zsI (zRnx m o) 1636 o (4 * l + n) (if no = 0 then w else w + 8)) 1637 o (4 * l + n) s) 1638 o (4 * l + n) than) 1635 o l (nI (n + 1))) 1640 o = zI (zRnx m o) 1640 o := funext fun j => by rw [zI_n (by decide), zI_n (by decide), zI_n (by decide), zI_n (by decide)]
      rw [e1, e2]
      refine zGok_up h6 (fun l' hl' => ?_)
      rw [zI_sI, if_neg (by omega), zI_n (by decide), zI_n (by decide), zI_n (by decide)]
  · rename_i q
    refine ⟨h2.1, h2.2.1, fun z => ?_⟩
    obtain ⟨h3, h4, h5, h6⟩ := h2.2.2 z
    have el := hl (e632.symm.trans z)
    exact absurd ⟨h4, by omega⟩ q
theorem zIw_186 {m : zM} {o N n l : Nat} {no w s : Int32} (h : zIt4 m o N n) (hl : zI m 632 o 0 = 0 → l = N) (hs : ¬ (zX186 m o l n no w s).1 = 0) : zIw (zX186 m o l n no w s).2 o N (n + 1) := by
  unfold zX186 at hs ⊢
  split
  · refine zIw_227 ?_ ?_
    · split
      · exact zIt4_la h (by decide)
      · exact h
    · split
      · unfold zXla
        split
        · intro z
          rw [zI_n (by decide), zI_e] at z
          exact absurd z (by decide)
        · exact hl
      · exact hl
  · rename_i q
    rw [if_neg q] at hs
    exact absurd rfl hs
theorem zIw_115 {m : zM} {o N n l : Nat} {no w : Int32} (h : zIt4 m o N n) (hl : zI m 632 o 0 = 0 → l = N) (hs : ¬ (zX115 m o l n no w).1 = 0) : zIw (zX115 m o l n no w).2 o N (n + 1) := by
  have e632 : ∀ M : zM, zI (zRnx M o) 632 o 0 = zI M 632 o 0 := fun M => zRnx_I (by decide) (by decide) (by decide) (by decide) _ _
  unfold zX115 at hs ⊢
  by_cases q1 : w = -1
  · rw [if_pos q1] at hs; exact absurd rfl hs
  rw [if_neg q1] at hs ⊢
  by_cases q2 : 5 ≤ w
  · rw [if_pos q2] at hs ⊢
    exact zIw_186 (zIt4_nx h) (by rw [e632]; exact hl) hs
  rw [if_neg q2] at hs ⊢
  by_cases q3 : zI (zRnx m o) 628 o 0 = 4 ∧ (zI (zRnx m o) 629 o 0 = 60 ∨ zI (zRnx m o) 629 o 0 = 62 ∨ zI (zRnx m o) 629 o 0 = 61)
  · rw [if_pos q3] at hs ⊢
    exact zIw_186 (zIt4_nx (zIt4_nx h)) (by rw [e632, e632]; exact hl) hs
  · rw [if_neg q3] at hs; exact absurd rfl hs
theorem zIw_30 {m : zM} {o N n l : Nat} (h : zIt4 m o N n) (hl : zI m 632 o 0 = 0 → l = N) (hs : ¬ (zX30 m o l n).1 = 0) : zIw (zX30 m o l n).2 o N (n + 1) := by
  have e632 : ∀ M : zM, zI (zRnx M o) 632 o 0 = zI M 632 o 0 := fun M => zRnx_I (by decide) (by decide) (by decide) (by decide) _ _
  unfold zX30 at hs ⊢
  by_cases q : zXi m o 7237492
  · rw [if_pos q] at hs ⊢
    exact zIw_115 (zIt4_nx h) (by rw [e632]; exact hl) hs
  · rw [if_neg q] at hs ⊢
    exact zIw_115 h hl hs
theorem zIw_t {m : zM} {o N n l : Nat} (h : zIw m o N n) (hl : zI m 632 o 0 = 0 → l = N) (hs : ¬ (zXt m o l n).1 = 0) : zIw (zXt m o l n).2 o N (n + 1) := by
  unfold zXt at hs ⊢
  by_cases q : n = 4
  · rw [if_pos q] at hs ⊢
    have h2 := zIw_la h (x := 3) (by decide)
    have n0 : ¬ zI (zXla m o 3) 632 o 0 = 0 := by
      unfold zXla
      split
      · rw [zI_n (by decide), zI_e]; decide
      · assumption
    exact zIw_30 ⟨h2.1, h2.2.1, fun z => absurd z n0⟩ (fun z => absurd z n0) hs
  · rw [if_neg q] at hs ⊢
    exact zIw_30 ⟨h.1, h.2.1, fun z => by obtain ⟨h3, h4, h5, h6⟩ := h.2.2 z; exact ⟨h3, by omega, h5, h6⟩⟩ hl hs
/-- the end of a line -/
theorem zX228_v {m : zM} {o n p N : Nat} (hx : zRp m o n p) (hN : zI m 634 o 0 = nI N) (hs : ¬ (zX228 m o).1 = 0) (h2 : zI m 632 o 0 = 0 ∨ 0 < zI m 632 o 0) (h3 : zI m 632 o 0 = 0 → N + 1 ≤ 16 ∧ zGok (zI m 1639 o) (zI m 1640 o) (zI m 1635 o) (N + 1)) : zIv (zX228 m o).2 o (N + 1) ∧ zI m 628 o 0 = 4 ∧ ∃ p', p ≤ p' ∧ zRp (zX228 m o).2 o n p' := by
  unfold zX228 zXnd at hs ⊢
  by_cases q : zXs (zsI m 634 o 0 (zI m 634 o 0 + 1)) o 59
  · rw [if_pos q]
    have hx2 : zRp (zsI m 634 o 0 (zI m 634 o 0 + 1)) o n p := zRp_ext hx (zI_n (by decide)) (zI_n (by decide))
    obtain ⟨p2, h4, h5, -⟩ := zRp_nx hx2
    have fr : ∀ f, f ≠ 634 → ¬ (625 ≤ f ∧ f ≤ 629) → zI (zRnx (zsI m 634 o 0 (zI m 634 o 0 + 1)) o) f o = zI m f o := fun f h6 h7 => funext fun j => (zRnx_I (by omega) (by omega) (by omega) (by omega) _ _).trans (zI_n h6)
    refine ⟨⟨?_, ?_, ?_⟩, ?_, p2, h4, h5⟩
    · refine (zRnx_I (by decide) (by decide) (by decide) (by decide) _ _).trans (zI_e.trans ?_)
      rw [hN, ← nI_succ]
    · show zI (zRnx (zsI m 634 o 0 (zI m 634 o 0 + 1)) o) 632 o 0 = 0 ∨ 0 < zI (zRnx (zsI m 634 o 0 (zI m 634 o 0 + 1)) o) 632 o 0
      rw [fr 632 (by decide) (by decide)]
      exact h2
    · show zI (zRnx (zsI m 634 o 0 (zI m 634 o 0 + 1)) o) 632 o 0 = 0 → _
      rw [fr 632 (by decide) (by decide)]
      intro z
      show N + 1 ≤ 16 ∧ zGok (zI (zRnx (zsI m 634 o 0 (zI m 634 o 0 + 1)) o) 1639 o) (zI (zRnx (zsI m 634 o 0 (zI m 634 o 0 + 1)) o) 1640 o) (zI (zRnx (zsI m 634 o 0 (zI m 634 o 0 + 1)) o) 1635 o) (N + 1)
      rw [fr 1639 (by decide) (by decide), fr 1640 (by decide) (by decide), fr 1635 (by decide) (by decide)]
      exact h3 z
    · exact (zI_n (by decide)).symm.trans q.1
  · rw [if_neg q] at hs
    exact absurd rfl hs
/-- the act of a line -/
theorem zX102_v {m : zM} {o n p N k l : Nat} (hx : zRp m o n p) (h : zIw m o N k) (hl : zI m 632 o 0 = 0 → l = N) (hs : ¬ (zX102 m o l).1 = 0) : zIv (zX102 m o l).2 o (N + 1) ∧ ∃ p', p < p' ∧ zRp (zX102 m o l).2 o n p' := by
  have ha := zXac_s m o
  unfold zX102 at hs ⊢
  generalize zXac m o = a at hs ha ⊢
  unfold zX164 at hs ⊢
  by_cases q1 : a = -1
  · rw [if_pos q1] at hs; exact absurd rfl hs
  rw [if_neg q1] at hs ⊢
  obtain ⟨ka, hka, ha⟩ := ha.resolve_left q1
  have hx1 : zRp (zsI m 1639 o l a) o n p := zRp_ext hx (zI_n (by decide)) (zI_n (by decide))
  obtain ⟨p2, h2, h3, h4⟩ := zRp_nx hx1
  have fr : ∀ f, f ≠ 1639 → ¬ (625 ≤ f ∧ f ≤ 629) → zI (zRnx (zsI m 1639 o l a) o) f o = zI m f o := fun f h6 h7 => funext fun j => (zRnx_I (by omega) (by omega) (by omega) (by omega) _ _).trans (zI_n h6)
  have f39 : ∀ j, zI (zRnx (zsI m 1639 o l a) o) 1639 o j = if j = l then a else zI m 1639 o j := fun j => (zRnx_I (by decide) (by decide) (by decide) (by decide) _ _).trans (by
    rw [zI_sI]
    by_cases e : j = l
    · rw [if_pos ⟨rfl, rfl, e⟩, if_pos e]
    · rw [if_neg (fun z => e z.2.2), if_neg e])
  -- the rows at the end, out of the number
  have ok : ∀ (M : zM) (v : Nat), v ≤ 9999 → zI m 632 o 0 = 0 → (∀ j, zI M 1639 o j = if j = l then a else zI m 1639 o j) → (∀ j, zI M 1640 o j = if j = l then nI v else zI m 1640 o j) → zI M 1635 o = zI m 1635 o → N + 1 ≤ 16 ∧ zGok (zI M 1639 o) (zI M 1640 o) (zI M 1635 o) (N + 1) := by
    intro M v hv z e39 e40 e35
    obtain ⟨h5, h6, h7, h8⟩ := h.2.2 z
    have el := hl z
    subst el
    refine ⟨by omega, fun l' hl' => ?_⟩
    rw [e39, e40, e35]
    by_cases e : l' = l
    · rw [if_pos e, if_pos e, e]
      exact ⟨k, ka, v, h6, hka, hv, h7, ha, rfl⟩
    · rw [if_neg e, if_neg e]
      exact h8 l' (by omega)
  by_cases q3 : 3 ≤ a
  · rw [if_pos q3] at hs ⊢
    obtain ⟨r1, r2, p3, r3, r4⟩ := zX228_v (N := N) (zRp_ext h3 (zI_n (by decide)) (zI_n (by decide))) ((zI_n (by decide)).trans (by rw [fr 634 (by decide) (by decide)]; exact h.1)) hs (by
      rw [zI_n (by decide), fr 632 (by decide) (by decide)]; exact h.2.1) (by
      rw [zI_n (by decide), fr 632 (by decide) (by decide)]
      intro z
      refine ok _ 0 (by omega) z (fun j => (zI_n (by decide)).trans (f39 j)) (fun j => ?_) (funext fun j => (zI_n (by decide)).trans (by rw [fr 1635 (by decide) (by decide)]))
      rw [zI_sI]
      by_cases e : j = l
      · rw [if_pos ⟨rfl, rfl, e⟩, if_pos e]; rfl
      · rw [if_neg (fun z => e z.2.2), if_neg e, fr 1640 (by decide) (by decide)])
    rw [zI_n (by decide)] at r2
    exact ⟨r1, p3, by have := h4 (by rw [r2]; decide); omega, r4⟩
  · rw [if_neg q3] at hs ⊢
    by_cases q4 : zI (zRnx (zsI m 1639 o l a) o) 628 o 0 = 3
    · rw [if_pos q4] at hs ⊢
      have hp2 := h4 (by rw [q4]; decide)
      obtain ⟨v, hv, ev⟩ := zRtk_3 (m := zsI m 1639 o l a) q4
      have ev : zI (zRnx (zsI m 1639 o l a) o) 629 o 0 = nI v := ev
      rw [ev] at hs ⊢
      generalize hm2 : zRnx (zsI m 1639 o l a) o = m2 at *
      have hx6 : zRp (zsI (zsI m2 1640 o l 0) 1640 o l (nI v)) o n p2 := zRp_ext h3 ((zI_n (by decide)).trans (zI_n (by decide))) ((zI_n (by decide)).trans (zI_n (by decide)))
      obtain ⟨p3, h5, h6, -⟩ := zRp_nx hx6
      have fr2 : ∀ f, f ≠ 1640 → ¬ (625 ≤ f ∧ f ≤ 629) → zI (zRnx (zsI (zsI m2 1640 o l 0) 1640 o l (nI v)) o) f o = zI m2 f o := fun f h6 h7 => funext fun j => (zRnx_I (by omega) (by omega) (by omega) (by omega) _ _).trans ((zI_n h6).trans (zI_n h6))
      obtain ⟨r1, r2, p4, r3, r4⟩ := zX228_v (N := N) h6 (by rw [fr2 634 (by decide) (by decide), fr 634 (by decide) (by decide)]; exact h.1) hs (by
        rw [fr2 632 (by decide) (by decide), fr 632 (by decide) (by decide)]; exact h.2.1) (by
        rw [fr2 632 (by decide) (by decide), fr 632 (by decide) (by decide)]
        intro z
        refine ok _ v hv z (fun j => by rw [fr2 1639 (by decide) (by decide)]; exact f39 j) (fun j => ?_) (by rw [fr2 1635 (by decide) (by decide), fr 1635 (by decide) (by decide)])
        refine (zRnx_I (by decide) (by decide) (by decide) (by decide) _ _).trans ?_
        rw [zI_sI, zI_sI]
        by_cases e : j = l
        · rw [if_pos ⟨rfl, rfl, e⟩, if_pos e]
        · rw [if_neg (fun z => e z.2.2), if_neg (fun z => e z.2.2), if_neg e, fr 1640 (by decide) (by decide)])
      exact ⟨r1, p4, by omega, r4⟩
    · rw [if_neg q4] at hs; exact absurd rfl hs
theorem zX58_v {o n N l : Nat} : ∀ d (more : Bool) k m p, zRp m o n p → zIw m o N k → (zI m 632 o 0 = 0 → l = N) → ¬ (zX58 o l d more k m).1 = 0 → zIv (zX58 o l d more k m).2 o (N + 1) ∧ ∃ p', p < p' ∧ zRp (zX58 o l d more k m).2 o n p' := by
  intro d
  induction d with
  | zero => intro more k m p _ _ _ hs; exact absurd rfl hs
  | succ d ih =>
    intro more k m p hx h hl hs
    rw [zX58] at hs ⊢
    obtain ⟨p2, h2, h3, -⟩ := zRp_nx hx
    have e632 : ∀ M : zM, zI (zRnx M o) 632 o 0 = zI M 632 o 0 := fun M => zRnx_I (by decide) (by decide) (by decide) (by decide) _ _
    by_cases q : more = true
    · rw [if_pos q] at hs ⊢
      by_cases q2 : (zXt (zRnx m o) o l k).1 = 0
      · rw [if_pos q2] at hs; exact absurd rfl hs
      · rw [if_neg q2] at hs ⊢
        obtain ⟨p3, h4, h5⟩ := zXt_p h3 q2
        have h6 := zIw_t (zIw_nx h) (by rw [e632]; exact hl) q2
        have hl2 : zI (zXt (zRnx m o) o l k).2 632 o 0 = 0 → l = N := by
          intro z
          refine hl ?_
          -- a later fault stays
          have key : ∀ M : zM, ∀ M' : zM, (¬ zI M 632 o 0 = 0 → ¬ zI M' 632 o 0 = 0) → zI M' 632 o 0 = 0 → zI M 632 o 0 = 0 := fun M M' h z => Decidable.byContradiction fun q => h q z
          have nx : ∀ M : zM, ¬ zI M 632 o 0 = 0 → ¬ zI (zRnx M o) 632 o 0 = 0 := fun M h => by rw [e632]; exact h
          have la : ∀ (M : zM) (x : Int32), ¬ zI M 632 o 0 = 0 → ¬ zI (zXla M o x) 632 o 0 = 0 := fun M x h => by
            unfold zXla; rw [if_neg h]; exact h
          have w : ∀ M : zM, ¬ zI M 632 o 0 = 0 → ¬ zI (zXw M o) 632 o 0 = 0 := fun M h => by
            unfold zXw; rw [zI_n (by decide)]; exact h
          have a227 : ∀ (M : zM) (no w s than : Int32), ¬ zI M 632 o 0 = 0 → ¬ zI (zX227 M o l k no w s than) 632 o 0 = 0 := fun M no w s than h => by
            unfold zX227 zX269
            split
            · rw [zI_n (by decide), zI_n (by decide), zI_n (by decide), zI_n (by decide)]; exact nx M h
            · exact nx M h
          have a186 : ∀ (M : zM) (no w s : Int32), ¬ zI M 632 o 0 = 0 → ¬ zI (zX186 M o l k no w s).2 632 o 0 = 0 := fun M no w' s h => by
            unfold zX186
            split
            · refine a227 _ _ _ _ _ ?_
              split
              · exact la M 2 h
              · exact h
            · exact w M h
          have a115 : ∀ (M : zM) (no w : Int32), ¬ zI M 632 o 0 = 0 → ¬ zI (zX115 M o l k no w).2 632 o 0 = 0 := fun M no w' h => by
            unfold zX115
            split
            · exact w M h
            split
            · exact a186 _ _ _ _ (nx M h)
            split
            · exact a186 _ _ _ _ (nx _ (nx M h))
            · exact w _ (nx M h)
          have a30 : ∀ (M : zM), ¬ zI M 632 o 0 = 0 → ¬ zI (zX30 M o l k).2 632 o 0 = 0 := fun M h => by
            unfold zX30
            split
            · exact a115 _ _ _ (nx M h)
            · exact a115 _ _ _ h
          have at' : ∀ (M : zM), ¬ zI M 632 o 0 = 0 → ¬ zI (zXt M o l k).2 632 o 0 = 0 := fun M h => by
            unfold zXt
            split
            · exact a30 _ (la M 3 h)
            · exact a30 _ h
          exact key m _ (fun h => at' _ (nx m h)) z
        obtain ⟨r1, p4, r2, r3⟩ := ih _ _ _ p3 h5 h6 hl2 hs
        exact ⟨r1, p4, by omega, r3⟩
    · rw [if_neg q] at hs ⊢
      by_cases q2 : zXs m o 58
      · rw [if_pos q2] at hs ⊢
        obtain ⟨r1, p4, r2, r3⟩ := zX102_v h3 (zIw_nx h) (by rw [e632]; exact hl) hs
        exact ⟨r1, p4, by omega, r3⟩
      · rw [if_neg q2] at hs; exact absurd rfl hs
theorem zXl_v {m : zM} {o n p N : Nat} (hx : zRp m o n p) (hN : N ≤ 400) (h : zIv m o N) (hs : ¬ (zXl m o).1 = 0) : zIv (zXl m o).2 o (N + 1) ∧ ∃ p', p < p' ∧ zRp (zXl m o).2 o n p' := by
  unfold zXl at hs ⊢
  rw [zXln_e h.1 (by omega)] at hs ⊢
  -- the memory at the line's start
  have start : ∀ M : zM, M = (if zI m 634 o 0 = 16 then zXla m o 3 else m) → zRp M o n p ∧ zI M 634 o 0 = nI N ∧ (zI M 632 o 0 = 0 ∨ 0 < zI M 632 o 0) ∧ (zI M 632 o 0 = 0 → N < 16 ∧ zGok (zI M 1639 o) (zI M 1640 o) (zI M 1635 o) N) := by
    intro M hM
    by_cases q : N = 16
    · rw [if_pos (by rw [h.1, q]; rfl)] at hM
      subst hM
      refine ⟨zXla_p hx, (zXla_I (by decide) (by decide) _ _).trans h.1, ?_, fun z => ?_⟩
      · unfold zXla
        split
        · right; rw [zI_n (by decide), zI_e]; decide
        · exact h.2.1
      · exfalso
        unfold zXla at z
        split at z
        · rw [zI_n (by decide), zI_e] at z
          exact absurd z (by decide)
        · rename_i y; exact y z
    · rw [if_neg (by rw [h.1, show (16 : Int32) = nI 16 from rfl, nI_eq (by omega) (by omega)]; exact q)] at hM
      subst hM
      refine ⟨hx, h.1, h.2.1, fun z => ?_⟩
      obtain ⟨h1, h2⟩ := h.2.2 z
      exact ⟨by omega, h2⟩
  generalize hM : (if zI m 634 o 0 = 16 then zXla m o 3 else m) = M at hs ⊢
  obtain ⟨hx1, hN1, h21, h31⟩ := start M hM.symm
  generalize hl : (if 16 ≤ N then 16 else N) = l at hs ⊢
  have hlN : zI M 632 o 0 = 0 → l = N := fun z => by
    have := (h31 z).1
    rw [← hl, if_neg (by omega)]
  have hx2 : zRp (zsI M 1635 o l 0) o n p := zRp_ext hx1 (zI_n (by decide)) (zI_n (by decide))
  have hw : zIw (zsI M 1635 o l 0) o N 0 := by
    refine ⟨(zI_n (by decide)).trans hN1, by rw [zI_n (by decide)]; exact h21, fun z => ?_⟩
    rw [zI_n (by decide)] at z
    obtain ⟨h1, h2⟩ := h31 z
    have el := hlN z
    subst el
    refine ⟨h1, by omega, by rw [zI_e]; rfl, ?_⟩
    have e1 : zI (zsI M 1635 o l 0) 1639 o = zI M 1639 o := funext fun j => zI_n (by decide)
    have e2 : zI (zsI M 1635 o l 0) 1640 o = zI M 1640 o := funext fun j => zI_n (by decide)
    rw [e1, e2]
    exact zGok_up h2 (fun l' hl' => by rw [zI_sI, if_neg (by omega)])
  have hl2 : zI (zsI M 1635 o l 0) 632 o 0 = 0 → l = N := by rw [zI_n (by decide)]; exact hlN
  unfold zX37 at hs ⊢
  by_cases q : zXi (zsI M 1635 o l 0) o 2003330414
  · rw [if_pos q] at hs ⊢
    exact zX58_v 500 true 0 _ p hx2 hw hl2 hs
  · rw [if_neg q] at hs ⊢
    exact zX102_v hx2 hw hl2 hs
