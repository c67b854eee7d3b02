/-! the reference's parser: pure functions over its memory -/
abbrev zXi (m : zM) (o : Nat) (w : Int64) : Prop := zI m 628 o 0 = 2 ∧ zJ m 630 o 0 = w
abbrev zXs (m : zM) (o : Nat) (c : Int32) : Prop := zI m 628 o 0 = 4 ∧ zI m 629 o 0 = c
def zXw (m : zM) (o : Nat) : zM := zsI m 631 o 0 (zI m 627 o 0)
def zXla (m : zM) (o : Nat) (f : Int32) : zM := if zI m 632 o 0 = 0 then zsI (zsI m 632 o 0 f) 633 o 0 (zI m 627 o 0) else m
def zXnd (m : zM) (o : Nat) (c : Int32) : Int32 × zM := if zXs m o c then (1, zRnx m o) else (0, zXw m o)
def zXsu (m : zM) (o : Nat) : Int32 := if zXi m o 1802071652 then 0 else if zXi m o 521391927923 then 1 else if zXi m o 1818326117 then 2 else if zXi m o 123563799835251 then 3 else if zXi m o 7566701 then 4 else if zXi m o 482671093106 then 5 else -1
def zXac (m : zM) (o : Nat) : Int32 := if zXi m o 123623812527219 then 0 else if zXi m o 1836020325 then 1 else if zXi m o 499984983411 then 2 else if zXi m o 1852796517 then 3 else -1
def zX269 (m : zM) (o l n : Nat) (no w s than : Int32) : zM := zsI (zsI (zsI (zsI m 1636 o (4 * l + n) (if no = 0 then w else w + 8)) 1637 o (4 * l + n) s) 1638 o (4 * l + n) than) 1635 o l (nI (n + 1))
def zX227 (m : zM) (o l n : Nat) (no w s than : Int32) : zM := if n < 4 ∧ l < 16 then zX269 (zRnx m o) o l n no w s than else zRnx m o
def zX186 (m : zM) (o l n : Nat) (no w s : Int32) : Int32 × zM := if zI m 628 o 0 = 3 then (1, zX227 (if w = 5 ∧ ¬ zI m 629 o 0 < 6 then zXla m o 2 else m) o l n no w s (zI m 629 o 0)) else (0, zXw m o)
def zX115 (m : zM) (o l n : Nat) (no w : Int32) : Int32 × zM :=
  if w = -1 then (0, zXw m o) else if 5 ≤ w then zX186 (zRnx m o) o l n no w 61
  else if zI (zRnx m o) 628 o 0 = 4 ∧ (zI (zRnx m o) 629 o 0 = 60 ∨ zI (zRnx m o) 629 o 0 = 62 ∨ zI (zRnx m o) 629 o 0 = 61) then zX186 (zRnx (zRnx m o) o) o l n no w (zI (zRnx m o) 629 o 0)
  else (0, zXw (zRnx m o) o)
def zX30 (m : zM) (o l n : Nat) : Int32 × zM := if zXi m o 7237492 then zX115 (zRnx m o) o l n 1 (zXsu (zRnx m o) o) else zX115 m o l n 0 (zXsu m o)
def zXt (m : zM) (o l n : Nat) : Int32 × zM := if n = 4 then zX30 (zXla m o 3) o l n else zX30 m o l n
def zX228 (m : zM) (o : Nat) : Int32 × zM := zXnd (zsI m 634 o 0 (zI m 634 o 0 + 1)) o 59
def zX164 (m : zM) (o l : Nat) (a : Int32) : Int32 × zM :=
  if a = -1 then (0, zXw (zsI m 1639 o l a) o) else if 3 ≤ a then zX228 (zsI (zRnx (zsI m 1639 o l a) o) 1640 o l 0) o
  else if zI (zRnx (zsI m 1639 o l a) o) 628 o 0 = 3 then zX228 (zRnx (zsI (zsI (zRnx (zsI m 1639 o l a) o) 1640 o l 0) 1640 o l (zI (zRnx (zsI m 1639 o l a) o) 629 o 0)) o) o
  else (0, zXw (zsI (zRnx (zsI m 1639 o l a) o) 1640 o l 0) o)
def zX102 (m : zM) (o l : Nat) : Int32 × zM := zX164 m o l (zXac m o)
def zX58 (o l : Nat) : Nat → Bool → Nat → zM → Int32 × zM
  | 0, _, _, m => (0, m)
  | d + 1, more, n, m => if more = true then (if (zXt (zRnx m o) o l n).1 = 0 then (0, (zXt (zRnx m o) o l n).2) else zX58 o l d (decide (zXi (zXt (zRnx m o) o l n).2 o 6385252)) (n + 1) (zXt (zRnx m o) o l n).2) else if zXs m o 58 then zX102 (zRnx m o) o l else (0, zXw m o)
def zX37 (m : zM) (o l : Nat) : Int32 × zM := if zXi (zsI m 1635 o l 0) o 2003330414 then zX58 o l 500 true 0 (zsI m 1635 o l 0) else zX102 (zsI m 1635 o l 0) o l
def zXln (m : zM) (o : Nat) : Nat := if 16 ≤ (zI m 634 o 0).toNatClampNeg then 16 else (zI m 634 o 0).toNatClampNeg
def zXl (m : zM) (o : Nat) : Int32 × zM := zX37 (if zI m 634 o 0 = 16 then zXla m o 3 else m) o (zXln m o)
/-! what a token changes -/
theorem zRtk_I {m : zM} {o : Nat} {T : Nat → Int32} {n b f : Nat} (h1 : f ≠ 625) (h2 : f ≠ 627) (h3 : f ≠ 628) (h4 : f ≠ 629) (a j : Nat) : zI (zRtk m o T n b) f a j = zI m f a j := by
  unfold zRtk
  split
  · rw [zI_n h3, zTL_I h1 h2 h4]
  · split
    · rw [zI_n h3, zTL_I h1 h2 h4]
    · split
      · rw [zI_n h3, zTL_I h1 h2 h4]
      · rw [zI_n h3, zTL_I h1 h2 h4]
theorem zRnx_I {m : zM} {o f : Nat} (h1 : f ≠ 625) (h2 : f ≠ 627) (h3 : f ≠ 628) (h4 : f ≠ 629) (a j : Nat) : zI (zRnx m o) f a j = zI m f a j := zRtk_I h1 h2 h3 h4 a j
theorem zTL_J {m : zM} {o b e : Nat} {v : Int32} {w : Int64} {f : Nat} (h : f ≠ 630) (a j : Nat) : zJ (zTL m o b e v w) f a j = zJ m f a j := by
  unfold zTL
  rw [zJ_sI, zJ_n h, zJ_sI, zJ_sI]
theorem zRnx_J {m : zM} {o f : Nat} (h : f ≠ 630) (a j : Nat) : zJ (zRnx m o) f a j = zJ m f a j := by
  unfold zRnx zRtk
  split
  · rw [zJ_sI, zTL_J h]
  · split
    · rw [zJ_sI, zTL_J h]
    · split
      · rw [zJ_sI, zTL_J h]
      · rw [zJ_sI, zTL_J h]
theorem zTb_le {T : Nat → Int32} {n p : Nat} (h : p ≤ n) : p ≤ zTb T n p ∧ zTb T n p ≤ n := by
  have := zrun_le (Q := zqb T n) (n - p) p
  unfold zTb
  omega
theorem zTl_le {T : Nat → Int32} {n b : Nat} (h : b ≤ n) : b ≤ zTl T n b ∧ zTl T n b ≤ n := by
  have := zrun_le (Q := zql T n) (n - b) b
  unfold zTl
  omega
theorem zTd_le {T : Nat → Int32} {n b : Nat} (h : b ≤ n) : b ≤ zTd T n b ∧ zTd T n b ≤ n := by
  have := zrun_le (Q := zqd T n) (n - b) b
  unfold zTd
  omega
theorem zse_neg {T : Nat → Int32} {n b : Nat} : zse T n b < 0 ↔ n ≤ b := by
  unfold zse
  split
  · rename_i h
    have h2 := pk_and (T b) (m := 255) 8 (by decide)
    have h3 : (T b).toBitVec.toNat % 2 ^ 8 < 2 ^ 8 := Nat.mod_lt _ (by decide)
    rw [h2]
    have h4 := nI_pos (n := (T b).toBitVec.toNat % 2 ^ 8) (by omega)
    constructor
    · intro q; exact absurd q h4
    · intro q; omega
  · rename_i h
    constructor
    · intro _; omega
    · intro _; decide
theorem zTl_gt {T : Nat → Int32} {n b : Nat} (hb : b < n) (h : zql T n b = true) : b < zTl T n b := by
  unfold zTl
  rw [show n - b = (n - b - 1) + 1 by omega, zrun, if_pos h]
  have := zrun_le (Q := zql T n) (n - b - 1) (b + 1)
  omega
theorem zTd_gt {T : Nat → Int32} {n b : Nat} (hb : b < n) (h : zqd T n b = true) : b < zTd T n b := by
  unfold zTd
  rw [show n - b = (n - b - 1) + 1 by omega, zrun, if_pos h]
  have := zrun_le (Q := zqd T n) (n - b - 1) (b + 1)
  omega
/-- where the reference stands behind a token -/
theorem zRtk_p {m : zM} {o : Nat} {T : Nat → Int32} {n b : Nat} (hb : b ≤ n) : ∃ e, b ≤ e ∧ e ≤ n ∧ zI (zRtk m o T n b) 625 o 0 = nI e ∧ zI (zRtk m o T n b) 627 o 0 = nI b ∧ (¬ zI (zRtk m o T n b) 628 o 0 = 0 → b < e) ∧ (zI (zRtk m o T n b) 628 o 0 = 0 → b = n) := by
  have h1 := zTl_le (T := T) hb
  have h2 := zTd_le (T := T) hb
  have k27 : ∀ e v w s, zI (zsI (zTL m o b e v w) 628 o 0 s) 627 o 0 = nI b := fun e v w s => by
    rw [zI_n (by decide)]
    unfold zTL
    rw [zI_n (by decide), zI_sJ, zI_e]
  have k25 : ∀ e v w s, zI (zsI (zTL m o b e v w) 628 o 0 s) 625 o 0 = nI e := fun e v w s => by
    rw [zI_n (by decide), zTL_625]
  unfold zRtk
  split
  · rename_i q
    rw [zse_neg] at q
    exact ⟨b, by omega, by omega, k25 _ _ _ _, k27 _ _ _ _, fun z => absurd zI_e z, fun _ => by omega⟩
  · rename_i q
    rw [zse_neg] at q
    split
    · rename_i ql
      have := zTl_gt (by omega) ql
      exact ⟨_, h1.1, h1.2, k25 _ _ _ _, k27 _ _ _ _, fun _ => this, fun z => absurd (zI_e.symm.trans z) (by decide)⟩
    · split
      · rename_i qd
        have := zTd_gt (by omega) qd
        refine ⟨_, h2.1, h2.2, k25 _ _ _ _, k27 _ _ _ _, fun _ => this, fun z => absurd (zI_e.symm.trans z) ?_⟩
        split <;> decide
      · refine ⟨_, by omega, by omega, k25 _ _ _ _, k27 _ _ _ _, fun _ => by omega, fun z => absurd (zI_e.symm.trans z) ?_⟩
        unfold zsg
        split <;> decide
/-- the reference's reader: n bytes, behind the token it is at p -/
def zRp (m : zM) (o n p : Nat) : Prop := n ≤ 400 ∧ p ≤ n ∧ zI m 626 o 0 = nI n ∧ zI m 625 o 0 = nI p
theorem zRp_x {m : zM} {o n p : Nat} (h : zRp m o n p) : zRx m o := ⟨n, p, h⟩
theorem zRp_nx {m : zM} {o n p : Nat} (h : zRp m o n p) : ∃ p', p ≤ p' ∧ zRp (zRnx m o) o n p' ∧ (¬ zI (zRnx m o) 628 o 0 = 0 → p < p') := by
  obtain ⟨hn, hp, e1, e2⟩ := h
  have h1 := zTb_le (T := zI m 1601 o) hp
  obtain ⟨e, h3, h4, h5, h6, h7, h8⟩ := zRtk_p (m := m) (o := o) (T := zI m 1601 o) h1.2
  have hr : zRnx m o = zRtk m o (zI m 1601 o) n (zTb (zI m 1601 o) n p) := by
    unfold zRnx
    rw [e1, e2, nI_clamp (by omega), nI_clamp (by omega)]
  refine ⟨e, by omega, ⟨hn, h4, (zRnx_I (by decide) (by decide) (by decide) (by decide) _ _).trans e1, by rw [hr]; exact h5⟩, ?_⟩
  rw [hr]
  intro z
  have := h7 z
  omega
theorem zRp_ext {m m' : zM} {o n p : Nat} (h : zRp m o n p) (h1 : zI m' 626 o 0 = zI m 626 o 0) (h2 : zI m' 625 o 0 = zI m 625 o 0) : zRp m' o n p := ⟨h.1, h.2.1, h1.trans h.2.2.1, h2.trans h.2.2.2⟩
theorem zXla_I {m : zM} {o : Nat} {x : Int32} {f : Nat} (h1 : f ≠ 632) (h2 : f ≠ 633) (a j : Nat) : zI (zXla m o x) f a j = zI m f a j := by
  unfold zXla
  split
  · rw [zI_n h2, zI_n h1]
  · rfl
theorem zXla_J {m : zM} {o : Nat} {x : Int32} (f a j : Nat) : zJ (zXla m o x) f a j = zJ m f a j := by
  unfold zXla
  split <;> rfl
theorem zXla_p {m : zM} {o n p : Nat} {x : Int32} (h : zRp m o n p) : zRp (zXla m o x) o n p := zRp_ext h (zXla_I (by decide) (by decide) _ _) (zXla_I (by decide) (by decide) _ _)
theorem zX227_p {m : zM} {o l n N p : Nat} {no w s than : Int32} (h : zRp m o N p) : ∃ p', p ≤ p' ∧ zRp (zX227 m o l n no w s than) o N p' := by
  obtain ⟨p', h1, h2, -⟩ := zRp_nx h
  refine ⟨p', h1, ?_⟩
  unfold zX227
  split
  · unfold zX269
    refine zRp_ext h2 ?_ ?_ <;> simp only [zI_sI] <;> rw [if_neg (by omega), if_neg (by omega), if_neg (by omega), if_neg (by omega)]
  · exact h2
/-- a test that is read leaves the reader farther on -/
theorem zX186_p {m : zM} {o l n N p : Nat} {no w s : Int32} (h : zRp m o N p) (h1 : ¬ (zX186 m o l n no w s).1 = 0) : ∃ p', p ≤ p' ∧ zRp (zX186 m o l n no w s).2 o N p' := by
  unfold zX186 at h1 ⊢
  split
  · exact zX227_p (by split; exact zXla_p h; exact h)
  · rename_i q
    rw [if_neg q] at h1
    exact absurd rfl h1
theorem zX115_p {m : zM} {o l n N p : Nat} {no w : Int32} (h : zRp m o N p) (hw : w = zXsu m o) (h1 : ¬ (zX115 m o l n no w).1 = 0) : ∃ p', p < p' ∧ zRp (zX115 m o l n no w).2 o N p' := by
  obtain ⟨p2, h2, h3, h4⟩ := zRp_nx h
  unfold zX115 at h1 ⊢
  by_cases q1 : w = -1
  · rw [if_pos q1] at h1
    exact absurd rfl h1
  rw [if_neg q1] at h1 ⊢
  by_cases q2 : 5 ≤ w
  · rw [if_pos q2] at h1 ⊢
    have n0 : ¬ zI (zRnx m o) 628 o 0 = 0 := by
      intro z
      unfold zX186 at h1
      rw [if_neg (by rw [z]; decide)] at h1
      exact h1 rfl
    obtain ⟨p3, h5, h6⟩ := zX186_p h3 h1
    exact ⟨p3, by have := h4 n0; omega, h6⟩
  · rw [if_neg q2] at h1 ⊢
    by_cases q3 : zI (zRnx m o) 628 o 0 = 4 ∧ (zI (zRnx m o) 629 o 0 = 60 ∨ zI (zRnx m o) 629 o 0 = 62 ∨ zI (zRnx m o) 629 o 0 = 61)
    · rw [if_pos q3] at h1 ⊢
      have n0 : ¬ zI (zRnx m o) 628 o 0 = 0 := by rw [q3.1]; decide
      obtain ⟨p3, h5, h6, -⟩ := zRp_nx h3
      obtain ⟨p4, h7, h8⟩ := zX186_p h6 h1
      exact ⟨p4, by have := h4 n0; omega, h8⟩
    · rw [if_neg q3] at h1
      exact absurd rfl h1
theorem zX30_p {m : zM} {o l n N p : Nat} (h : zRp m o N p) (h1 : ¬ (zX30 m o l n).1 = 0) : ∃ p', p < p' ∧ zRp (zX30 m o l n).2 o N p' := by
  unfold zX30 at h1 ⊢
  split
  · rename_i q
    rw [if_pos q] at h1
    obtain ⟨p2, h2, h3, -⟩ := zRp_nx h
    obtain ⟨p3, h4, h5⟩ := zX115_p h3 rfl h1
    exact ⟨p3, by omega, h5⟩
  · rename_i q
    rw [if_neg q] at h1
    exact zX115_p h rfl h1
theorem zXt_p {m : zM} {o l n N p : Nat} (h : zRp m o N p) (h1 : ¬ (zXt m o l n).1 = 0) : ∃ p', p < p' ∧ zRp (zXt m o l n).2 o N p' := by
  unfold zXt at h1 ⊢
  split
  · rename_i q
    rw [if_pos q] at h1
    exact zX30_p (zXla_p h) h1
  · rename_i q
    rw [if_neg q] at h1
    exact zX30_p h h1
section ZPR
variable {l : Launch} {G : zG}
theorem C_X6_isWord (hL : zLay G) : Con_X6_isWord l G (fun _ _ _ => True) (fun o w m r => zB r (zXi m o w)) :=
  con_X6_isWord hL fun C Qc S hl o w m ko _ hr => sg_X6_isWord_0 S ko ⟨fun q => hr _ (zB_0 fun z => q z.1), fun q => ⟨fun q2 => hr _ (zB_0 fun z => q2 z.2), fun q2 => hr _ (zB_1 ⟨q, q2⟩)⟩⟩
theorem C_X6_isSign (hL : zLay G) : Con_X6_isSign l G (fun _ _ _ => True) (fun o c m r => zB r (zXs m o c)) :=
  con_X6_isSign hL fun C Qc S hl o w m ko _ hr => sg_X6_isSign_0 S ko ⟨fun q => hr _ (zB_0 fun z => q z.1), fun q => ⟨fun q2 => hr _ (zB_0 fun z => q2 z.2), fun q2 => hr _ (zB_1 ⟨q, q2⟩)⟩⟩
theorem C_X6_wrong (hL : zLay G) : Con_X6_wrong l G (fun _ _ => True) (fun o m r m' => r = 0 ∧ m' = zXw m o) :=
  con_X6_wrong hL fun C Qc S hl o m ko _ hr => sg_X6_wrong_0 S ko (hr _ _ ⟨rfl, rfl⟩)
theorem C_X6_later (hL : zLay G) : Con_X6_later l G (fun _ _ _ _ => True) (fun o f p m m' => p = zI m 627 o 0 → m' = zXla m o f) :=
  con_X6_later hL fun C Qc S hl o f p m ko _ hr => sg_X6_later_0 S ko ⟨fun q => hr _ (fun _ => by unfold zXla; rw [if_neg q]), fun q => hr _ (fun e => by unfold zXla; rw [if_pos q, e])⟩
theorem C_X6_need (hL : zLay G) : Con_X6_need l G (fun o _ m => zRx m o) (fun o c m r m' => (r, m') = zXnd m o c) :=
  con_X6_need hL fun C Qc S hl o c m ko hp hr => sg_X6_need_0 S (C_X6_isSign hL) (C_X6_next hL) (C_X6_wrong hL) ko ⟨trivial, fun r2 h2 => ⟨fun q => ⟨hp, fun m4 h4 => hr _ _ (by unfold zXnd; rw [if_pos (zB_t h2 q), h4])⟩, fun q => ⟨trivial, fun r6 m6 h6 => ⟨Or.inl h6.1, hr _ _ (by unfold zXnd; rw [if_neg (zB_f h2 q), h6.1, h6.2])⟩⟩⟩⟩
theorem zXsu_s (m : zM) (o : Nat) : zXsu m o = -1 ∨ ∃ k, k < 6 ∧ zXsu m o = nI k := by
  unfold zXsu
  split
  · exact Or.inr ⟨0, by omega, rfl⟩
  split
  · exact Or.inr ⟨1, by omega, rfl⟩
  split
  · exact Or.inr ⟨2, by omega, rfl⟩
  split
  · exact Or.inr ⟨3, by omega, rfl⟩
  split
  · exact Or.inr ⟨4, by omega, rfl⟩
  split
  · exact Or.inr ⟨5, by omega, rfl⟩
  · exact Or.inl rfl
theorem zXac_s (m : zM) (o : Nat) : zXac m o = -1 ∨ ∃ k, k < 4 ∧ zXac m o = nI k := by
  unfold zXac
  split
  · exact Or.inr ⟨0, by omega, rfl⟩
  split
  · exact Or.inr ⟨1, by omega, rfl⟩
  split
  · exact Or.inr ⟨2, by omega, rfl⟩
  split
  · exact Or.inr ⟨3, by omega, rfl⟩
  · exact Or.inl rfl
theorem C_X6_test (hL : zLay G) : Con_X6_test l G (fun o x1 x2 m => zRx m o ∧ ∃ l n, l ≤ 16 ∧ n ≤ 400 ∧ x1 = nI l ∧ x2 = nI n) (fun o x1 x2 m r m' => ∀ l n, l ≤ 16 → n ≤ 400 → x1 = nI l → x2 = nI n → (r, m') = zXt m o l n) := by
  refine con_X6_test hL fun C Qc S hl o x1 x2 m ko hp hr => ?_
  obtain ⟨⟨N, p, hx⟩, li, n, hli, hn, rfl, rfl⟩ := hp
  have hx : zRp m o N p := hx
  have hr2 : ∀ r m', (r, m') = zXt m o li n → zRet C G Qc (some (.int r)) m' := by
    intro r m' h
    refine hr r m' ?_
    intro l' n' h1 h2 e1 e2
    rw [nI_eq (by omega) (by omega)] at e1 e2
    subst e1 e2
    exact h
  have k227 : ∀ M no w s than p, zRp M o N p → (w = 0 ∨ ¬ w = 0) → zRet C G Qc (some (.int 1)) (zX227 M o li n no w s than) → Pt_X6_test_227 C G o (nI li) (nI n) no w s than M := by
    intro M no w s than p hM _ hret
    refine sg_X6_test_227 S (C_X6_next hL) ko ⟨zRp_x hM, fun m2 h2 => ?_⟩
    subst h2
    unfold zX227 at hret
    refine ⟨fun q => ?_, fun q => ⟨fun q2 => ?_, fun q2 => ?_⟩⟩
    · rw [show (4 : Int32) = nI 4 from rfl, nI_leI (by omega) (by omega)] at q
      rw [if_neg (by omega)] at hret
      exact hret
    · rw [show (16 : Int32) = nI 16 from rfl, nI_leI (by omega) (by omega)] at q2
      rw [if_neg (by omega)] at hret
      exact hret
    · rw [show (4 : Int32) = nI 4 from rfl, nI_leI (by omega) (by omega)] at q
      rw [show (16 : Int32) = nI 16 from rfl, nI_leI (by omega) (by omega)] at q2
      rw [if_pos (by omega)] at hret
      unfold zX269 at hret
      rw [z4]
      have k269 : ∀ s0, s0 = (if no = 0 then w else w + 8) → Pt_X6_test_269 C G o (nI li) (nI n) s than (nI (4 * li + n)) s0 (nI (4 * li + n)) (zRnx M o) := by
        intro s0 h0
        refine sg_X6_test_269 S ko ?_
        rw [nI_clamp (by omega), nI_clamp (by omega), ← nI_succ, h0]
        exact ⟨vp_in_nI (by omega) (by omega), vp_in_nI (by omega) (by omega), vp_in_nI (by omega) (by omega), hret⟩
      exact ⟨fun z => k269 _ (by rw [if_pos z]), fun z => k269 _ (by rw [if_neg z])⟩
  have wrong : ∀ M : zM, (zRet C G Qc (some (.int 0)) (zXw M o)) → ∀ r m', r = 0 ∧ m' = zXw M o → (r = 0 ∨ r = 1) ∧ zRet C G Qc (some (.int r)) m' := by
    rintro M hret r m' ⟨rfl, rfl⟩
    exact ⟨Or.inl rfl, hret⟩
  have k186 : ∀ M no w s p, zRp M o N p → (∀ r m', (r, m') = zX186 M o li n no w s → zRet C G Qc (some (.int r)) m') → Pt_X6_test_186 C G o (nI li) (nI n) no w s M := by
    intro M no w s p hM hret
    unfold zX186 at hret
    refine sg_X6_test_186 S (C_X6_later hL) (C_X6_wrong hL) ko ⟨fun q => ⟨fun q5 => ?_, fun q5 => ⟨fun q6 => ?_, fun q6 => ⟨trivial, fun m2 h2 => ?_⟩⟩⟩, fun q => ⟨trivial, wrong M (hret _ _ (by rw [if_neg q]))⟩⟩
    · rw [if_pos q, if_neg (fun z => q5 z.1)] at hret
      exact k227 _ _ _ _ _ p hM (Decidable.em _) (hret _ _ rfl)
    · rw [if_pos q, if_neg (fun z => z.2 q6)] at hret
      exact k227 _ _ _ _ _ p hM (Decidable.em _) (hret _ _ rfl)
    · rw [if_pos q, if_pos ⟨q5, q6⟩] at hret
      rw [h2 rfl]
      exact k227 _ _ _ _ _ p (zXla_p hM) (Decidable.em _) (hret _ _ rfl)
  have k115 : ∀ M no w p, zRp M o N p → (∀ r m', (r, m') = zX115 M o li n no w → zRet C G Qc (some (.int r)) m') → Pt_X6_test_115 C G o (nI li) (nI n) no w M := by
    intro M no w p hM hret
    obtain ⟨p2, h2, h3, -⟩ := zRp_nx hM
    obtain ⟨p3, h4, h5, -⟩ := zRp_nx h3
    unfold zX115 at hret
    refine sg_X6_test_115 S (C_X6_next hL) (C_X6_wrong hL) ko ⟨fun q => ⟨zRp_x hM, fun m2 hm2 => ?_⟩, fun q => ⟨trivial, wrong M (hret _ _ (by rw [if_pos q]))⟩⟩
    subst hm2
    rw [if_neg q] at hret
    refine ⟨fun q5 => ?_, fun q5 => ?_⟩
    · rw [if_pos q5] at hret
      exact k186 _ _ _ _ p2 h3 hret
    · rw [if_neg q5] at hret
      refine ⟨fun n4 => ⟨trivial, wrong _ (hret _ _ (by rw [if_neg (fun z => n4 z.1)]))⟩, fun y4 => ⟨fun y => ⟨zRp_x h3, fun m7 h7 => ?_⟩, fun n1 => ⟨fun y => ⟨zRp_x h3, fun m7 h7 => ?_⟩, fun n2 => ⟨fun y => ⟨zRp_x h3, fun m7 h7 => ?_⟩, fun n3 => ⟨trivial, wrong _ (hret _ _ (by rw [if_neg (fun z => z.2.elim n1 (fun z => z.elim n2 n3))]))⟩⟩⟩⟩⟩
      · subst h7
        rw [if_pos ⟨y4, Or.inl y⟩] at hret
        exact k186 _ _ _ _ p3 h5 hret
      · subst h7
        rw [if_pos ⟨y4, Or.inr (Or.inl y)⟩] at hret
        exact k186 _ _ _ _ p3 h5 hret
      · subst h7
        rw [if_pos ⟨y4, Or.inr (Or.inr y)⟩] at hret
        exact k186 _ _ _ _ p3 h5 hret
  have k30 : ∀ M no p, zRp M o N p → (∀ r m', (r, m') = zX115 M o li n no (zXsu M o) → zRet C G Qc (some (.int r)) m') → Pt_X6_test_30 C G o (nI li) (nI n) no M := by
    intro M no p hM hret
    have k := fun w (hw : zXsu M o = w) => k115 M no w p hM (by rw [hw] at hret; exact hret)
    unfold zXsu at k
    refine sg_X6_test_30 S (C_X6_isWord hL) ko ⟨trivial, fun r2 h2 => ⟨fun q2 => ⟨trivial, fun r4 h4 => ⟨fun q4 => ⟨trivial, fun r6 h6 => ⟨fun q6 => ⟨trivial, fun r8 h8 => ⟨fun q8 => ⟨trivial, fun r10 h10 => ⟨fun q10 => ⟨trivial, fun r12 h12 => ⟨fun q12 => k _ ?_, fun q12 => k _ ?_⟩⟩, fun q10 => k _ ?_⟩⟩, fun q8 => k _ ?_⟩⟩, fun q6 => k _ ?_⟩⟩, fun q4 => k _ ?_⟩⟩, fun q2 => k _ ?_⟩⟩
    · rw [if_neg (zB_f h2 q2), if_neg (zB_f h4 q4), if_neg (zB_f h6 q6), if_neg (zB_f h8 q8), if_neg (zB_f h10 q10), if_neg (zB_f h12 q12)]
    · rw [if_neg (zB_f h2 q2), if_neg (zB_f h4 q4), if_neg (zB_f h6 q6), if_neg (zB_f h8 q8), if_neg (zB_f h10 q10), if_pos (zB_t h12 q12)]
    · rw [if_neg (zB_f h2 q2), if_neg (zB_f h4 q4), if_neg (zB_f h6 q6), if_neg (zB_f h8 q8), if_pos (zB_t h10 q10)]
    · rw [if_neg (zB_f h2 q2), if_neg (zB_f h4 q4), if_neg (zB_f h6 q6), if_pos (zB_t h8 q8)]
    · rw [if_neg (zB_f h2 q2), if_neg (zB_f h4 q4), if_pos (zB_t h6 q6)]
    · rw [if_neg (zB_f h2 q2), if_pos (zB_t h4 q4)]
    · rw [if_pos (zB_t h2 q2)]
  have kn : ∀ M p, zRp M o N p → (∀ r m', (r, m') = zX30 M o li n → zRet C G Qc (some (.int r)) m') → ∀ r2, zB r2 (zXi M o 7237492) → (r2 = 0 → Pt_X6_test_30 C G o (nI li) (nI n) r2 M) ∧ (¬ r2 = 0 → zRx M o ∧ ∀ m4, m4 = zRnx M o → Pt_X6_test_30 C G o (nI li) (nI n) r2 m4) := by
    intro M p hM hret r2 h2
    unfold zX30 at hret
    refine ⟨fun q => ?_, fun q => ⟨zRp_x hM, fun m4 h4 => ?_⟩⟩
    · rw [if_neg (zB_f h2 q)] at hret
      rw [q]
      exact k30 M 0 p hM hret
    · rw [if_pos (zB_t h2 q)] at hret
      have e : r2 = 1 := (zB_01 h2).resolve_left q
      obtain ⟨p2, -, h3, -⟩ := zRp_nx hM
      rw [e, h4]
      exact k30 _ 1 p2 h3 hret
  unfold zXt at hr2
  have e4 : nI n = 4 ↔ n = 4 := by rw [show (4 : Int32) = nI 4 from rfl, nI_eq (by omega) (by omega)]
  refine sg_X6_test_0 S (C_X6_isWord hL) (C_X6_next hL) (C_X6_later hL) ko ⟨fun q => ⟨trivial, fun r2 h2 => ?_⟩, fun q => ⟨trivial, fun m6 h6 => ⟨trivial, fun r8 h8 => ?_⟩⟩⟩
  · rw [if_neg (fun z => q (e4.2 z))] at hr2
    exact kn m p hx hr2 r2 h2
  · rw [if_pos (e4.1 q)] at hr2
    have e6 := h6 rfl
    subst e6
    exact kn _ p (zXla_p hx) hr2 r8 h8
theorem C_X6_oneLine (hL : zLay G) : Con_X6_oneLine l G (fun o m => zRx m o ∧ ∃ N, N ≤ 400 ∧ zI m 634 o 0 = nI N) (fun o m r m' => (r, m') = zXl m o) := by
  refine con_X6_oneLine hL fun C Qc S hl o m ko hp hr => ?_
  obtain ⟨⟨n, p, hx⟩, N, hN, hN2⟩ := hp
  have hx : zRp m o n p := hx
  have hn4 : n ≤ 400 := hx.1
  have k228 : ∀ M p, zRp M o n p → (∀ r m', (r, m') = zX228 M o → zRet C G Qc (some (.int r)) m') → Pt_X6_oneLine_228 C G o M := by
    intro M p hM hret
    refine sg_X6_oneLine_228 S (C_X6_need hL) ko ⟨zRp_x (zRp_ext hM (zI_n (by decide)) (zI_n (by decide))), fun r2 m2 h2 => ?_⟩
    refine ⟨?_, hret _ _ h2⟩
    unfold zXnd at h2
    split at h2
    · exact Or.inr (congrArg Prod.fst h2)
    · exact Or.inl (congrArg Prod.fst h2)
  have wrong : ∀ M : zM, (zRet C G Qc (some (.int 0)) (zXw M o)) → ∀ r m', r = 0 ∧ m' = zXw M o → (r = 0 ∨ r = 1) ∧ zRet C G Qc (some (.int r)) m' := by
    rintro M hret r m' ⟨rfl, rfl⟩
    exact ⟨Or.inl rfl, hret⟩
  have k164 : ∀ li M a p, li ≤ 16 → zRp M o n p → (a = -1 ∨ ∃ k, k < 4 ∧ a = nI k) → (∀ r m', (r, m') = zX164 M o li a → zRet C G Qc (some (.int r)) m') → Pt_X6_oneLine_164 C G o (nI li) a (nI li) M := by
    intro li M a p hli hM ha hret
    unfold zX164 at hret
    have hM1 : zRp (zsI M 1639 o li a) o n p := zRp_ext hM (zI_n (by decide)) (zI_n (by decide))
    obtain ⟨p2, h2, h3, -⟩ := zRp_nx hM1
    have e1639 : zI (zRnx (zsI M 1639 o li a) o) 1639 o li = a := (zRnx_I (by decide) (by decide) (by decide) (by decide) _ _).trans zI_e
    refine sg_X6_oneLine_164 S (C_X6_next hL) (C_X6_wrong hL) ko ?_
    rw [nI_clamp (by omega), zI_e]
    refine ⟨vp_in_nI (by omega) (by omega), vp_in_nI (by omega) (by omega), fun q => ⟨zRp_x hM1, fun m4 h4 => ?_⟩, fun q => ⟨trivial, wrong _ (hret _ _ (by rw [if_pos q]))⟩⟩
    subst h4
    rw [if_neg q] at hret
    rw [e1639]
    refine ⟨fun q3 => ?_, fun q3 => ⟨fun q4 => ?_, fun q4 => ⟨trivial, wrong _ (hret _ _ (by rw [if_neg q3, if_neg q4]))⟩⟩⟩
    · rw [if_pos q3] at hret
      exact k228 _ p2 (zRp_ext h3 (zI_n (by decide)) (zI_n (by decide))) hret
    · rw [if_neg q3, if_pos q4] at hret
      have hM6 : zRp (zsI (zsI (zRnx (zsI M 1639 o li a) o) 1640 o li 0) 1640 o li (zI (zRnx (zsI M 1639 o li a) o) 629 o 0)) o n p2 := zRp_ext h3 ((zI_n (by decide)).trans (zI_n (by decide))) ((zI_n (by decide)).trans (zI_n (by decide)))
      obtain ⟨p3, h5, h6, -⟩ := zRp_nx hM6
      refine ⟨zRp_x hM6, fun m6 hm6 => ?_⟩
      subst hm6
      exact k228 _ p3 h6 hret
  have k102 : ∀ li M p, li ≤ 16 → zRp M o n p → (∀ r m', (r, m') = zX102 M o li → zRet C G Qc (some (.int r)) m') → Pt_X6_oneLine_102 C G o (nI li) M := by
    intro li M p hli hM hret
    have k := fun a (ha : zXac M o = a) => k164 li M a p hli hM (by rw [← ha]; exact zXac_s M o) (by rw [zX102, ha] at hret; exact hret)
    unfold zXac at k
    refine sg_X6_oneLine_102 S (C_X6_isWord hL) ko ⟨trivial, fun r2 h2 => ⟨fun q2 => ⟨trivial, fun r4 h4 => ⟨fun q4 => ⟨trivial, fun r6 h6 => ⟨fun q6 => ⟨trivial, fun r8 h8 => ⟨fun q8 => k _ ?_, fun q8 => k _ ?_⟩⟩, fun q6 => k _ ?_⟩⟩, fun q4 => k _ ?_⟩⟩, fun q2 => k _ ?_⟩⟩
    · rw [if_neg (zB_f h2 q2), if_neg (zB_f h4 q4), if_neg (zB_f h6 q6), if_neg (zB_f h8 q8)]
    · rw [if_neg (zB_f h2 q2), if_neg (zB_f h4 q4), if_neg (zB_f h6 q6), if_pos (zB_t h8 q8)]
    · rw [if_neg (zB_f h2 q2), if_neg (zB_f h4 q4), if_pos (zB_t h6 q6)]
    · rw [if_neg (zB_f h2 q2), if_pos (zB_t h4 q4)]
    · rw [if_pos (zB_t h2 q2)]
  have k58 : ∀ li, li ≤ 16 → ∀ d (more : Bool) i M p, zRp M o n p → n < p + d → i ≤ p → (∀ r m', (r, m') = zX58 o li d more i M → zRet C G Qc (some (.int r)) m') → ∀ x2 : Int32, (x2 = 0 ↔ more = false) → Pt_X6_oneLine_58 C G o (nI li) x2 (nI i) M := by
    intro li hli d
    induction d with
    | zero =>
      intro more i M p hM hd
      have := hM.2.1
      omega
    | succ d ih =>
      intro more i M p hM hd hi hret x2 hx2
      have hpn := hM.2.1
      rw [zX58] at hret
      refine sg_X6_oneLine_58 S (C_X6_need hL) (C_X6_next hL) (C_X6_test hL) (C_X6_isWord hL) ko ⟨fun q => ⟨zRp_x hM, fun r2 m2 h2 => ?_⟩, fun q => ⟨zRp_x hM, fun m4 h4 => ?_⟩⟩
      · rw [if_neg (by rw [hx2.1 q]; decide)] at hret
        unfold zXnd at h2
        by_cases s58 : zXs M o 58
        · rw [if_pos s58] at h2 hret
          obtain ⟨rfl, rfl⟩ := Prod.mk.inj h2
          refine ⟨fun _ => ?_, fun z => absurd z (by decide)⟩
          obtain ⟨p2, -, h3, -⟩ := zRp_nx hM
          exact k102 li _ p2 hli h3 hret
        · rw [if_neg s58] at h2 hret
          obtain ⟨rfl, rfl⟩ := Prod.mk.inj h2
          exact ⟨fun z => absurd rfl z, fun _ => hret _ _ rfl⟩
      · subst h4
        obtain ⟨p2, h2, h3, -⟩ := zRp_nx hM
        have em : more = true := by
          cases more
          · exact absurd (hx2.2 rfl) q
          · rfl
        rw [if_pos em] at hret
        refine ⟨⟨zRp_x h3, li, i, hli, by omega, rfl, rfl⟩, fun r6 m6 h6 => ?_⟩
        have e6 := h6 li i hli (by omega) rfl rfl
        have e61 : (zXt (zRnx M o) o li i).1 = r6 := by rw [← e6]
        have e62 : (zXt (zRnx M o) o li i).2 = m6 := by rw [← e6]
        rw [e61, e62] at hret
        refine ⟨fun z => ⟨trivial, fun r8 h8 => ?_⟩, fun z => hret _ _ (by rw [if_pos z])⟩
        rw [if_neg z] at hret
        obtain ⟨p3, h5, h7⟩ := zXt_p h3 (by rw [e61]; exact z)
        rw [e62] at h7
        rw [← nI_succ]
        refine ih _ _ _ p3 h7 (by omega) (by omega) hret r8 ?_
        rcases h8 with ⟨rfl, y⟩ | ⟨rfl, y⟩
        · simp [y]
        · simp [y]
  have k37 : ∀ li M p, li ≤ 16 → zRp M o n p → (∀ r m', (r, m') = zX37 M o li → zRet C G Qc (some (.int r)) m') → Pt_X6_oneLine_37 C G o (nI li) M := by
    intro li M p hli hM hret
    have hM1 : zRp (zsI M 1635 o li 0) o n p := zRp_ext hM (zI_n (by decide)) (zI_n (by decide))
    unfold zX37 at hret
    refine sg_X6_oneLine_37 S (C_X6_isWord hL) ko ?_
    rw [nI_clamp (by omega)]
    refine ⟨vp_in_nI (by omega) (by omega), trivial, fun r3 h3 => ⟨fun q => ?_, fun q => ?_⟩⟩
    · rw [if_neg (zB_f h3 q)] at hret
      exact k102 li _ p hli hM1 hret
    · rw [if_pos (zB_t h3 q)] at hret
      exact k58 li hli 500 true 0 _ p hM1 (by omega) (by omega) hret 1 (by decide)
  have k18 : ∀ li, li = zXln m o → li ≤ 16 → Pt_X6_oneLine_18 C G o (nI li) m := by
    intro li e hli
    unfold zXl at hr
    rw [← e] at hr
    refine sg_X6_oneLine_18 S (C_X6_later hL) ko ⟨fun q => ?_, fun q => ⟨trivial, fun m2 h2 => ?_⟩⟩
    · rw [if_neg q] at hr
      exact k37 li m p hli hx hr
    · rw [if_pos q] at hr
      rw [h2 rfl]
      exact k37 li _ p hli (zXla_p hx) hr
  have e16 : zXln m o = if 16 ≤ N then 16 else N := by
    unfold zXln
    rw [hN2, nI_clamp (by omega)]
  refine sg_X6_oneLine_0 S ko ?_
  rw [hN2, show (16 : Int32) = nI 16 from rfl, nI_leI (by omega) (by omega)]
  refine ⟨fun q => k18 16 (by rw [e16, if_pos q]) (by omega), fun q => k18 N (by rw [e16, if_neg q]) (by omega)⟩
end ZPR
