/-! small tools for the pure part -/
theorem z_loop {P : Nat → Prop} (N : Nat) (hN : P N) (hs : ∀ i, i < N → P (i + 1) → P i) : ∀ i, i ≤ N → P i := by
  have h : ∀ d i, i + d = N → P i := by
    intro d
    induction d with
    | zero => intro i h; rw [show i = N by omega]; exact hN
    | succ d ih => intro i h; exact hs i (by omega) (ih (i + 1) (by omega))
  exact fun i hi => h (N - i) i (by omega)
/-- a loop that begins at a place -/
theorem z_loopF {P : Nat → Prop} (a N : Nat) (ha : a ≤ N) (hN : P N) (hs : ∀ i, a ≤ i → i < N → P (i + 1) → P i) : P a := by
  have h : ∀ d i, i + d = N → a ≤ i → P i := by
    intro d
    induction d with
    | zero => intro i h _; rw [show i = N by omega]; exact hN
    | succ d ih => intro i h h2; exact hs i h2 (by omega) (ih (i + 1) (by omega) (by omega))
  exact h (N - a) a (by omega) (Nat.le_refl a)
theorem zge {c : Int32} (k : Nat) {i : Nat} (hi : i < k) (hk : k < 2 ^ 31 := by omega) (hc : c = nI k := by decide) : ¬ c ≤ nI i := by
  rw [hc, nI_leI hk (by omega)]; omega
theorem zle {c : Int32} (k : Nat) {i : Nat} (hi : k ≤ i) (hi2 : i < 2 ^ 31 := by omega) (hc : c = nI k := by decide) : c ≤ nI i := by
  rw [hc, nI_leI (by omega) hi2]; exact hi
theorem zlt {c : Int32} (k : Nat) {i : Nat} (hi : k < i) (hi2 : i < 2 ^ 31 := by omega) (hc : c = nI k := by decide) : c < nI i := by
  rw [hc, nI_ltI (by omega) hi2]; exact hi
theorem znlt {c : Int32} (k : Nat) {i : Nat} (hi : i ≤ k) (hk : k < 2 ^ 31 := by omega) (hc : c = nI k := by decide) : ¬ c < nI i := by
  rw [hc, nI_ltI hk (by omega)]; omega
theorem zlt' {c : Int32} (k : Nat) {i : Nat} (hi : i < k) (hk : k < 2 ^ 31 := by omega) (hc : c = nI k := by decide) : nI i < c := by
  rw [hc, nI_ltI (by omega) hk]; exact hi
theorem znlt' {c : Int32} (k : Nat) {i : Nat} (hi : k ≤ i) (hi2 : i < 2 ^ 31 := by omega) (hc : c = nI k := by decide) : ¬ nI i < c := by
  rw [hc, nI_ltI hi2 (by omega)]; omega
theorem zM_ext {m m' : zM} (h1 : ∀ f a j, zI m f a j = zI m' f a j) (h2 : ∀ f a j, zJ m f a j = zJ m' f a j) (h3 : ∀ f a, zR m f a = zR m' f a) (h4 : ∀ f a j, zQ m f a j = zQ m' f a j) : m = m' := by
  obtain ⟨a, b, c, d⟩ := m
  obtain ⟨a', b', c', d'⟩ := m'
  have e1 : a = a' := funext fun f => funext fun x => funext fun j => h1 f x j
  have e2 : b = b' := funext fun f => funext fun x => funext fun j => h2 f x j
  have e3 : c = c' := funext fun f => funext fun x => h3 f x
  have e4 : d = d' := funext fun f => funext fun x => funext fun j => h4 f x j
  rw [e1, e2, e3, e4]
/-- a row is written at one place -/
def zupI (g : Nat → Int32) (k : Nat) (v : Int32) : Nat → Int32 := fun j => if j = k then v else g j
def zupJ (g : Nat → Int64) (k : Nat) (v : Int64) : Nat → Int64 := fun j => if j = k then v else g j
theorem zcI_self (m : zM) (f a : Nat) : zcI m f a (zI m f a) = m := by
  refine zM_ext (fun f' a' j => ?_) (fun _ _ _ => rfl) (fun _ _ => rfl) (fun _ _ _ => rfl)
  rw [zI_cI]; split
  · rename_i h; rw [h.1, h.2]
  · rfl
theorem zcJ_self (m : zM) (f a : Nat) : zcJ m f a (zJ m f a) = m := by
  refine zM_ext (fun _ _ _ => rfl) (fun f' a' j => ?_) (fun _ _ => rfl) (fun _ _ _ => rfl)
  rw [zJ_cJ]; split
  · rename_i h; rw [h.1, h.2]
  · rfl
theorem zcI_cI (m : zM) (f a : Nat) (g h : Nat → Int32) : zcI (zcI m f a g) f a h = zcI m f a h := by
  refine zM_ext (fun f' a' j => ?_) (fun _ _ _ => rfl) (fun _ _ => rfl) (fun _ _ _ => rfl)
  rw [zI_cI, zI_cI, zI_cI]; split <;> rfl
theorem zcJ_cJ (m : zM) (f a : Nat) (g h : Nat → Int64) : zcJ (zcJ m f a g) f a h = zcJ m f a h := by
  refine zM_ext (fun _ _ _ => rfl) (fun f' a' j => ?_) (fun _ _ => rfl) (fun _ _ _ => rfl)
  rw [zJ_cJ, zJ_cJ, zJ_cJ]; split <;> rfl
theorem zsI_cI (m : zM) (f a k : Nat) (g : Nat → Int32) (v : Int32) : zsI (zcI m f a g) f a k v = zcI m f a (zupI g k v) := by
  refine zM_ext (fun f' a' j => ?_) (fun _ _ _ => rfl) (fun _ _ => rfl) (fun _ _ _ => rfl)
  rw [zI_sI, zI_cI, zI_cI]
  unfold zupI
  by_cases h : f' = f ∧ a' = a
  · obtain ⟨rfl, rfl⟩ := h
    by_cases hj : j = k
    · rw [if_pos ⟨rfl, rfl, hj⟩, if_pos ⟨rfl, rfl⟩, if_pos hj]
    · rw [if_neg (fun q => hj q.2.2), if_pos ⟨rfl, rfl⟩, if_pos ⟨rfl, rfl⟩, if_neg hj]
  · rw [if_neg (fun q => h ⟨q.1, q.2.1⟩), if_neg h, if_neg h]
theorem zsJ_cJ (m : zM) (f a k : Nat) (g : Nat → Int64) (v : Int64) : zsJ (zcJ m f a g) f a k v = zcJ m f a (zupJ g k v) := by
  refine zM_ext (fun _ _ _ => rfl) (fun f' a' j => ?_) (fun _ _ => rfl) (fun _ _ _ => rfl)
  rw [zJ_sJ, zJ_cJ, zJ_cJ]
  unfold zupJ
  by_cases h : f' = f ∧ a' = a
  · obtain ⟨rfl, rfl⟩ := h
    by_cases hj : j = k
    · rw [if_pos ⟨rfl, rfl, hj⟩, if_pos ⟨rfl, rfl⟩, if_pos hj]
    · rw [if_neg (fun q => hj q.2.2), if_pos ⟨rfl, rfl⟩, if_pos ⟨rfl, rfl⟩, if_neg hj]
  · rw [if_neg (fun q => h ⟨q.1, q.2.1⟩), if_neg h, if_neg h]
theorem zsI_self (m : zM) (f a k : Nat) (v : Int32) : zsI m f a k v = zcI m f a (zupI (zI m f a) k v) := by
  rw [← zsI_cI, zcI_self]
theorem zsJ_self (m : zM) (f a k : Nat) (v : Int64) : zsJ m f a k v = zcJ m f a (zupJ (zJ m f a) k v) := by
  rw [← zsJ_cJ, zcJ_self]
def zsum (f : Nat → Int64) : Nat → Int64
  | 0 => 0
  | n + 1 => zsum f n + f n
def zcnt (p : Nat → Prop) (d : ∀ n, Decidable (p n)) : Nat → Nat
  | 0 => 0
  | n + 1 => if @decide (p n) (d n) = true then zcnt p d n + 1 else zcnt p d n
theorem zcnt_le (p : Nat → Prop) (d : ∀ n, Decidable (p n)) : ∀ n, zcnt p d n ≤ n
  | 0 => Nat.le_refl 0
  | n + 1 => by
    unfold zcnt
    have := zcnt_le p d n
    split <;> omega
theorem zNo {P : Prop} (h : P) : ¬ P → False := fun q => q h
