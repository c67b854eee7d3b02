/-! the calls side by side, as the law makes them -/
abbrev z49 (m m' : zM) : Prop := ∀ a j, zI m' 1649 a j = zI m 1649 a j
theorem z49_0 {m : zM} {o : Nat} : z49 m (zc0 m o) := fun a j => zI_n (by decide)
theorem z49_I {m m' : zM} {f o j : Nat} {v : Int32} (hf : (1649 : Nat) ≠ f) (h : z49 m m') : z49 m (zsI m' f o j v) := fun a j => (zI_n hf).trans (h a j)
theorem z49_J {m m' : zM} {f o j : Nat} {v : Int64} (h : z49 m m') : z49 m (zsJ m' f o j v) := h
theorem z49_It {ρ : Type} {r r1 r0 : ρ} {m m' m1 m0 : zM} {P : Prop} (h : zIt r m' P r1 m1 r0 m0) (h1 : z49 m m1) (h0 : z49 m m0) : z49 m m' := by
  rcases h with ⟨_, _, e⟩ | ⟨_, _, e⟩
  · rw [e]; exact h1
  · rw [e]; exact h0
theorem z49_Ho {ρ : Type} {r r1 r0 : ρ} {o : Nat} {m m' m1 m0 m2 : zM} {P : Prop} (h : zHo o r m' P r1 m1 r0 m0 m2) (h1 : z49 m m1) (h0 : z49 m m0) (h2 : z49 m m2) : z49 m m' := by
  rcases h with ⟨_, h⟩ | ⟨_, _, e⟩
  · exact z49_It h h1 h2
  · rw [e]; exact h0
theorem z49_At {m m' : zM} {o : Nat} {x : Int32} {F : Nat → Prop} {E : Prop} (h : zAt m o x F E) (hF : ∀ c, F c → z49 m m') (hE : E → z49 m m') : z49 m m' := by
  rcases h with ⟨c, _, _, _, h⟩ | ⟨_, h⟩
  · exact hF c h
  · exact hE h
theorem z49_e {m m' : zM} {o : Nat} (h : m' = zc0 m o) : z49 m m' := by rw [h]; exact z49_0
theorem z49_by {m m' : zM} {o : Nat} {v : Int32} (h : z49 m m') : z49 m (zRby m' o v) := z49_I (by decide) (z49_I (by decide) h)
theorem z49_fo {m m' : zM} {o : Nat} {v : Int32} (h : z49 m m') : z49 m (zRfo m' o v) := z49_by (z49_by (z49_by (z49_by h)))
theorem z49_n9 {m m' : zM} {o n : Nat} {x1 x2 x3 x4 x5 : Int32} (h : z49 m m') : z49 m (zRnew m' o n x1 x2 x3 x4 x5) := by
  unfold zRnew
  refine z49_I (by decide) (z49_J (z49_J (z49_J ?_)))
  exact z49_I (by decide) (z49_I (by decide) (z49_I (by decide) (z49_I (by decide) (z49_I (by decide) (z49_I (by decide) (z49_I (by decide) (z49_I (by decide) (z49_I (by decide) (z49_I (by decide) h)))))))))
theorem z49_wv {m m' : zM} {o i : Nat} {all : Int64} {pc : Int32} (h : z49 m m') : z49 m (zRwv m' o all pc i) := fun a j => (zRwv_I m' o all pc i 1649 a j).trans (h a j)
theorem z49_f2 {m : zM} {o n : Nat} : ∀ k (m' : zM), z49 m m' → z49 m (zRf2 o n k m')
  | 0, _, h => h
  | k + 1, m', h => z49_f2 k _ (fun a j => (zRpy_I ..).trans (h a j))
theorem z49_fm {m m' : zM} {o k : Nat} (h : z49 m m') : z49 m (zRfm m' o k) := z49_I (by decide) (z49_f2 _ _ (fun a j => (zRf1_I ..).trans (h a j)))
theorem law_fin {ρ : Type} {r r' : ρ} {mc mr mc' mr' : zM} {f o : Nat} (h : zTot mc mr f o) (hs : r = r' ∧ zOK (f + 1) o mc mr mc' mr') (hn : z49 mr mr') : r = r' ∧ zTot mc' mr' f o := ⟨hs.1, zTot_ok h hs.2 (fun j => hn o j)⟩
theorem zAt_of {m : zM} {o : Nat} {x : Int32} {F : Nat → Prop} {E : Prop} {n : Nat} (hn : n ≤ 16) (en : zI m 1606 o 0 = nI n) (h1 : ∀ c, c < (zI m 1606 o 0).toNatClampNeg → x = nI c → F c) (h2 : ¬ zIsC x (zI m 1606 o 0) → E) : zAt m o x F E := by
  by_cases hx : zIsC x (zI m 1606 o 0)
  · obtain ⟨c, hc, ex⟩ := hx
    have hc2 := hc
    rw [en, nI_clamp (by omega)] at hc2
    exact Or.inl ⟨c, by omega, hc, ex, h1 c hc ex⟩
  · exact Or.inr ⟨hx, h2 hx⟩
