/-! images side by side -/
theorem zTot_0 {mc mr : zM} {f o : Nat} (h : zTot mc mr f o) : zTot mc (zc0 mr o) f o := zTot_ok h (zOK_0 h.1) (fun j => zc0_e (by decide))
/-- slot s of the reference comes to the one at hand -/
theorem zLe_a {mr : zM} {o s : Nat} : zLe (zsl s mr) (zcpS zFI zFJ (zc0 mr o) o s 0) o := fun f j hj => by
  refine ⟨fun hf => ?_, fun hf => ?_⟩
  · rw [zsl_I (zFI_r hf), zI_cp, if_pos ⟨hf, rfl⟩]
    unfold zmvr
    rw [if_pos (by omega), zc0_e (by have := zFI_r hf; omega)]
    congr 1 <;> omega
  · rw [zsl_J (zFJ_r hf), zJ_cp, if_pos ⟨hf, rfl⟩]
    unfold zmvr
    rw [if_pos (by omega)]
    show zJ mr f o _ = _
    congr 1 <;> omega
/-- the slot at hand comes to slot s -/
theorem zLe_i {mr : zM} {o s : Nat} : zLe mr (zsl s (zcpS zFI zFJ (zc0 mr o) o 0 s)) o := fun f j hj => by
  refine ⟨fun hf => ?_, fun hf => ?_⟩
  · rw [zsl_I (zFI_r hf), zI_cp, if_pos ⟨hf, rfl⟩]
    unfold zmvr
    rw [if_pos (by omega), zc0_e (by have := zFI_r hf; omega)]
    congr 1 <;> omega
  · rw [zsl_J (zFJ_r hf), zJ_cp, if_pos ⟨hf, rfl⟩]
    unfold zmvr
    rw [if_pos (by omega)]
    show zJ mr f o _ = _
    congr 1 <;> omega
/-- the other slots stay -/
theorem zcp_o {w s t : Nat} (h : s ≠ t) {j : Nat} (hj : j < w) : ¬ (w * t ≤ w * s + j ∧ w * s + j < w * t + w) := by
  rintro ⟨h1, h2⟩
  rcases Nat.lt_or_ge s t with q | q
  · have := Nat.mul_le_mul_left w (show s + 1 ≤ t from q)
    rw [Nat.mul_add, Nat.mul_one] at this
    omega
  · have := Nat.mul_le_mul_left w (show t + 1 ≤ s by omega)
    rw [Nat.mul_add, Nat.mul_one] at this
    omega
theorem zLe_o {mr : zM} {o s t u : Nat} (h : u ≠ t) : zLe (zsl u mr) (zsl u (zcpS zFI zFJ (zc0 mr o) o s t)) o := fun f j hj => by
  refine ⟨fun hf => ?_, fun hf => ?_⟩
  · rw [zsl_I (zFI_r hf), zsl_I (zFI_r hf), zI_cp, if_pos ⟨hf, rfl⟩]
    unfold zmvr
    rw [if_neg (zcp_o h hj), zc0_e (by have := zFI_r hf; omega)]
  · rw [zsl_J (zFJ_r hf), zsl_J (zFJ_r hf), zJ_cp, if_pos ⟨hf, rfl⟩]
    unfold zmvr
    rw [if_neg (zcp_o h hj)]
    rfl
theorem zsl_0 {m : zM} : zsl 0 m = m := by
  refine zM_ext (fun f a j => ?_) (fun f a j => ?_) (fun _ _ => rfl) (fun _ _ _ => rfl)
  · by_cases h : 1601 ≤ f ∧ f ≤ 1624
    · rw [zsl_I h, Nat.mul_zero, Nat.zero_add]
    · exact if_neg h
  · by_cases h : 1601 ≤ f ∧ f ≤ 1624
    · rw [zsl_J h, Nat.mul_zero, Nat.zero_add]
    · exact if_neg h
theorem zcp_by {mr : zM} {o s t : Nat} (h : zbyte mr o) : zbyte (zcpS zFI zFJ (zc0 mr o) o s t) o := fun j => by
  rw [zI_cp]
  split
  · unfold zmvr
    split
    · rw [zc0_e (by decide)]; exact h _
    · rw [zc0_e (by decide)]; exact h _
  · rw [zc0_e (by decide)]; exact h _
theorem zcp_8 {mr : zM} {o s t : Nat} (h : ∀ j, zI mr 1608 o j = 0 ∨ zI mr 1608 o j = 1) : ∀ j, zI (zcpS zFI zFJ (zc0 mr o) o s t) 1608 o j = 0 ∨ zI (zcpS zFI zFJ (zc0 mr o) o s t) 1608 o j = 1 := fun j => by
  rw [zI_cp]
  split
  · unfold zmvr
    split
    · rw [zc0_e (by decide)]; exact h _
    · rw [zc0_e (by decide)]; exact h _
  · rw [zc0_e (by decide)]; exact h _
theorem zcp_49 {mr : zM} {o s t j : Nat} : zI (zcpS zFI zFJ (zc0 mr o) o s t) 1649 o j = zI mr 1649 o j := by
  rw [zI_cp, if_neg (fun z => absurd z.1 (by decide))]
  exact zc0_e (by decide)
theorem sim_again {mc mr : zM} {f o : Nat} (h : zTot mc mr f o) {x r r' : Int32} {mc' mr' : zM} (hc : (∃ k b2, k < 3 ∧ x = nI k ∧ zQ mc 1501 f k = some b2 ∧ r = 1 ∧ mc' = zbCp mc (f + 1) b2) ∨ ((¬ ∃ k b2, k < 3 ∧ x = nI k ∧ zQ mc 1501 f k = some b2) ∧ r = 0 ∧ mc' = mc)) (hr : (∃ k, k < 3 ∧ x = nI k ∧ zIt r' mr' (¬ zI mr 1649 o k = 0) 1 (zcpS zFI zFJ (zc0 mr o) o (k + 1) 0) 0 (zc0 mr o)) ∨ (¬ zk3 x ∧ r' = 0 ∧ mr' = zc0 mr o)) : r = r' ∧ zTot mc' mr' f o := by
  obtain ⟨h1, h2, h3, h4, h5, h6⟩ := id h
  rcases hc with ⟨k, b2, hk, ex, eq, a1, a2⟩ | ⟨hn, a1, a2⟩
  · rcases h4 k hk with ⟨-, w⟩ | ⟨w, b2', w2, w3, w4, w5, w6⟩
    · rw [w] at eq; cases eq
    rw [w2] at eq
    cases eq
    have hr' : r' = 1 ∧ mr' = zcpS zFI zFJ (zc0 mr o) o (k + 1) 0 := by
      rcases hr with ⟨k', hk', ex', hr⟩ | ⟨hz, -, -⟩
      · rw [ex, nI_eq (by omega) (by omega)] at ex'
        subst ex'
        rcases hr with ⟨-, b1, b2⟩ | ⟨q, -, -⟩
        · exact ⟨b1, b2⟩
        · exact absurd w q
      · refine absurd ?_ hz
        rw [ex]
        refine ⟨by rw [show (0 : Int32) = nI 0 from rfl, nI_leI (by omega) (by omega)]; omega, by rw [show (2 : Int32) = nI 2 from rfl, nI_leI (by omega) (by omega)]; omega⟩
    obtain ⟨b1, b3⟩ := hr'
    clear hr
    subst a1 a2 b1 b3
    have hg : zR mc 3 (f + 1) ≠ zR mc 3 b2 := by rw [w3]; omega
    have co := zbCp_co (m := mc) (b := f + 1) (b2 := b2) (by omega) hg
    have fa := zbCp_fa mc (f + 1) b2
    have eR : ∀ g a, zR (zbCp mc (f + 1) b2) g a = zR mc g a := fun g a => zR_22 fa.1 g a
    have eQ : ∀ g a j, zQ (zbCp mc (f + 1) b2) g a j = zQ mc g a j := fun g a j => by
      show (zbCp mc (f + 1) b2).2.2.2 g a j = mc.2.2.2 g a j
      rw [fa.1]
    refine ⟨rfl, zSm_t w6 co zLe_a, ?_, ?_, fun k' hk' => ?_, zcp_by h5, zcp_8 h6⟩
    · rw [eR, eR]; exact h2
    · rw [eR]
      have ng : ∀ g j, zI (zbCp mc (f + 1) b2) g (zR mc 502 f) j = zI mc g (zR mc 502 f) j ∨ ¬ (g = 200 ∨ (1201 ≤ g ∧ g ≤ 1207)) := fun g j => by
        by_cases q : g = 200 ∨ (1201 ≤ g ∧ g ≤ 1207)
        · left
          refine (fa.2 g _ j ?_).1
          rintro (⟨-, -, z⟩ | ⟨z, -⟩)
          · exact z q
          · omega
        · exact Or.inr q
      obtain ⟨⟨n, hn, en⟩, ht⟩ := h3
      refine ⟨⟨n, hn, ((ng 200 0).resolve_right (fun z => z (by omega))).trans en⟩, fun l hl => ?_⟩
      rw [(ng 1203 l).resolve_right (fun z => z (by omega))]
      exact ht l hl
    · rw [zcp_49, eQ]
      rcases h4 k' hk' with v | ⟨v, b3, v2, v3, v4, v5, v6⟩
      · exact Or.inl v
      · refine Or.inr ⟨v, b3, v2, by rw [eR]; exact v3, v4, fun k'' b4 => by rw [eQ]; exact v5 k'' b4, ?_⟩
        refine zSm_t v6 (zCo_st (fun g a j x1 x2 => fa.2 g a j ?_) (eR 3 b3) (fun g hg => funext fun j => (fa.2 g _ j ?_).1)) (zLe_o (by omega))
        · rintro (⟨z1, z2, -⟩ | ⟨z, -⟩)
          · omega
          · omega
        · rintro (⟨-, -, z⟩ | ⟨z, -⟩)
          · exact z hg
          · rw [v3] at z
            omega
  · have hr' : r' = 0 ∧ mr' = zc0 mr o := by
      rcases hr with ⟨k', hk', ex', hr⟩ | ⟨-, b1, b2⟩
      · rcases hr with ⟨q, -, -⟩ | ⟨-, b1, b2⟩
        · rcases h4 k' hk' with ⟨w, -⟩ | ⟨-, b2, w2, -⟩
          · exact absurd w q
          · exact absurd ⟨k', b2, hk', ex', w2⟩ hn
        · exact ⟨b1, b2⟩
      · exact ⟨b1, b2⟩
    obtain ⟨b1, b2⟩ := hr'
    subst a1 a2 b1 b2
    exact ⟨rfl, zTot_0 h⟩
/-- an image is taken: into a book b2 that stands apart, memory m1 -/
theorem sim_image1 {mc mc1 mr : zM} {f o k b2 : Nat} (h : zTot mc mr f o) (hk : k < 3) (e1 : ∀ g a j, a < f + 133 → zI mc1 g a j = zI mc g a j ∧ zJ mc1 g a j = zJ mc g a j) (e2 : zR mc1 3 (f + 1) = zR mc 3 (f + 1) ∧ zR mc1 502 f = zR mc 502 f) (e3 : zQ mc1 1501 f k = some b2) (e4 : ∀ k', k' < 3 → k' ≠ k → zQ mc1 1501 f k' = zQ mc 1501 f k') (e5 : ∀ k' b3, k' < 3 → k' ≠ k → zQ mc 1501 f k' = some b3 → (b2 + 123 ≤ b3 ∨ b3 + 123 ≤ b2) ∧ zR mc1 3 b3 = zR mc 3 b3 ∧ ∀ g a j, b3 ≤ a → a < b3 + 123 → zI mc1 g a j = zI mc g a j ∧ zJ mc1 g a j = zJ mc g a j) (e6 : zR mc1 3 b2 = b2 + 2) (e7 : f + 133 ≤ b2) : zTot (zbCp mc1 b2 (f + 1)) (zsI (zcpS zFI zFJ (zc0 mr o) o 0 (k + 1)) 1649 o k 1) f o := by
  obtain ⟨h1, h2, h3, h4, h5, h6⟩ := id h
  have fa := zbCp_fa mc1 b2 (f + 1)
  have hg : zR mc1 3 b2 ≠ zR mc1 3 (f + 1) := by rw [e6, e2.1]; omega
  have co := zbCp_co (m := mc1) (b := b2) (b2 := f + 1) (by omega) hg
  have eR : ∀ g a, zR (zbCp mc1 b2 (f + 1)) g a = zR mc1 g a := fun g a => zR_22 fa.1 g a
  have eQ : ∀ g a j, zQ (zbCp mc1 b2 (f + 1)) g a j = zQ mc1 g a j := fun g a j => by
    show (zbCp mc1 b2 (f + 1)).2.2.2 g a j = mc1.2.2.2 g a j
    rw [fa.1]
  have g48 : ∀ u, zLe (zsl u (zcpS zFI zFJ (zc0 mr o) o 0 (k + 1))) (zsl u (zsI (zcpS zFI zFJ (zc0 mr o) o 0 (k + 1)) 1649 o k 1)) o := fun u f j _ => by
    refine ⟨fun hf => ?_, fun hf => ?_⟩
    · rw [zsl_I (zFI_r hf), zsl_I (zFI_r hf), zI_n (by have := zFI_r hf; omega)]
    · rw [zsl_J (zFJ_r hf), zsl_J (zFJ_r hf), zJ_sI]
  have tr : ∀ {a b c : zM}, zLe a b o → zLe b c o → zLe a c o := fun h1 h2 f j hj => ⟨fun hf => ((h2 f j hj).1 hf).trans ((h1 f j hj).1 hf), fun hf => ((h2 f j hj).2 hf).trans ((h1 f j hj).2 hf)⟩
  -- the book at hand as it was
  have here : zCo mc (f + 1) mc1 (f + 1) := by
    refine zCo_st (fun g a j x1 x2 => e1 g a j (by omega)) e2.1 (fun g hg => funext fun j => (e1 g _ j ?_).1)
    rcases h2 with ⟨z, -⟩ | ⟨z, -⟩ <;> omega
  have here2 : zCo mc1 (f + 1) (zbCp mc1 b2 (f + 1)) (f + 1) := by
    refine zCo_st (fun g a j x1 x2 => fa.2 g a j ?_) (eR _ _) (fun g hg' => funext fun j => (fa.2 g _ j ?_).1)
    · rintro (⟨z1, z2, -⟩ | ⟨z, -⟩)
      · omega
      · omega
    · rintro (⟨-, -, z⟩ | ⟨z, -⟩)
      · exact z hg'
      · exact hg z.symm
  have q0 := zSm_t h1 here zLe_rf
  have l0 : zLe mr (zsI (zcpS zFI zFJ (zc0 mr o) o 0 (k + 1)) 1649 o k 1) o := by
    have := tr (zLe_o (mr := mr) (o := o) (s := 0) (t := k + 1) (u := 0) (by omega)) (g48 0)
    rw [zsl_0, zsl_0] at this
    exact this
  refine ⟨zSm_t q0 here2 l0, ?_, ?_, fun k' hk' => ?_, fun j => ?_, fun j => ?_⟩
  · rw [eR, eR, e2.1, e2.2]; exact h2
  · rw [eR, e2.2]
    have ng : ∀ g j, (g = 200 ∨ (1201 ≤ g ∧ g ≤ 1207)) → zI (zbCp mc1 b2 (f + 1)) g (zR mc 502 f) j = zI mc g (zR mc 502 f) j := fun g j q => by
      refine (fa.2 g _ j ?_).1.trans (e1 g _ j ?_).1
      · rintro (⟨-, -, z⟩ | ⟨z, -⟩)
        · exact z q
        · omega
      · rcases h2 with ⟨-, z⟩ | ⟨-, z⟩ <;> omega
    obtain ⟨⟨n, hn, en⟩, ht⟩ := h3
    exact ⟨⟨n, hn, (ng 200 0 (by omega)).trans en⟩, fun l hl => by rw [ng 1203 l (by omega)]; exact ht l hl⟩
  · rw [eQ]
    by_cases e : k' = k
    · subst e
      refine Or.inr ⟨by rw [zI_e]; decide, b2, e3, by rw [eR]; exact e6, e7, fun k'' b3 hk'' hne => ?_, ?_⟩
      · rw [eQ, e4 k'' hk'' hne]
        exact fun z => (e5 k'' b3 hk'' hne z).1
      · exact zSm_t q0 co (tr zLe_i (g48 _))
    · rw [zI_nj e, zcp_49, e4 k' hk' e]
      rcases h4 k' hk' with v | ⟨v, b3, v2, v3, v4, v5, v6⟩
      · exact Or.inl v
      · obtain ⟨d1, d2, d3⟩ := e5 k' b3 hk' e v2
        refine Or.inr ⟨v, b3, v2, by rw [eR, d2]; exact v3, v4, fun k'' b4 hk'' hne => ?_, ?_⟩
        · rw [eQ]
          by_cases ek : k'' = k
          · subst ek
            rw [e3]
            intro z
            cases z
            exact d1.symm
          · rw [e4 k'' hk'' ek]
            exact v5 k'' b4 hk'' hne
        · have s1 : zCo mc b3 mc1 b3 := zCo_st d3 d2 (fun g hg' => funext fun j => (d3 g _ j (by rw [v3]; omega) (by rw [v3]; omega)).1)
          have s2 : zCo mc1 b3 (zbCp mc1 b2 (f + 1)) b3 := by
            refine zCo_st (fun g a j x1 x2 => fa.2 g a j ?_) (eR _ _) (fun g hg' => funext fun j => (fa.2 g _ j ?_).1)
            · rintro (⟨z1, z2, -⟩ | ⟨z, -⟩)
              · omega
              · omega
            · rintro (⟨-, -, z⟩ | ⟨z, -⟩)
              · exact z hg'
              · rw [d2, v3, e6] at z
                omega
          exact zSm_t (zSm_t v6 s1 zLe_rf) s2 (tr (zLe_o (by omega)) (g48 _))
  · rw [zI_n (by decide)]
    exact zcp_by h5 j
  · rw [zI_n (by decide)]
    exact zcp_8 h6 j
