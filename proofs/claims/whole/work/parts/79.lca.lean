/-! the law's cases -/
theorem n49_feed {mc mr m' : zM} {f o : Nat} {r x1 x2 x3 x4 x5 : Int32} (h : zTot mc mr f o) (hp : ∀ k, k ≤ 400 → zI mr 1602 o 0 = nI k → zIt r m' (k ≤ 380) (nI (k + 20)) (zRfo (zRfo (zRfo (zRfo (zRfo (zc0 mr o) o x1) o x2) o x3) o x4) o x5) (-1) (zc0 mr o)) : z49 mr m' := by
  obtain ⟨k, hk, ek⟩ := h.1.1.1.2.2.1.2
  exact z49_It (hp k hk ek) (z49_fo (z49_fo (z49_fo (z49_fo (z49_fo z49_0))))) z49_0
theorem n49_claim {mr m' : zM} {o : Nat} {r : Int32} {P Q : Prop} {x1 x2 x3 x4 x5 : Int32} (hp : (P ∧ ∃ n, n < 16 ∧ zI mr 1606 o 0 = nI n ∧ zIt r m' (zRH (zRnew (zc0 mr o) o n x1 x2 x3 x4 x5) o) (nI n) (zRnew (zc0 mr o) o n x1 x2 x3 x4 x5) (-1) (zsI (zRnew (zc0 mr o) o n x1 x2 x3 x4 x5) 1606 o 0 (nI n))) ∨ (Q ∧ r = -1 ∧ m' = zc0 mr o)) : z49 mr m' := by
  rcases hp with ⟨_, n, _, _, hi⟩ | ⟨_, _, e⟩
  · exact z49_It hi (z49_n9 z49_0) (z49_I (by decide) (z49_n9 z49_0))
  · exact z49_e e
theorem n49_finish {mr m' : zM} {o : Nat} {r : Int64} {P Q : Prop} (hp : (P ∧ ∃ k, k < 2 ^ 31 ∧ (zRf1 (zc0 mr o) o (zRa (zc0 mr o) o) (zI (zc0 mr o) 1606 o 0).toNatClampNeg).1 = lN k ∧ m' = zRfm (zc0 mr o) o k ∧ r = zsum (zJ m' 1610 o) (zI mr 1606 o 0).toNatClampNeg - zsum (zJ mr 1610 o) (zI mr 1606 o 0).toNatClampNeg) ∨ (Q ∧ r = -1 ∧ m' = zc0 mr o)) : z49 mr m' := by
  rcases hp with ⟨_, k, _, _, e, _⟩ | ⟨_, _, e⟩
  · rw [e]; exact z49_fm z49_0
  · exact z49_e e
theorem n_fee {mc mr m' : zM} {f o : Nat} {r x1 x2 : Int32} (h : zTot mc mr f o) (hp : (∀ c, c < (zI mr 1606 o 0).toNatClampNeg → x1 = nI c → zIt r m' ((0 ≤ x2 ∧ x2 ≤ 40) ∧ zI mr 1608 o 0 = 0) 1 (zsI (zc0 mr o) 1609 o (10 * c + 7) x2) 0 (zc0 mr o)) ∧ (¬ zIsC x1 (zI mr 1606 o 0) → r = 0 ∧ m' = zc0 mr o)) : zAt mr o x1 (fun c => zIt r m' ((0 ≤ x2 ∧ x2 ≤ 40) ∧ zI mr 1608 o 0 = 0) 1 (zsI (zc0 mr o) 1609 o (10 * c + 7) x2) 0 (zc0 mr o)) (r = 0 ∧ m' = zc0 mr o) := by
  obtain ⟨n, hn, en, _⟩ := zSq_n h.1.1
  exact zAt_of hn en hp.1 hp.2
set_option maxRecDepth 100000 in
theorem lc_fund {C : zC} {Gc Gr : zG} {mc mr : zM} {f o b N i k n : Nat} {xs : Nat → Int32} (hv : zLv C Gc Gr mc mr f o) (hs : zSp9 C b N xs) (hi : i + 6 ≤ N) (hR : zRm C = room_1) (hk : k + 123 ≤ 600000 ∧ n + 1378 ≤ 7302250) (K : ∀ Gc' Gr' mc' mr', zLv C Gc' Gr' mc' mr' f o → zX C 4 (k + 123) (n + 1378) 939 (zLL f o b i) [] (zl2 Gc' Gr' mc' mr')) : zX C 4 k n 140 (zLL f o b i) [] (zl2 Gc Gr mc mr) := by
  have hF0 := hv.1
  have hFc := zLv_c hv
  have hFr := zLv_r hv
  have hts := hF0.2.2.2.2
  have hLc := hv.2.2.2.2.1
  have hLr := hv.2.2.2.2.2.1
  have hDj := hv.2.2.2.2.2.2.1
  have kf := hv.2.2.2.2.2.2.2.1
  have ko := hv.2.2.2.2.2.2.2.2.1
  have h := hv.2.2.2.2.2.2.2.2.2.1
  have hkk : k ≤ (zRm C).cells ∧ n ≤ (zRm C).slots := by rw [hR]; exact ⟨by show k ≤ 600000; omega, by show n ≤ 7302250; omega⟩
  refine zx_aload_n hF0 2 dL_law_140 rfl ?_
  refine zl_arg (c := 1) hF0 hs hi (by decide) rfl dL_law_141 dL_law_142 dL_law_143 dL_law_144 dL_law_145 ?_
  refine zx_i2l hF0 dL_law_146 rfl ?_
  refine zx_bipush hF0 dL_law_147 (v := 32) (by decide) ?_
  refine zx_lshl hF0 dL_law_149 rfl ?_
  refine zl_arg (c := 2) hF0 hs hi (by decide) rfl dL_law_150 dL_law_151 dL_law_152 dL_law_153 dL_law_154 ?_
  refine zx_i2l hF0 dL_law_155 rfl ?_
  refine zx_ldc2 hF0 (v := 4294967295) (wsL_law_in _ (List.mem_of_getElem? (i := 6) (by decide +kernel))) dL_law_156 ?_
  refine zx_land hF0 dL_law_159 ?_
  refine zx_lor hF0 dL_law_160 ?_
  refine zl_callVi (As := [.long ((((xs (i + 1))).toInt64 <<< ((Int32.toInt64 32) &&& 63)) ||| (((xs (i + 2))).toInt64 &&& 4294967295))]) (rest := []) hFc hDj (C_X5_fund hLc f ((((xs (i + 1))).toInt64 <<< ((Int32.toInt64 32) &&& 63)) ||| (((xs (i + 2))).toInt64 &&& 4294967295)) mc kf trivial) (bytes := cX5_fund) (maxL := 3) (nn := 1) (cwV 1 hts nL_X5_fund rfl rfl rfl (by decide +kernel) (by rw [hR]; exact ⟨Nat.le_of_ble_eq_true rfl, Nat.le_of_ble_eq_true rfl⟩)) kf (by decide) rfl dL_law_161 rfl rfl (Nat.le_of_ble_eq_true rfl) hkk (fun r m' hp => ?_)
  refine zx_aload_n hF0 1 dL_law_164 rfl ?_
  refine zl_arg (c := 1) hF0 hs hi (by decide) rfl dL_law_165 dL_law_166 dL_law_167 dL_law_168 dL_law_169 ?_
  refine zx_i2l hF0 dL_law_170 rfl ?_
  refine zx_bipush hF0 dL_law_171 (v := 32) (by decide) ?_
  refine zx_lshl hF0 dL_law_173 rfl ?_
  refine zl_arg (c := 2) hF0 hs hi (by decide) rfl dL_law_174 dL_law_175 dL_law_176 dL_law_177 dL_law_178 ?_
  refine zx_i2l hF0 dL_law_179 rfl ?_
  refine zx_ldc2 hF0 (v := 4294967295) (wsL_law_in _ (List.mem_of_getElem? (i := 6) (by decide +kernel))) dL_law_180 ?_
  refine zx_land hF0 dL_law_183 ?_
  refine zx_lor hF0 dL_law_184 ?_
  refine zX_mo ?_ (fun H h => h.symm)
  refine zl_callVi (As := [.long ((((xs (i + 1))).toInt64 <<< ((Int32.toInt64 32) &&& 63)) ||| (((xs (i + 2))).toInt64 &&& 4294967295))]) (rest := [.int r]) hFr hDj.sy (C_X6_fund hLr o ((((xs (i + 1))).toInt64 <<< ((Int32.toInt64 32) &&& 63)) ||| (((xs (i + 2))).toInt64 &&& 4294967295)) mr ko (zRC_N (zSq_C h.1.1))) (bytes := cX6_fund) (maxL := 3) (nn := 1) (cwV 1 hts nL_X6_fund rfl rfl rfl (by decide +kernel) (by rw [hR]; exact ⟨Nat.le_of_ble_eq_true rfl, Nat.le_of_ble_eq_true rfl⟩)) ko (by decide) rfl dL_law_185 rfl rfl (Nat.le_of_ble_eq_true rfl) hkk (fun r2 m2 hp2 => ?_)
  obtain ⟨er, hT⟩ := law_fin h (sim_fund h.1 hp hp2) (z49_It hp2 (z49_J z49_0) z49_0)
  exact zx_icmp_eq hF0 dL_law_188 (tgt := 939) (by decide) (fun _ => (zX_wd (Nat.le_add_right _ _) (Nat.le_add_right _ _) (zX_mo (K Gc Gr _ _ (zLv_t hv hT)) (fun H h => h.symm)))) (fun ne => absurd er ne)
set_option maxRecDepth 100000 in
theorem lc_feed {C : zC} {Gc Gr : zG} {mc mr : zM} {f o b N i k n : Nat} {xs : Nat → Int32} (hv : zLv C Gc Gr mc mr f o) (hs : zSp9 C b N xs) (hi : i + 6 ≤ N) (hR : zRm C = room_1) (hk : k + 123 ≤ 600000 ∧ n + 1378 ≤ 7302250) (K : ∀ Gc' Gr' mc' mr', zLv C Gc' Gr' mc' mr' f o → zX C 4 (k + 123) (n + 1378) 939 (zLL f o b i) [] (zl2 Gc' Gr' mc' mr')) : zX C 4 k n 193 (zLL f o b i) [] (zl2 Gc Gr mc mr) := by
  have hF0 := hv.1
  have hFc := zLv_c hv
  have hFr := zLv_r hv
  have hts := hF0.2.2.2.2
  have hLc := hv.2.2.2.2.1
  have hLr := hv.2.2.2.2.2.1
  have hDj := hv.2.2.2.2.2.2.1
  have kf := hv.2.2.2.2.2.2.2.1
  have ko := hv.2.2.2.2.2.2.2.2.1
  have h := hv.2.2.2.2.2.2.2.2.2.1
  have hkk : k ≤ (zRm C).cells ∧ n ≤ (zRm C).slots := by rw [hR]; exact ⟨by show k ≤ 600000; omega, by show n ≤ 7302250; omega⟩
  refine zx_aload_n hF0 2 dL_law_193 rfl ?_
  refine zl_arg (c := 1) hF0 hs hi (by decide) rfl dL_law_194 dL_law_195 dL_law_196 dL_law_197 dL_law_198 ?_
  refine zl_arg (c := 2) hF0 hs hi (by decide) rfl dL_law_199 dL_law_200 dL_law_201 dL_law_202 dL_law_203 ?_
  refine zl_arg (c := 3) hF0 hs hi (by decide) rfl dL_law_204 dL_law_205 dL_law_206 dL_law_207 dL_law_208 ?_
  refine zl_arg (c := 4) hF0 hs hi (by decide) rfl dL_law_209 dL_law_210 dL_law_211 dL_law_212 dL_law_213 ?_
  refine zl_arg (c := 5) hF0 hs hi (by decide) rfl dL_law_214 dL_law_215 dL_law_216 dL_law_217 dL_law_218 ?_
  refine zl_callVi (As := [.int (xs (i + 1)), .int (xs (i + 2)), .int (xs (i + 3)), .int (xs (i + 4)), .int (xs (i + 5))]) (rest := []) hFc hDj (C_X5_feed hLc f (xs (i + 1)) (xs (i + 2)) (xs (i + 3)) (xs (i + 4)) (xs (i + 5)) mc kf (zSq_b h.1.1)) (bytes := cX5_feed) (maxL := 6) (nn := 5) (cwV 5 hts nL_X5_feed rfl rfl rfl (by decide +kernel) (by rw [hR]; exact ⟨Nat.le_of_ble_eq_true rfl, Nat.le_of_ble_eq_true rfl⟩)) kf (by decide) rfl dL_law_219 rfl rfl (Nat.le_of_ble_eq_true rfl) hkk (fun r m' hp => ?_)
  refine zx_aload_n hF0 1 dL_law_222 rfl ?_
  refine zl_arg (c := 1) hF0 hs hi (by decide) rfl dL_law_223 dL_law_224 dL_law_225 dL_law_226 dL_law_227 ?_
  refine zl_arg (c := 2) hF0 hs hi (by decide) rfl dL_law_228 dL_law_229 dL_law_230 dL_law_231 dL_law_232 ?_
  refine zl_arg (c := 3) hF0 hs hi (by decide) rfl dL_law_233 dL_law_234 dL_law_235 dL_law_236 dL_law_237 ?_
  refine zl_arg (c := 4) hF0 hs hi (by decide) rfl dL_law_238 dL_law_239 dL_law_240 dL_law_241 dL_law_242 ?_
  refine zl_arg (c := 5) hF0 hs hi (by decide) rfl dL_law_243 dL_law_244 dL_law_245 dL_law_246 dL_law_247 ?_
  refine zX_mo ?_ (fun H h => h.symm)
  refine zl_callVi (As := [.int (xs (i + 1)), .int (xs (i + 2)), .int (xs (i + 3)), .int (xs (i + 4)), .int (xs (i + 5))]) (rest := [.int r]) hFr hDj.sy (C_X6_feed hLr o (xs (i + 1)) (xs (i + 2)) (xs (i + 3)) (xs (i + 4)) (xs (i + 5)) mr ko h.1.1.1.2.2.1.2) (bytes := cX6_feed) (maxL := 6) (nn := 5) (cwV 5 hts nL_X6_feed rfl rfl rfl (by decide +kernel) (by rw [hR]; exact ⟨Nat.le_of_ble_eq_true rfl, Nat.le_of_ble_eq_true rfl⟩)) ko (by decide) rfl dL_law_248 rfl rfl (Nat.le_of_ble_eq_true rfl) hkk (fun r2 m2 hp2 => ?_)
  obtain ⟨er, hT⟩ := law_fin h (sim_feed h.1 hp hp2) (n49_feed h hp2)
  exact zx_icmp_eq hF0 dL_law_251 (tgt := 939) (by decide) (fun _ => (zX_wd (Nat.le_add_right _ _) (Nat.le_add_right _ _) (zX_mo (K Gc Gr _ _ (zLv_t hv hT)) (fun H h => h.symm)))) (fun ne => absurd er ne)
set_option maxRecDepth 100000 in
theorem lc_end {C : zC} {Gc Gr : zG} {mc mr : zM} {f o b N i k n : Nat} {xs : Nat → Int32} (hv : zLv C Gc Gr mc mr f o) (hs : zSp9 C b N xs) (hi : i + 6 ≤ N) (hR : zRm C = room_1) (hk : k + 123 ≤ 600000 ∧ n + 1378 ≤ 7302250) (K : ∀ Gc' Gr' mc' mr', zLv C Gc' Gr' mc' mr' f o → zX C 4 (k + 123) (n + 1378) 939 (zLL f o b i) [] (zl2 Gc' Gr' mc' mr')) : zX C 4 k n 256 (zLL f o b i) [] (zl2 Gc Gr mc mr) := by
  have hF0 := hv.1
  have hFc := zLv_c hv
  have hFr := zLv_r hv
  have hts := hF0.2.2.2.2
  have hLc := hv.2.2.2.2.1
  have hLr := hv.2.2.2.2.2.1
  have hDj := hv.2.2.2.2.2.2.1
  have kf := hv.2.2.2.2.2.2.2.1
  have ko := hv.2.2.2.2.2.2.2.2.1
  have h := hv.2.2.2.2.2.2.2.2.2.1
  have hkk : k ≤ (zRm C).cells ∧ n ≤ (zRm C).slots := by rw [hR]; exact ⟨by show k ≤ 600000; omega, by show n ≤ 7302250; omega⟩
  refine zx_aload_n hF0 2 dL_law_256 rfl ?_
  refine zl_arg (c := 1) hF0 hs hi (by decide) rfl dL_law_257 dL_law_258 dL_law_259 dL_law_260 dL_law_261 ?_
  refine zl_callVi (As := [.int (xs (i + 1))]) (rest := []) hFc hDj (C_X5_end hLc f (xs (i + 1)) mc kf trivial) (bytes := cX5_end) (maxL := 2) (nn := 1) (cwV 1 hts nL_X5_end rfl rfl rfl (by decide +kernel) (by rw [hR]; exact ⟨Nat.le_of_ble_eq_true rfl, Nat.le_of_ble_eq_true rfl⟩)) kf (by decide) rfl dL_law_262 rfl rfl (Nat.le_of_ble_eq_true rfl) hkk (fun r m' hp => ?_)
  refine zx_aload_n hF0 1 dL_law_265 rfl ?_
  refine zl_arg (c := 1) hF0 hs hi (by decide) rfl dL_law_266 dL_law_267 dL_law_268 dL_law_269 dL_law_270 ?_
  refine zX_mo ?_ (fun H h => h.symm)
  refine zl_callVi (As := [.int (xs (i + 1))]) (rest := [.int r]) hFr hDj.sy (C_X6_end hLr o (xs (i + 1)) mr ko trivial) (bytes := cX6_end) (maxL := 2) (nn := 1) (cwV 1 hts nL_X6_end rfl rfl rfl (by decide +kernel) (by rw [hR]; exact ⟨Nat.le_of_ble_eq_true rfl, Nat.le_of_ble_eq_true rfl⟩)) ko (by decide) rfl dL_law_271 rfl rfl (Nat.le_of_ble_eq_true rfl) hkk (fun r2 m2 hp2 => ?_)
  obtain ⟨er, hT⟩ := law_fin h (sim_end h.1 hp hp2) (z49_It hp2 (z49_I (by decide) z49_0) z49_0)
  exact zx_icmp_eq hF0 dL_law_274 (tgt := 939) (by decide) (fun _ => (zX_wd (Nat.le_add_right _ _) (Nat.le_add_right _ _) (zX_mo (K Gc Gr _ _ (zLv_t hv hT)) (fun H h => h.symm)))) (fun ne => absurd er ne)
set_option maxRecDepth 100000 in
theorem lc_fault {C : zC} {Gc Gr : zG} {mc mr : zM} {f o b N i k n : Nat} {xs : Nat → Int32} (hv : zLv C Gc Gr mc mr f o) (hs : zSp9 C b N xs) (hi : i + 6 ≤ N) (hR : zRm C = room_1) (hk : k + 123 ≤ 600000 ∧ n + 1378 ≤ 7302250) (K : ∀ Gc' Gr' mc' mr', zLv C Gc' Gr' mc' mr' f o → zX C 4 (k + 123) (n + 1378) 939 (zLL f o b i) [] (zl2 Gc' Gr' mc' mr')) : zX C 4 k n 292 (zLL f o b i) [] (zl2 Gc Gr mc mr) := by
  have hF0 := hv.1
  have hFc := zLv_c hv
  have hFr := zLv_r hv
  have hts := hF0.2.2.2.2
  have hLc := hv.2.2.2.2.1
  have hLr := hv.2.2.2.2.2.1
  have hDj := hv.2.2.2.2.2.2.1
  have kf := hv.2.2.2.2.2.2.2.1
  have ko := hv.2.2.2.2.2.2.2.2.1
  have h := hv.2.2.2.2.2.2.2.2.2.1
  have hkk : k ≤ (zRm C).cells ∧ n ≤ (zRm C).slots := by rw [hR]; exact ⟨by show k ≤ 600000; omega, by show n ≤ 7302250; omega⟩
  refine zx_aload_n hF0 2 dL_law_292 rfl ?_
  refine zl_arg (c := 1) hF0 hs hi (by decide) rfl dL_law_293 dL_law_294 dL_law_295 dL_law_296 dL_law_297 ?_
  refine zl_callVi (As := [.int (xs (i + 1))]) (rest := []) hFc hDj (C_X5_fault hLc f (xs (i + 1)) mc kf trivial) (bytes := cX5_fault) (maxL := 2) (nn := 1) (cwV 1 hts nL_X5_fault rfl rfl rfl (by decide +kernel) (by rw [hR]; exact ⟨Nat.le_of_ble_eq_true rfl, Nat.le_of_ble_eq_true rfl⟩)) kf (by decide) rfl dL_law_298 rfl rfl (Nat.le_of_ble_eq_true rfl) hkk (fun r m' hp => ?_)
  obtain ⟨em, hp⟩ := hp
  subst em
  refine zx_aload_n hF0 1 dL_law_301 rfl ?_
  refine zl_arg (c := 1) hF0 hs hi (by decide) rfl dL_law_302 dL_law_303 dL_law_304 dL_law_305 dL_law_306 ?_
  refine zX_mo ?_ (fun H h => h.symm)
  refine zl_callVi (As := [.int (xs (i + 1))]) (rest := [.int r]) hFr hDj.sy (C_X6_fault hLr o (xs (i + 1)) mr ko trivial) (bytes := cX6_fault) (maxL := 2) (nn := 1) (cwV 1 hts nL_X6_fault rfl rfl rfl (by decide +kernel) (by rw [hR]; exact ⟨Nat.le_of_ble_eq_true rfl, Nat.le_of_ble_eq_true rfl⟩)) ko (by decide) rfl dL_law_307 rfl rfl (Nat.le_of_ble_eq_true rfl) hkk (fun r2 m2 hp2 => ?_)
  obtain ⟨er, hT⟩ := law_fin h (sim_fault h.1 hp hp2) (z49_e hp2.1)
  exact zx_icmp_eq hF0 dL_law_310 (tgt := 939) (by decide) (fun _ => (zX_wd (Nat.le_add_right _ _) (Nat.le_add_right _ _) (zX_mo (K Gc Gr _ _ (zLv_t hv hT)) (fun H h => h.symm)))) (fun ne => absurd er ne)
set_option maxRecDepth 100000 in
theorem lc_claim {C : zC} {Gc Gr : zG} {mc mr : zM} {f o b N i k n : Nat} {xs : Nat → Int32} (hv : zLv C Gc Gr mc mr f o) (hs : zSp9 C b N xs) (hi : i + 6 ≤ N) (hR : zRm C = room_1) (hk : k + 123 ≤ 600000 ∧ n + 1378 ≤ 7302250) (K : ∀ Gc' Gr' mc' mr', zLv C Gc' Gr' mc' mr' f o → zX C 4 (k + 123) (n + 1378) 939 (zLL f o b i) [] (zl2 Gc' Gr' mc' mr')) : zX C 4 k n 315 (zLL f o b i) [] (zl2 Gc Gr mc mr) := by
  have hF0 := hv.1
  have hFc := zLv_c hv
  have hFr := zLv_r hv
  have hts := hF0.2.2.2.2
  have hLc := hv.2.2.2.2.1
  have hLr := hv.2.2.2.2.2.1
  have hDj := hv.2.2.2.2.2.2.1
  have kf := hv.2.2.2.2.2.2.2.1
  have ko := hv.2.2.2.2.2.2.2.2.1
  have h := hv.2.2.2.2.2.2.2.2.2.1
  have hkk : k ≤ (zRm C).cells ∧ n ≤ (zRm C).slots := by rw [hR]; exact ⟨by show k ≤ 600000; omega, by show n ≤ 7302250; omega⟩
  refine zx_aload_n hF0 2 dL_law_315 rfl ?_
  refine zl_arg (c := 1) hF0 hs hi (by decide) rfl dL_law_316 dL_law_317 dL_law_318 dL_law_319 dL_law_320 ?_
  refine zl_arg (c := 2) hF0 hs hi (by decide) rfl dL_law_321 dL_law_322 dL_law_323 dL_law_324 dL_law_325 ?_
  refine zl_arg (c := 3) hF0 hs hi (by decide) rfl dL_law_326 dL_law_327 dL_law_328 dL_law_329 dL_law_330 ?_
  refine zl_arg (c := 4) hF0 hs hi (by decide) rfl dL_law_331 dL_law_332 dL_law_333 dL_law_334 dL_law_335 ?_
  refine zl_arg (c := 5) hF0 hs hi (by decide) rfl dL_law_336 dL_law_337 dL_law_338 dL_law_339 dL_law_340 ?_
  refine zl_callVi (As := [.int (xs (i + 1)), .int (xs (i + 2)), .int (xs (i + 3)), .int (xs (i + 4)), .int (xs (i + 5))]) (rest := []) hFc hDj (C_X5_claim hLc f (xs (i + 1)) (xs (i + 2)) (xs (i + 3)) (xs (i + 4)) (xs (i + 5)) mc kf (zSq_b h.1.1)) (bytes := cX5_claim) (maxL := 6) (nn := 5) (cwV 5 hts nL_X5_claim rfl rfl rfl (by decide +kernel) (by rw [hR]; exact ⟨Nat.le_of_ble_eq_true rfl, Nat.le_of_ble_eq_true rfl⟩)) kf (by decide) rfl dL_law_341 rfl rfl (Nat.le_of_ble_eq_true rfl) hkk (fun r m' hp => ?_)
  refine zx_aload_n hF0 1 dL_law_344 rfl ?_
  refine zl_arg (c := 1) hF0 hs hi (by decide) rfl dL_law_345 dL_law_346 dL_law_347 dL_law_348 dL_law_349 ?_
  refine zl_arg (c := 2) hF0 hs hi (by decide) rfl dL_law_350 dL_law_351 dL_law_352 dL_law_353 dL_law_354 ?_
  refine zl_arg (c := 3) hF0 hs hi (by decide) rfl dL_law_355 dL_law_356 dL_law_357 dL_law_358 dL_law_359 ?_
  refine zl_arg (c := 4) hF0 hs hi (by decide) rfl dL_law_360 dL_law_361 dL_law_362 dL_law_363 dL_law_364 ?_
  refine zl_arg (c := 5) hF0 hs hi (by decide) rfl dL_law_365 dL_law_366 dL_law_367 dL_law_368 dL_law_369 ?_
  refine zX_mo ?_ (fun H h => h.symm)
  refine zl_callVi (As := [.int (xs (i + 1)), .int (xs (i + 2)), .int (xs (i + 3)), .int (xs (i + 4)), .int (xs (i + 5))]) (rest := [.int r]) hFr hDj.sy (C_X6_claim hLr o (xs (i + 1)) (xs (i + 2)) (xs (i + 3)) (xs (i + 4)) (xs (i + 5)) mr ko (zSq_C h.1.1)) (bytes := cX6_claim) (maxL := 8) (nn := 5) (cwV 5 hts nL_X6_claim rfl rfl rfl (by decide +kernel) (by rw [hR]; exact ⟨Nat.le_of_ble_eq_true rfl, Nat.le_of_ble_eq_true rfl⟩)) ko (by decide) rfl dL_law_370 rfl rfl (Nat.le_of_ble_eq_true rfl) hkk (fun r2 m2 hp2 => ?_)
  obtain ⟨er, hT⟩ := law_fin h (sim_claim h.1 hp hp2) (n49_claim hp2)
  exact zx_icmp_eq hF0 dL_law_373 (tgt := 939) (by decide) (fun _ => (zX_wd (Nat.le_add_right _ _) (Nat.le_add_right _ _) (zX_mo (K Gc Gr _ _ (zLv_t hv hT)) (fun H h => h.symm)))) (fun ne => absurd er ne)
set_option maxRecDepth 100000 in
theorem lc_paper {C : zC} {Gc Gr : zG} {mc mr : zM} {f o b N i k n : Nat} {xs : Nat → Int32} (hv : zLv C Gc Gr mc mr f o) (hs : zSp9 C b N xs) (hi : i + 6 ≤ N) (hR : zRm C = room_1) (hk : k + 123 ≤ 600000 ∧ n + 1378 ≤ 7302250) (K : ∀ Gc' Gr' mc' mr', zLv C Gc' Gr' mc' mr' f o → zX C 4 (k + 123) (n + 1378) 939 (zLL f o b i) [] (zl2 Gc' Gr' mc' mr')) : zX C 4 k n 378 (zLL f o b i) [] (zl2 Gc Gr mc mr) := by
  have hF0 := hv.1
  have hFc := zLv_c hv
  have hFr := zLv_r hv
  have hts := hF0.2.2.2.2
  have hLc := hv.2.2.2.2.1
  have hLr := hv.2.2.2.2.2.1
  have hDj := hv.2.2.2.2.2.2.1
  have kf := hv.2.2.2.2.2.2.2.1
  have ko := hv.2.2.2.2.2.2.2.2.1
  have h := hv.2.2.2.2.2.2.2.2.2.1
  have hkk : k ≤ (zRm C).cells ∧ n ≤ (zRm C).slots := by rw [hR]; exact ⟨by show k ≤ 600000; omega, by show n ≤ 7302250; omega⟩
  refine zx_aload_n hF0 2 dL_law_378 rfl ?_
  refine zl_arg (c := 1) hF0 hs hi (by decide) rfl dL_law_379 dL_law_380 dL_law_381 dL_law_382 dL_law_383 ?_
  refine zl_arg (c := 2) hF0 hs hi (by decide) rfl dL_law_384 dL_law_385 dL_law_386 dL_law_387 dL_law_388 ?_
  refine zl_callVi (As := [.int (xs (i + 1)), .int (xs (i + 2))]) (rest := []) hFc hDj (C_X5_paper hLc f (xs (i + 1)) (xs (i + 2)) mc kf (zSq_b h.1.1)) (bytes := cX5_paper) (maxL := 4) (nn := 2) (cwV 2 hts nL_X5_paper rfl rfl rfl (by decide +kernel) (by rw [hR]; exact ⟨Nat.le_of_ble_eq_true rfl, Nat.le_of_ble_eq_true rfl⟩)) kf (by decide) rfl dL_law_389 rfl rfl (Nat.le_of_ble_eq_true rfl) hkk (fun r m' hp => ?_)
  refine zx_aload_n hF0 1 dL_law_392 rfl ?_
  refine zl_arg (c := 1) hF0 hs hi (by decide) rfl dL_law_393 dL_law_394 dL_law_395 dL_law_396 dL_law_397 ?_
  refine zl_arg (c := 2) hF0 hs hi (by decide) rfl dL_law_398 dL_law_399 dL_law_400 dL_law_401 dL_law_402 ?_
  refine zX_mo ?_ (fun H h => h.symm)
  refine zl_callVi (As := [.int (xs (i + 1)), .int (xs (i + 2))]) (rest := [.int r]) hFr hDj.sy (C_X6_paper hLr o (xs (i + 1)) (xs (i + 2)) mr ko (zRC_N (zSq_C h.1.1))) (bytes := cX6_paper) (maxL := 3) (nn := 2) (cwV 2 hts nL_X6_paper rfl rfl rfl (by decide +kernel) (by rw [hR]; exact ⟨Nat.le_of_ble_eq_true rfl, Nat.le_of_ble_eq_true rfl⟩)) ko (by decide) rfl dL_law_403 rfl rfl (Nat.le_of_ble_eq_true rfl) hkk (fun r2 m2 hp2 => ?_)
  obtain ⟨er, hT⟩ := law_fin h (sim_paper h.1 hp hp2) (z49_At hp2 (fun c hi => z49_It hi (z49_I (by decide) z49_0) z49_0) (fun e => z49_e e.2))
  exact zx_icmp_eq hF0 dL_law_406 (tgt := 939) (by decide) (fun _ => (zX_wd (Nat.le_add_right _ _) (Nat.le_add_right _ _) (zX_mo (K Gc Gr _ _ (zLv_t hv hT)) (fun H h => h.symm)))) (fun ne => absurd er ne)
set_option maxRecDepth 100000 in
theorem lc_judge {C : zC} {Gc Gr : zG} {mc mr : zM} {f o b N i k n : Nat} {xs : Nat → Int32} (hv : zLv C Gc Gr mc mr f o) (hs : zSp9 C b N xs) (hi : i + 6 ≤ N) (hR : zRm C = room_1) (hk : k + 123 ≤ 600000 ∧ n + 1378 ≤ 7302250) (K : ∀ Gc' Gr' mc' mr', zLv C Gc' Gr' mc' mr' f o → zX C 4 (k + 123) (n + 1378) 939 (zLL f o b i) [] (zl2 Gc' Gr' mc' mr')) : zX C 4 k n 411 (zLL f o b i) [] (zl2 Gc Gr mc mr) := by
  have hF0 := hv.1
  have hFc := zLv_c hv
  have hFr := zLv_r hv
  have hts := hF0.2.2.2.2
  have hLc := hv.2.2.2.2.1
  have hLr := hv.2.2.2.2.2.1
  have hDj := hv.2.2.2.2.2.2.1
  have kf := hv.2.2.2.2.2.2.2.1
  have ko := hv.2.2.2.2.2.2.2.2.1
  have h := hv.2.2.2.2.2.2.2.2.2.1
  have hkk : k ≤ (zRm C).cells ∧ n ≤ (zRm C).slots := by rw [hR]; exact ⟨by show k ≤ 600000; omega, by show n ≤ 7302250; omega⟩
  refine zx_aload_n hF0 2 dL_law_411 rfl ?_
  refine zl_arg (c := 1) hF0 hs hi (by decide) rfl dL_law_412 dL_law_413 dL_law_414 dL_law_415 dL_law_416 ?_
  refine zl_callVi (As := [.int (xs (i + 1))]) (rest := []) hFc hDj (C_X5_judge hLc f (xs (i + 1)) mc kf (zSq_b h.1.1)) (bytes := cX5_judge) (maxL := 4) (nn := 1) (cwV 1 hts nL_X5_judge rfl rfl rfl (by decide +kernel) (by rw [hR]; exact ⟨Nat.le_of_ble_eq_true rfl, Nat.le_of_ble_eq_true rfl⟩)) kf (by decide) rfl dL_law_417 rfl rfl (Nat.le_of_ble_eq_true rfl) hkk (fun r m' hp => ?_)
  refine zx_aload_n hF0 1 dL_law_420 rfl ?_
  refine zl_arg (c := 1) hF0 hs hi (by decide) rfl dL_law_421 dL_law_422 dL_law_423 dL_law_424 dL_law_425 ?_
  refine zX_mo ?_ (fun H h => h.symm)
  refine zl_callVi (As := [.int (xs (i + 1))]) (rest := [.int r]) hFr hDj.sy (C_X6_judge hLr o (xs (i + 1)) mr ko (zSq_C h.1.1)) (bytes := cX6_judge) (maxL := 2) (nn := 1) (cwV 1 hts nL_X6_judge rfl rfl rfl (by decide +kernel) (by rw [hR]; exact ⟨Nat.le_of_ble_eq_true rfl, Nat.le_of_ble_eq_true rfl⟩)) ko (by decide) rfl dL_law_426 rfl rfl (Nat.le_of_ble_eq_true rfl) hkk (fun r2 m2 hp2 => ?_)
  obtain ⟨er, hT⟩ := law_fin h (sim_judge h.1 hp hp2) (z49_At hp2 (fun c hi => z49_It hi (z49_I (by decide) (z49_I (by decide) z49_0)) z49_0) (fun e => z49_e e.2))
  exact zx_icmp_eq hF0 dL_law_429 (tgt := 939) (by decide) (fun _ => (zX_wd (Nat.le_add_right _ _) (Nat.le_add_right _ _) (zX_mo (K Gc Gr _ _ (zLv_t hv hT)) (fun H h => h.symm)))) (fun ne => absurd er ne)
set_option maxRecDepth 100000 in
theorem lc_appeal {C : zC} {Gc Gr : zG} {mc mr : zM} {f o b N i k n : Nat} {xs : Nat → Int32} (hv : zLv C Gc Gr mc mr f o) (hs : zSp9 C b N xs) (hi : i + 6 ≤ N) (hR : zRm C = room_1) (hk : k + 123 ≤ 600000 ∧ n + 1378 ≤ 7302250) (K : ∀ Gc' Gr' mc' mr', zLv C Gc' Gr' mc' mr' f o → zX C 4 (k + 123) (n + 1378) 939 (zLL f o b i) [] (zl2 Gc' Gr' mc' mr')) : zX C 4 k n 434 (zLL f o b i) [] (zl2 Gc Gr mc mr) := by
  have hF0 := hv.1
  have hFc := zLv_c hv
  have hFr := zLv_r hv
  have hts := hF0.2.2.2.2
  have hLc := hv.2.2.2.2.1
  have hLr := hv.2.2.2.2.2.1
  have hDj := hv.2.2.2.2.2.2.1
  have kf := hv.2.2.2.2.2.2.2.1
  have ko := hv.2.2.2.2.2.2.2.2.1
  have h := hv.2.2.2.2.2.2.2.2.2.1
  have hkk : k ≤ (zRm C).cells ∧ n ≤ (zRm C).slots := by rw [hR]; exact ⟨by show k ≤ 600000; omega, by show n ≤ 7302250; omega⟩
  refine zx_aload_n hF0 2 dL_law_434 rfl ?_
  refine zl_arg (c := 1) hF0 hs hi (by decide) rfl dL_law_435 dL_law_436 dL_law_437 dL_law_438 dL_law_439 ?_
  refine zl_arg (c := 2) hF0 hs hi (by decide) rfl dL_law_440 dL_law_441 dL_law_442 dL_law_443 dL_law_444 ?_
  refine zl_callVi (As := [.int (xs (i + 1)), .int (xs (i + 2))]) (rest := []) hFc hDj (C_X5_appeal hLc f (xs (i + 1)) (xs (i + 2)) mc kf (zSq_b h.1.1)) (bytes := cX5_appeal) (maxL := 5) (nn := 2) (cwV 2 hts nL_X5_appeal rfl rfl rfl (by decide +kernel) (by rw [hR]; exact ⟨Nat.le_of_ble_eq_true rfl, Nat.le_of_ble_eq_true rfl⟩)) kf (by decide) rfl dL_law_445 rfl rfl (Nat.le_of_ble_eq_true rfl) hkk (fun r m' hp => ?_)
  refine zx_aload_n hF0 1 dL_law_448 rfl ?_
  refine zl_arg (c := 1) hF0 hs hi (by decide) rfl dL_law_449 dL_law_450 dL_law_451 dL_law_452 dL_law_453 ?_
  refine zl_arg (c := 2) hF0 hs hi (by decide) rfl dL_law_454 dL_law_455 dL_law_456 dL_law_457 dL_law_458 ?_
  refine zX_mo ?_ (fun H h => h.symm)
  refine zl_callVi (As := [.int (xs (i + 1)), .int (xs (i + 2))]) (rest := [.int r]) hFr hDj.sy (C_X6_appeal hLr o (xs (i + 1)) (xs (i + 2)) mr ko (zSq_C h.1.1)) (bytes := cX6_appeal) (maxL := 4) (nn := 2) (cwV 2 hts nL_X6_appeal rfl rfl rfl (by decide +kernel) (by rw [hR]; exact ⟨Nat.le_of_ble_eq_true rfl, Nat.le_of_ble_eq_true rfl⟩)) ko (by decide) rfl dL_law_459 rfl rfl (Nat.le_of_ble_eq_true rfl) hkk (fun r2 m2 hp2 => ?_)
  obtain ⟨er, hT⟩ := law_fin h (sim_appeal h.1 hp hp2) (z49_At hp2 (fun c hi => z49_Ho hi (z49_I (by decide) z49_0) z49_0 (z49_I (by decide) (z49_I (by decide) z49_0))) (fun e => z49_e e.2))
  exact zx_icmp_eq hF0 dL_law_462 (tgt := 939) (by decide) (fun _ => (zX_wd (Nat.le_add_right _ _) (Nat.le_add_right _ _) (zX_mo (K Gc Gr _ _ (zLv_t hv hT)) (fun H h => h.symm)))) (fun ne => absurd er ne)
set_option maxRecDepth 100000 in
theorem lc_points {C : zC} {Gc Gr : zG} {mc mr : zM} {f o b N i k n : Nat} {xs : Nat → Int32} (hv : zLv C Gc Gr mc mr f o) (hs : zSp9 C b N xs) (hi : i + 6 ≤ N) (hR : zRm C = room_1) (hk : k + 123 ≤ 600000 ∧ n + 1378 ≤ 7302250) (K : ∀ Gc' Gr' mc' mr', zLv C Gc' Gr' mc' mr' f o → zX C 4 (k + 123) (n + 1378) 939 (zLL f o b i) [] (zl2 Gc' Gr' mc' mr')) : zX C 4 k n 516 (zLL f o b i) [] (zl2 Gc Gr mc mr) := by
  have hF0 := hv.1
  have hFc := zLv_c hv
  have hFr := zLv_r hv
  have hts := hF0.2.2.2.2
  have hLc := hv.2.2.2.2.1
  have hLr := hv.2.2.2.2.2.1
  have hDj := hv.2.2.2.2.2.2.1
  have kf := hv.2.2.2.2.2.2.2.1
  have ko := hv.2.2.2.2.2.2.2.2.1
  have h := hv.2.2.2.2.2.2.2.2.2.1
  have hkk : k ≤ (zRm C).cells ∧ n ≤ (zRm C).slots := by rw [hR]; exact ⟨by show k ≤ 600000; omega, by show n ≤ 7302250; omega⟩
  refine zx_aload_n hF0 2 dL_law_516 rfl ?_
  refine zl_arg (c := 1) hF0 hs hi (by decide) rfl dL_law_517 dL_law_518 dL_law_519 dL_law_520 dL_law_521 ?_
  refine zl_arg (c := 2) hF0 hs hi (by decide) rfl dL_law_522 dL_law_523 dL_law_524 dL_law_525 dL_law_526 ?_
  refine zl_arg (c := 3) hF0 hs hi (by decide) rfl dL_law_527 dL_law_528 dL_law_529 dL_law_530 dL_law_531 ?_
  refine zl_arg (c := 4) hF0 hs hi (by decide) rfl dL_law_532 dL_law_533 dL_law_534 dL_law_535 dL_law_536 ?_
  refine zl_callVi (As := [.int (xs (i + 1)), .int (xs (i + 2)), .int (xs (i + 3)), .int (xs (i + 4))]) (rest := []) hFc hDj (C_X5_points hLc f (xs (i + 1)) (xs (i + 2)) (xs (i + 3)) (xs (i + 4)) mc kf (zSq_b h.1.1)) (bytes := cX5_points) (maxL := 5) (nn := 4) (cwV 4 hts nL_X5_points rfl rfl rfl (by decide +kernel) (by rw [hR]; exact ⟨Nat.le_of_ble_eq_true rfl, Nat.le_of_ble_eq_true rfl⟩)) kf (by decide) rfl dL_law_537 rfl rfl (Nat.le_of_ble_eq_true rfl) hkk (fun r m' hp => ?_)
  obtain ⟨em, hp⟩ := hp
  subst em
  refine zx_aload_n hF0 1 dL_law_540 rfl ?_
  refine zl_arg (c := 1) hF0 hs hi (by decide) rfl dL_law_541 dL_law_542 dL_law_543 dL_law_544 dL_law_545 ?_
  refine zl_arg (c := 2) hF0 hs hi (by decide) rfl dL_law_546 dL_law_547 dL_law_548 dL_law_549 dL_law_550 ?_
  refine zl_arg (c := 3) hF0 hs hi (by decide) rfl dL_law_551 dL_law_552 dL_law_553 dL_law_554 dL_law_555 ?_
  refine zl_arg (c := 4) hF0 hs hi (by decide) rfl dL_law_556 dL_law_557 dL_law_558 dL_law_559 dL_law_560 ?_
  refine zX_mo ?_ (fun H h => h.symm)
  refine zl_callVi (As := [.int (xs (i + 1)), .int (xs (i + 2)), .int (xs (i + 3)), .int (xs (i + 4))]) (rest := [.int r]) hFr hDj.sy (C_X6_points hLr o (xs (i + 1)) (xs (i + 2)) (xs (i + 3)) (xs (i + 4)) mr ko h.1.1.2.1.2.1) (bytes := cX6_points) (maxL := 5) (nn := 4) (cwV 4 hts nL_X6_points rfl rfl rfl (by decide +kernel) (by rw [hR]; exact ⟨Nat.le_of_ble_eq_true rfl, Nat.le_of_ble_eq_true rfl⟩)) ko (by decide) rfl dL_law_561 rfl rfl (Nat.le_of_ble_eq_true rfl) hkk (fun r2 m2 hp2 => ?_)
  obtain ⟨er, hT⟩ := law_fin h (sim_points h.1 hp hp2) (z49_e hp2.1)
  exact zx_icmp_eq hF0 dL_law_564 (tgt := 939) (by decide) (fun _ => (zX_wd (Nat.le_add_right _ _) (Nat.le_add_right _ _) (zX_mo (K Gc Gr _ _ (zLv_t hv hT)) (fun H h => h.symm)))) (fun ne => absurd er ne)
set_option maxRecDepth 100000 in
theorem lc_lacks {C : zC} {Gc Gr : zG} {mc mr : zM} {f o b N i k n : Nat} {xs : Nat → Int32} (hv : zLv C Gc Gr mc mr f o) (hs : zSp9 C b N xs) (hi : i + 6 ≤ N) (hR : zRm C = room_1) (hk : k + 123 ≤ 600000 ∧ n + 1378 ≤ 7302250) (K : ∀ Gc' Gr' mc' mr', zLv C Gc' Gr' mc' mr' f o → zX C 4 (k + 123) (n + 1378) 939 (zLL f o b i) [] (zl2 Gc' Gr' mc' mr')) : zX C 4 k n 569 (zLL f o b i) [] (zl2 Gc Gr mc mr) := by
  have hF0 := hv.1
  have hFc := zLv_c hv
  have hFr := zLv_r hv
  have hts := hF0.2.2.2.2
  have hLc := hv.2.2.2.2.1
  have hLr := hv.2.2.2.2.2.1
  have hDj := hv.2.2.2.2.2.2.1
  have kf := hv.2.2.2.2.2.2.2.1
  have ko := hv.2.2.2.2.2.2.2.2.1
  have h := hv.2.2.2.2.2.2.2.2.2.1
  have hkk : k ≤ (zRm C).cells ∧ n ≤ (zRm C).slots := by rw [hR]; exact ⟨by show k ≤ 600000; omega, by show n ≤ 7302250; omega⟩
  refine zx_aload_n hF0 2 dL_law_569 rfl ?_
  refine zl_arg (c := 1) hF0 hs hi (by decide) rfl dL_law_570 dL_law_571 dL_law_572 dL_law_573 dL_law_574 ?_
  refine zl_arg (c := 2) hF0 hs hi (by decide) rfl dL_law_575 dL_law_576 dL_law_577 dL_law_578 dL_law_579 ?_
  refine zl_callVi (As := [.int (xs (i + 1)), .int (xs (i + 2))]) (rest := []) hFc hDj (C_X5_lacks hLc f (xs (i + 1)) (xs (i + 2)) mc kf (zSq_b h.1.1)) (bytes := cX5_lacks) (maxL := 4) (nn := 2) (cwV 2 hts nL_X5_lacks rfl rfl rfl (by decide +kernel) (by rw [hR]; exact ⟨Nat.le_of_ble_eq_true rfl, Nat.le_of_ble_eq_true rfl⟩)) kf (by decide) rfl dL_law_580 rfl rfl (Nat.le_of_ble_eq_true rfl) hkk (fun r m' hp => ?_)
  obtain ⟨em, hp⟩ := hp
  subst em
  refine zx_aload_n hF0 1 dL_law_583 rfl ?_
  refine zl_arg (c := 1) hF0 hs hi (by decide) rfl dL_law_584 dL_law_585 dL_law_586 dL_law_587 dL_law_588 ?_
  refine zl_arg (c := 2) hF0 hs hi (by decide) rfl dL_law_589 dL_law_590 dL_law_591 dL_law_592 dL_law_593 ?_
  refine zX_mo ?_ (fun H h => h.symm)
  refine zl_callVi (As := [.int (xs (i + 1)), .int (xs (i + 2))]) (rest := [.int r]) hFr hDj.sy (C_X6_lacks hLr o (xs (i + 1)) (xs (i + 2)) mr ko (zSq_C h.1.1)) (bytes := cX6_lacks) (maxL := 3) (nn := 2) (cwV 2 hts nL_X6_lacks rfl rfl rfl (by decide +kernel) (by rw [hR]; exact ⟨Nat.le_of_ble_eq_true rfl, Nat.le_of_ble_eq_true rfl⟩)) ko (by decide) rfl dL_law_594 rfl rfl (Nat.le_of_ble_eq_true rfl) hkk (fun r2 m2 hp2 => ?_)
  obtain ⟨er, hT⟩ := law_fin h (sim_lacks h.1 hp hp2) (z49_e hp2.1)
  exact zx_icmp_eq hF0 dL_law_597 (tgt := 939) (by decide) (fun _ => (zX_wd (Nat.le_add_right _ _) (Nat.le_add_right _ _) (zX_mo (K Gc Gr _ _ (zLv_t hv hT)) (fun H h => h.symm)))) (fun ne => absurd er ne)
