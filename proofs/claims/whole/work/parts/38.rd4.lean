/-! the class's reader: tests, acts, lines -/
theorem zEL_f {m : zM} {g f : Nat} {a v : Int32} (h : ¬ (f = 200 ∨ (1201 ≤ f ∧ f ≤ 1203))) : zI (zEL m g a v) f = zI m f := by
  funext x j
  unfold zEL
  split
  · rfl
  split
  · rw [zI_n (by omega), zI_n (by omega), zI_n (by omega)]
  · rw [zI_n (by omega), zI_n (by omega), zI_n (by omega), zI_n (by omega)]
theorem zEL_2 {m : zM} {g : Nat} {a v : Int32} : (zEL m g a v).2 = m.2 := (zCf_EL (r := 0)).2
theorem zEL_w {m : zM} {g : Nat} {a v : Int32} (h : zWG m g) : zWG (zEL m g a v) g := by
  obtain ⟨⟨L, hL16, eL⟩, ht⟩ := h
  unfold zEL
  rw [eL]
  split
  · exact ⟨⟨L, hL16, eL⟩, ht⟩
  rename_i q
  have q := Decidable.byContradiction q
  rw [show (16 : Int32) = nI 16 from rfl, nI_ltI (by omega) (by omega)] at q
  rw [← nI_succ]
  split
  · refine ⟨⟨L + 1, by omega, zI_e⟩, fun l hl => ?_⟩
    rw [zI_n (by decide), zI_n (by decide), zI_n (by decide)]
    exact ht l hl
  · refine ⟨⟨L + 1, by omega, by rw [zI_n (by decide), zI_e]⟩, fun l hl => ?_⟩
    rw [zI_sI]
    split
    · exact ⟨0, by omega, rfl⟩
    · rw [zI_n (by decide), zI_n (by decide), zI_n (by decide)]
      exact ht l hl
theorem zEL_200 {m : zM} {g N : Nat} {a v : Int32} (hN : N ≤ 400) (h : zI m 200 g 0 = nI (if 16 ≤ N then 16 else N)) : zI (zEL m g a v) 200 g 0 = nI (if 16 ≤ N + 1 then 16 else N + 1) := by
  unfold zEL
  rw [h]
  by_cases q : 16 ≤ N
  · rw [if_pos q, if_pos (by decide : ¬ nI 16 < 16), h, if_pos q, if_pos (show 16 ≤ N + 1 by omega)]
  · rw [if_neg q, if_neg (fun z => z (by rw [show (16 : Int32) = nI 16 from rfl, nI_ltI (by omega) (by omega)]; omega)), ← nI_succ]
    split
    · rename_i q2
      rw [show (16 : Int32) = nI 16 from rfl, nI_leI (by omega) (by omega)] at q2
      rw [zI_e, if_pos q2]
      congr 1
      omega
    · rename_i q2
      rw [show (16 : Int32) = nI 16 from rfl, nI_leI (by omega) (by omega)] at q2
      rw [zI_n (by decide), zI_e, if_neg q2]
theorem zEL_e {m : zM} {g N : Nat} {a v : Int32} (h1 : zI m 200 g 0 = nI N) (hN : N < 16) : (∀ l, zI (zEL m g a v) 1201 g l = if l = N then a else zI m 1201 g l) ∧ (∀ l, zI (zEL m g a v) 1202 g l = if l = N then v else zI m 1202 g l) ∧ (∀ l, l ≠ N + 1 → zI (zEL m g a v) 1203 g l = zI m 1203 g l) ∧ (N + 1 < 16 → zI (zEL m g a v) 1203 g (N + 1) = 0) := by
  have q1 : ¬ ¬ (nI N < 16) := fun z => z (by rw [show (16 : Int32) = nI 16 from rfl, nI_ltI (by omega) (by omega)]; omega)
  have s1 : ∀ (M : zM) (f : Nat) (x : Int32) (l : Nat), zI (zsI M f g N x) f g l = if l = N then x else zI M f g l := fun M f x l => by
    rw [zI_sI]
    by_cases e : l = N
    · rw [if_pos ⟨rfl, rfl, e⟩, if_pos e]
    · rw [if_neg (fun z => e z.2.2), if_neg e]
  unfold zEL
  rw [h1, if_neg q1, ← nI_succ, nI_clamp (by omega), nI_clamp (by omega)]
  by_cases q2 : N + 1 < 16
  · rw [if_neg (by rw [show (16 : Int32) = nI 16 from rfl, nI_leI (by omega) (by omega)]; omega)]
    refine ⟨fun l => ?_, fun l => ?_, fun l hl => ?_, fun _ => zI_e⟩
    · rw [zI_n (by decide), zI_n (by decide), zI_n (by decide), s1]
    · rw [zI_n (by decide), zI_n (by decide), s1, zI_n (by decide)]
    · rw [zI_sI, if_neg (fun z => hl z.2.2), zI_n (by decide), zI_n (by decide), zI_n (by decide)]
  · rw [if_pos (by rw [show (16 : Int32) = nI 16 from rfl, nI_leI (by omega) (by omega)]; omega)]
    refine ⟨fun l => ?_, fun l => ?_, fun l hl => ?_, fun z => absurd z q2⟩
    · rw [zI_n (by decide), zI_n (by decide), s1]
    · rw [zI_n (by decide), s1, zI_n (by decide)]
    · rw [zI_n (by decide), zI_n (by decide), zI_n (by decide)]
theorem zBL_e {m mr mr' : zM} {r o N k l : Nat} {a v : Int32} (hN : N ≤ 400) (h : zBD m mr r o N k) (hw : zIw mr o N k) (hl : zI mr 632 o 0 = 0 → l = N) (h39 : ∀ j, zI mr' 1639 o j = if j = l then a else zI mr 1639 o j) (h40 : ∀ j, zI mr' 1640 o j = if j = l then v else zI mr 1640 o j) (hr : ∀ f, f = 632 ∨ f = 633 ∨ (1635 ≤ f ∧ f ≤ 1638) → zI mr' f o = zI mr f o) : zBL (zEL m (zR m 402 r) a v) mr' r o (N + 1) := by
  obtain ⟨h1, ⟨h3, h4, h5⟩, h6⟩ := h
  unfold zBL zNv zGc
  rw [zR_2 zEL_2, hr 632 (by omega), hr 633 (by omega), zEL_f (by decide), zEL_f (by decide)]
  refine ⟨h1, ⟨zEL_w h3, zEL_200 hN h4, fun q => ?_⟩, fun q q2 => ?_⟩
  · have hN16 := (hw.2.2 q).1
    have h1635 := (hw.2.2 q).2.2.1
    obtain ⟨k1, k2⟩ := h6 q
    have h5 := h5 q
    have el := hl q
    subst el
    rw [if_neg (by omega)] at h4
    obtain ⟨e1, e2, e3, -⟩ := zEL_e (a := a) (v := v) h4 hN16
    have t1 : ∀ x, zTx m mr (zR m 402 r) o x → zTx (zEL m (zR m 402 r) a v) mr' (zR m 402 r) o x := fun x h => by
      unfold zTx at h ⊢
      rw [zEL_f (by decide), zEL_f (by decide), zEL_f (by decide), zEL_f (by decide), hr 1636 (by omega), hr 1637 (by omega), hr 1638 (by omega)]
      exact h
    intro l' hl'
    rw [e1, e2, h39, h40, hr 1635 (by omega), e3 l' (by omega)]
    by_cases e : l' = l
    · subst e
      rw [if_pos rfl, if_pos rfl, if_pos rfl, if_pos rfl, h1635]
      refine ⟨rfl, rfl, k1, fun i hi => t1 _ (k2 i ?_)⟩
      rw [nI_clamp (by have := (hw.2.2 q).2.1; omega)] at hi
      exact hi
    · rw [if_neg e, if_neg e, if_neg e, if_neg e]
      obtain ⟨c1, c2, c3, c4⟩ := h5 l' (by omega)
      exact ⟨c1, c2, c3, fun i hi => t1 _ (c4 i hi)⟩
  · have hN16 := (hw.2.2 q).1
    rw [if_neg (by omega)] at h4
    exact (zEL_e h4 hN16).2.2.2 q2
def zFx (m mr : zM) (r o : Nat) : Prop := zI m 403 r 0 = zI mr 631 o 0 ∧ zWG m (zR m 402 r)
theorem zFx_w {m mr : zM} {r o n b N k : Nat} (h : zLt m mr r o n b) (hB : zBD m mr r o N k) : zFx m (zXw mr o) r o := ⟨by unfold zXw; rw [zI_e, h.2.2.1, h.2.2.2.2.1], hB.2.1.1⟩
/-- how a test ends, a line ends -/
def zRt (m m' : zM) (r o n N : Nat) (ret : Int32) (x : Int32 × zM) (Ok : zM → zM → Nat → Prop) : Prop := zCf r (zR m 402 r) m m' ∧ ((ret = 0 ∧ x.1 = 0 ∧ zFx m' x.2 r o) ∨ (ret = 1 ∧ ¬ x.1 = 0 ∧ ∃ b', zLt m' x.2 r o n b' ∧ Ok m' x.2 N))
section ZRD4
variable {l : Launch} {G : zG}
theorem zXla_f {m : zM} {o f : Nat} {x : Int32} (h : f ≠ 632) (h2 : f ≠ 633) : zI (zXla m o x) f = zI m f := funext fun a => funext fun j => zXla_I h h2 a j
theorem C_X4_readTest (hLen : Con_len l G) (hChr : Con_chr l G) (hL : zLay G) (mr : zM) (o n b N k li : Nat) : Con_X4_readTest l G (fun r m => zLt m mr r o n b ∧ zBD m mr r o N k ∧ (zI mr 632 o 0 = 0 → li = N ∧ N < 16 ∧ k < 4)) (fun r m ret m' => zRt m m' r o n N ret (zX30 mr o li k) (fun a c N => zBD a c r o N (k + 1))) := by
  refine con_X4_readTest hL fun C Qc S hl r m kr hp hr => ?_
  subst hl
  obtain ⟨hT, hB, hc⟩ := hp
  -- behind the number
  have h101 : ∀ (M Mr : zM) (b' : Nat) (no sg sg2 v : Int32) (s : Nat), s ≤ 5 → (no = 0 ∨ no = 1) → (s ≠ 5 → sg = sg2) → zLt M Mr r o n b' → zBD M Mr r o N k → (zI Mr 632 o 0 = 0 → zI mr 632 o 0 = 0) → zCf r (zR m 402 r) m M → zX30 mr o li k = (1, zX227 Mr o li k no (nI s) sg2 v) → Pt_X4_readTest_101 C G r no (nI s) sg v M := by
    intro M Mr b' no sg sg2 v s hs hno hsg h1 h2 h3 h4 h5
    refine sg_X4_readTest_101 S (C_X2_addTest hL) (C_X4_advance hL) kr ⟨⟨h2.2.1.1, hno⟩, fun m3 e3 => ?_⟩
    have e3 : m3 = zAT M (zR M 402 r) (nI s) sg v no := e3
    subst e3
    have hp3 : zLp (zAT M (zR M 402 r) (nI s) sg v no) Mr r o n (zTe (zcT M r) n b') := zLp_x h1.1 (fun f hf => zAT_f (by omega)) zAT_2 (fun f hf => rfl)
    refine ⟨⟨n, _, hp3.1⟩, fun m5 h5' => hr _ _ ?_⟩
    have e5 := h5' n _ hp3.1
    subst e5
    refine ⟨zCf_tr h4 (zCf_tr ?_ zCf_av), Or.inr ⟨rfl, by rw [h5]; exact (by decide : ¬ (1 : Int32) = 0), ?_⟩⟩
    · rw [← zR_2 h4.2]; exact zCf_AT
    have hx : zX227 Mr o li k no (nI s) sg2 v = if k < 4 ∧ li < 16 then zX269 (zRnx Mr o) o li k no (nI s) sg2 v else zRnx Mr o := rfl
    rw [h5]
    show ∃ b'', zLt _ (zX227 Mr o li k no (nI s) sg2 v) r o n b'' ∧ zBD _ (zX227 Mr o li k no (nI s) sg2 v) r o N (k + 1)
    rw [hx]
    refine ⟨_, zLt_x (zLt_nx hp3) (fun f hf => rfl) rfl (fun f hf => ?_) ?_, ?_⟩
    · split
      · unfold zX269
        funext a j
        rw [zI_n (by omega), zI_n (by omega), zI_n (by omega), zI_n (by omega)]
      · rfl
    · split <;> rfl
    · have h6 : zBD M (zRnx Mr o) r o N k := zBD_x h2 (fun f hf => rfl) rfl (fun f hf => zRnx_f (by omega))
      have h7 := zBD_t (sg := sg) (sg2 := sg2) (nu := v) (l := li) hs hno hsg h6 (fun z => by
        rw [zRnx_f (by decide)] at z
        obtain ⟨a1, a2, a3⟩ := hc (h3 z)
        exact ⟨a1, a2, a3⟩)
      exact zBD_x h7 (fun f hf => zAv_f (by omega)) rfl (fun f hf => rfl)
  -- behind the sign
  have h68 : ∀ (M Mr : zM) (b' : Nat) (no sg sg2 : Int32) (s : Nat), s ≤ 5 → (no = 0 ∨ no = 1) → (s ≠ 5 → sg = sg2) → zLt M Mr r o n b' → zBD M Mr r o N k → (zI Mr 632 o 0 = 0 → zI mr 632 o 0 = 0) → zCf r (zR m 402 r) m M → zX30 mr o li k = zX186 Mr o li k no (nI s) sg2 → Pt_X4_readTest_68 C G r no (nI s) sg M := by
    intro M Mr b' no sg sg2 s hs hno hsg h1 h2 h3 h4 h5
    have hk := (zLt_k h1).2.2.1
    refine sg_X4_readTest_68 S (C_X4_numberAtHand hL) (C_X4_note hL) kr ⟨fun q => ?_, fun q => hr _ _ ?_⟩
    · refine ⟨⟨q, Mr, o, n, b', h1⟩, fun r2 e2 => ?_⟩
      have e2 := e2 Mr o n b' h1
      subst e2
      have h6 : zX186 Mr o li k no (nI s) sg2 = (1, zX227 (if nI s = 5 ∧ ¬ zI Mr 629 o 0 < 6 then zXla Mr o 2 else Mr) o li k no (nI s) sg2 (zI Mr 629 o 0)) := by
        unfold zX186
        rw [if_pos (hk.1 q)]
      rw [h6] at h5
      refine ⟨fun q5 => ?_, fun q5 => ⟨fun q6 => ?_, fun q6 => ⟨trivial, fun m4 e4 => ?_⟩⟩⟩
      · rw [if_neg (fun z => q5 z.1)] at h5
        exact h101 M Mr b' no sg sg2 _ s hs hno hsg h1 h2 h3 h4 h5
      · rw [if_neg (fun z => z.2 q6)] at h5
        exact h101 M Mr b' no sg sg2 _ s hs hno hsg h1 h2 h3 h4 h5
      · rw [if_pos ⟨q5, q6⟩] at h5
        have e4 : m4 = zNt M r 2 := e4
        subst e4
        refine h101 _ _ b' no sg sg2 _ s hs hno hsg (zLt_la h1) (zBD_la (by decide) h1 h2) (fun z => h3 ?_) (zCf_tr h4 zCf_nt) h5
        unfold zXla at z
        split at z
        · rename_i y; exact y
        · exact z
    · have h6 : zX186 Mr o li k no (nI s) sg2 = (0, zXw Mr o) := by
        unfold zX186
        rw [if_neg (fun z => q (hk.2 z))]
      rw [h6] at h5
      refine ⟨h4, Or.inl ⟨rfl, by rw [h5], by rw [h5]; exact zFx_w h1 h2⟩⟩
  -- behind 'not'
  refine sg_X4_readTest_0 S (C_X4_takeWord hLen hChr hL) (C_X4_subjectAtHand hLen hChr hL) (C_X4_advance hL) kr ⟨⟨n, _, b, zLt_p hT⟩, fun r2 m2 h2 => ?_⟩
  have st : ∃ mr2 b2, zLt m2 mr2 r o n b2 ∧ zBD m2 mr2 r o N k ∧ zX30 mr o li k = zX115 mr2 o li k r2 (zXsu mr2 o) ∧ (r2 = 0 ∨ r2 = 1) ∧ zCf r (zR m 402 r) m m2 ∧ (zI mr2 632 o 0 = 0 → zI mr 632 o 0 = 0) := by
    obtain ⟨p1, p2, p3⟩ := zLt_p hT
    have hw := zLt_w hT (t := 2) (by decide)
    rw [zwt_2] at hw
    rcases h2 n _ b p1 p2 p3 with ⟨e1, e2, e3⟩ | ⟨e1, e2, e3⟩
    · subst e1 e3
      refine ⟨zRnx mr o, _, zLt_nx hT.1, zBD_nx hB, ?_, Or.inr rfl, zCf_av, fun z => by rw [zRnx_f (by decide)] at z; exact z⟩
      unfold zX30
      rw [if_pos (hw.1 e2)]
    · subst e1 e3
      refine ⟨mr, b, hT, hB, ?_, Or.inl rfl, zCf_rf, fun z => z⟩
      unfold zX30
      rw [if_neg (fun z => e2 (hw.2 z))]
  obtain ⟨mr2, b2, hT2, hB2, hx, hno, hcf, h632⟩ := st
  refine ⟨⟨mr2, o, n, b2, hT2⟩, fun r4 e4 => ?_⟩
  have e4 := e4 mr2 o n b2 hT2
  rw [← e4] at hx
  refine ⟨fun q4 => ⟨⟨n, _, hT2.1.1⟩, fun m6 e6 => ?_⟩, fun q4 => hr _ _ ?_⟩
  · have e6 := e6 n _ hT2.1.1
    subst e6
    have hT6 := zLt_nx hT2.1
    have hB6 : zBD (zAv m2 r n (zTe (zcT m2 r) n b2)) (zRnx mr2 o) r o N k := zBD_nx hB2
    generalize hm6 : zAv m2 r n (zTe (zcT m2 r) n b2) = m6 at *
    have hcf6 : zCf r (zR m 402 r) m m6 := by rw [← hm6]; exact zCf_tr hcf zCf_av
    have h6 : zI (zRnx mr2 o) 632 o 0 = 0 → zI mr 632 o 0 = 0 := fun z => by
      rw [zRnx_f (by decide)] at z
      exact h632 z
    obtain ⟨s, hs, es⟩ := (zXsu_s mr2 o).resolve_left (fun z => q4 (e4.trans z))
    rw [← e4] at es
    subst es
    have h115 : ∀ (x : Int32 × zM), x = zX115 mr2 o li k r2 (nI s) → x = (if 5 ≤ nI s then zX186 (zRnx mr2 o) o li k r2 (nI s) 61 else if zI (zRnx mr2 o) 628 o 0 = 4 ∧ (zI (zRnx mr2 o) 629 o 0 = 60 ∨ zI (zRnx mr2 o) 629 o 0 = 62 ∨ zI (zRnx mr2 o) 629 o 0 = 61) then zX186 (zRnx (zRnx mr2 o) o) o li k r2 (nI s) (zI (zRnx mr2 o) 629 o 0) else (0, zXw (zRnx mr2 o) o)) := fun x e => by
      rw [e]
      unfold zX115
      rw [if_neg q4]
    have hx := h115 _ hx
    have hk := (zLt_k hT6).2.2.2
    refine ⟨fun q5 => ?_, fun q5 => ?_⟩
    · rw [if_pos (by rw [q5]; decide)] at hx
      have hs5 : s = 5 := (nI_eq (by omega) (by omega)).1 q5
      exact h68 m6 _ _ r2 0 61 s (by omega) hno (fun z => absurd hs5 z) hT6 hB6 h6 hcf6 hx
    · have hs5 : s ≠ 5 := fun z => q5 (by rw [z]; rfl)
      rw [if_neg (by rw [show (5 : Int32) = nI 5 from rfl, nI_leI (by omega) (by omega)]; omega)] at hx
      have go : ∀ c : Int32, 58 ≤ c → c ≤ 62 → (c = 60 ∨ c = 62 ∨ c = 61) → zI m6 405 r 0 = c → (∃ n p, zPc m6 r n p) ∧ ∀ m8, (∀ n p, zPc m6 r n p → m8 = zAv m6 r n p) → Pt_X4_readTest_68 C G r r2 (nI s) (zI m6 405 r 0) m8 := by
        intro c c1 c2 c3 qc
        obtain ⟨y1, y2⟩ := (hk c c1 c2).1 qc
        rw [if_pos ⟨y1, by rw [y2]; exact c3⟩] at hx
        refine ⟨⟨n, _, hT6.1.1⟩, fun m8 e8 => ?_⟩
        have e8 := e8 n _ hT6.1.1
        subst e8
        refine h68 _ _ _ r2 _ _ s (by omega) hno (fun _ => qc.trans y2.symm) (zLt_nx hT6.1) (zBD_nx hB6) (fun z => h6 ?_) (zCf_tr hcf6 zCf_av) hx
        rw [zRnx_f (by decide)] at z
        exact z
      refine ⟨fun q60 => go 60 (by decide) (by decide) (by decide) q60, fun q60 => ⟨fun q62 => go 62 (by decide) (by decide) (by decide) q62, fun q62 => ⟨fun q61 => go 61 (by decide) (by decide) (by decide) q61, fun q61 => hr _ _ ?_⟩⟩⟩
      rw [if_neg] at hx
      · exact ⟨hcf6, Or.inl ⟨rfl, by rw [hx], by rw [hx]; exact zFx_w hT6 hB6⟩⟩
      · rintro ⟨y1, y2 | y2 | y2⟩
        · exact q60 ((hk 60 (by decide) (by decide)).2 ⟨y1, y2⟩)
        · exact q62 ((hk 62 (by decide) (by decide)).2 ⟨y1, y2⟩)
        · exact q61 ((hk 61 (by decide) (by decide)).2 ⟨y1, y2⟩)
  · have hx2 : zX30 mr o li k = (0, zXw mr2 o) := by
      rw [hx]
      unfold zX115
      rw [if_pos q4]
    exact ⟨hcf, Or.inl ⟨rfl, by rw [hx2], by rw [hx2]; exact zFx_w hT2 hB2⟩⟩
theorem C_X4_readAct (hLen : Con_len l G) (hChr : Con_chr l G) (hL : zLay G) (mr : zM) (o n b N k li : Nat) : Con_X4_readAct l G (fun r m => N ≤ 400 ∧ zLt m mr r o n b ∧ zBD m mr r o N k ∧ zIw mr o N k ∧ (zI mr 632 o 0 = 0 → li = N)) (fun r m ret m' => zRt m m' r o n N ret (zX102 mr o li) (fun a c N => zBL a c r o (N + 1))) := by
  refine con_X4_readAct hL fun C Qc S hl r m kr hp hr => ?_
  subst hl
  obtain ⟨hN, hT, hB, hw, hc⟩ := hp
  have h42 : ∀ (M Mr : zM) (b' : Nat) (a v : Int32), zLt M Mr r o n b' → zBD M mr r o N k → zCf r (zR m 402 r) m M → (∀ j, zI Mr 1639 o j = if j = li then a else zI mr 1639 o j) → (∀ j, zI Mr 1640 o j = if j = li then v else zI mr 1640 o j) → (∀ f, f = 632 ∨ f = 633 ∨ (1635 ≤ f ∧ f ≤ 1638) → zI Mr f o = zI mr f o) → zX102 mr o li = zX228 Mr o → Pt_X4_readAct_42 C G r a v M := by
    intro M Mr b' a v h1 h2 h3 h39 h40 hoth h5
    have hk := (zLt_k h1).2.2.2 59 (by decide) (by decide)
    have hT1 : zLt M (zsI Mr 634 o 0 (zI Mr 634 o 0 + 1)) r o n b' := zLt_x h1 (fun f hf => rfl) rfl (fun f hf => funext fun a => funext fun j => zI_n (by omega)) rfl
    have hs : zXs (zsI Mr 634 o 0 (zI Mr 634 o 0 + 1)) o 59 ↔ zI M 405 r 0 = 59 := by
      show (zI (zsI Mr 634 o 0 (zI Mr 634 o 0 + 1)) 628 o 0 = 4 ∧ zI (zsI Mr 634 o 0 (zI Mr 634 o 0 + 1)) 629 o 0 = 59) ↔ _
      rw [zI_n (by decide), zI_n (by decide)]
      exact hk.symm
    refine sg_X4_readAct_42 S (C_X4_advance hL) (C_X2_endLine hL) kr ⟨fun q => ⟨⟨n, _, h1.1.1⟩, fun m2 e2 => ?_⟩, fun q => hr _ _ ?_⟩
    · have e2 := e2 n _ h1.1.1
      subst e2
      have hB2 : zBD (zAv M r n (zTe (zcT M r) n b')) mr r o N k := zBD_x h2 (fun f hf => zAv_f (by omega)) rfl (fun f hf => rfl)
      refine ⟨hB2.2.1.1, fun m5 e5 => hr _ _ ?_⟩
      have e5 : m5 = zEL (zAv M r n (zTe (zcT M r) n b')) (zR (zAv M r n (zTe (zcT M r) n b')) 402 r) a v := e5
      subst e5
      have hx : zX102 mr o li = (1, zRnx (zsI Mr 634 o 0 (zI Mr 634 o 0 + 1)) o) := by
        rw [h5]
        unfold zX228 zXnd
        rw [if_pos (hs.2 q)]
      rw [hx]
      have hcM : zCf r (zR m 402 r) m (zAv M r n (zTe (zcT M r) n b')) := zCf_tr h3 zCf_av
      refine ⟨zCf_tr hcM ?_, Or.inr ⟨rfl, (by decide : ¬ (1 : Int32) = 0), _, zLt_x (zLt_nx hT1.1) (fun f hf => zEL_f (by omega)) zEL_2 (fun f hf => rfl) rfl, zBL_e hN hB2 hw hc ?_ ?_ ?_⟩⟩
      · rw [← zR_2 hcM.2]; exact zCf_EL
      · intro j
        rw [zRnx_f (by decide), zI_n (by decide)]
        exact h39 j
      · intro j
        rw [zRnx_f (by decide), zI_n (by decide)]
        exact h40 j
      · intro f hf
        rw [zRnx_f (by omega), ← hoth f hf]
        funext j
        exact zI_n (by omega)
    · have hx : zX102 mr o li = (0, zXw (zsI Mr 634 o 0 (zI Mr 634 o 0 + 1)) o) := by
        rw [h5]
        unfold zX228 zXnd
        rw [if_neg (fun z => q (hs.1 z))]
      rw [hx]
      exact ⟨h3, Or.inl ⟨rfl, rfl, by unfold zXw; rw [zI_e, hT1.2.2.1, hT1.2.2.2.2.1], h2.2.1.1⟩⟩
  refine sg_X4_readAct_0 S (C_X4_actAtHand hLen hChr hL) (C_X4_advance hL) (C_X4_numberAtHand hL) kr ⟨⟨mr, o, n, b, hT⟩, fun r2 e2 => ?_⟩
  have e2 := e2 mr o n b hT
  have hx : zX102 mr o li = zX164 mr o li r2 := by unfold zX102; rw [← e2]
  have hTa : zLt m (zsI mr 1639 o li r2) r o n b := zLt_x hT (fun f hf => rfl) rfl (fun f hf => funext fun a => funext fun j => zI_n (by omega)) rfl
  have s39 : ∀ j, zI (zsI mr 1639 o li r2) 1639 o j = if j = li then r2 else zI mr 1639 o j := fun j => by
    rw [zI_sI]
    by_cases e : j = li
    · rw [if_pos ⟨rfl, rfl, e⟩, if_pos e]
    · rw [if_neg (fun z => e z.2.2), if_neg e]
  refine ⟨fun q4 => ⟨⟨n, _, hT.1.1⟩, fun m4 e4 => ?_⟩, fun q4 => hr _ _ ?_⟩
  · have e4 := e4 n _ hT.1.1
    subst e4
    have hT4 := zLt_nx hTa.1
    have hB4 : zBD (zAv m r n (zTe (zcT m r) n b)) mr r o N k := zBD_x hB (fun f hf => zAv_f (by omega)) rfl (fun f hf => rfl)
    generalize hm4 : zAv m r n (zTe (zcT m r) n b) = m4 at *
    have hcf4 : zCf r (zR m 402 r) m m4 := by rw [← hm4]; exact zCf_av
    obtain ⟨a, ha, ea⟩ := (zXac_s mr o).resolve_left (fun z => q4 (e2.trans z))
    rw [← e2] at ea
    subst ea
    -- rows of the reference
    have hM : ∀ v, ∀ f, f = 632 ∨ f = 633 ∨ (1635 ≤ f ∧ f ≤ 1638) → zI (zsI (zRnx (zsI mr 1639 o li (nI a)) o) 1640 o li v) f o = zI mr f o := fun v f hf => by
      funext j
      rw [zI_n (by omega), zRnx_f (by omega), zI_n (by omega)]
    have hM39 : ∀ v j, zI (zsI (zRnx (zsI mr 1639 o li (nI a)) o) 1640 o li v) 1639 o j = if j = li then nI a else zI mr 1639 o j := fun v j => by
      rw [zI_n (by decide), zRnx_f (by decide)]
      exact s39 j
    have hM40 : ∀ v j, zI (zsI (zRnx (zsI mr 1639 o li (nI a)) o) 1640 o li v) 1640 o j = if j = li then v else zI mr 1640 o j := fun v j => by
      rw [zI_sI]
      by_cases e : j = li
      · rw [if_pos ⟨rfl, rfl, e⟩, if_pos e]
      · rw [if_neg (fun z => e z.2.2), if_neg e, zRnx_f (by decide), zI_n (by decide)]
    have hTM : ∀ v, zLt m4 (zsI (zRnx (zsI mr 1639 o li (nI a)) o) 1640 o li v) r o n (zTb (zcT m r) n (zTe (zcT m r) n b)) := fun v => zLt_x hT4 (fun f hf => rfl) rfl (fun f hf => funext fun a => funext fun j => zI_n (by omega)) rfl
    refine ⟨fun q5 => ?_, fun q5 => ⟨fun q6 => ?_, fun q6 => hr _ _ ?_⟩⟩
    · refine h42 m4 _ _ _ 0 (hTM 0) hB4 hcf4 (hM39 0) (hM40 0) (hM 0) ?_
      rw [hx]
      unfold zX164
      rw [if_neg q4, if_pos (by rw [q5]; decide)]
    · have hk := (zLt_k hT4).2.2.1.1 q6
      refine ⟨⟨q6, _, o, n, _, hT4⟩, fun r6 e6 => ?_⟩
      have e6 := e6 _ o n _ hT4
      subst e6
      refine ⟨⟨n, _, hT4.1.1⟩, fun m8 e8 => ?_⟩
      have e8 := e8 n _ hT4.1.1
      subst e8
      have hs2 : zsI (zsI (zRnx (zsI mr 1639 o li (nI a)) o) 1640 o li 0) 1640 o li (zI (zRnx (zsI mr 1639 o li (nI a)) o) 629 o 0) = zsI (zRnx (zsI mr 1639 o li (nI a)) o) 1640 o li (zI (zRnx (zsI mr 1639 o li (nI a)) o) 629 o 0) := zsI_sI _ _ _ _ _ _
      refine h42 _ (zRnx (zsI (zRnx (zsI mr 1639 o li (nI a)) o) 1640 o li (zI (zRnx (zsI mr 1639 o li (nI a)) o) 629 o 0)) o) _ _ _ (zLt_nx (hTM _).1) (zBD_x hB4 (fun f hf => zAv_f (by omega)) rfl (fun f hf => rfl)) (zCf_tr hcf4 zCf_av) (fun j => by rw [zRnx_f (by decide)]; exact hM39 _ j) (fun j => by rw [zRnx_f (by decide)]; exact hM40 _ j) (fun f hf => by rw [zRnx_f (by omega)]; exact hM _ f hf) ?_
      rw [hx]
      unfold zX164
      rw [if_neg q4, if_neg (by
        rw [show (3 : Int32) = nI 3 from rfl, nI_leI (by omega) (by omega)]
        intro z
        exact q5 (by rw [show a = 3 by omega]; rfl)), if_pos hk, hs2]
    · have hk : ¬ zI (zRnx (zsI mr 1639 o li (nI a)) o) 628 o 0 = 3 := fun z => q6 ((zLt_k hT4).2.2.1.2 z)
      have hx2 : zX102 mr o li = (0, zXw (zsI (zRnx (zsI mr 1639 o li (nI a)) o) 1640 o li 0) o) := by
        rw [hx]
        unfold zX164
        rw [if_neg q4, if_neg (by
          rw [show (3 : Int32) = nI 3 from rfl, nI_leI (by omega) (by omega)]
          intro z
          exact q5 (by rw [show a = 3 by omega]; rfl)), if_neg hk]
      rw [hx2]
      exact ⟨hcf4, Or.inl ⟨rfl, rfl, by unfold zXw; rw [zI_e, (hTM 0).2.2.1, (hTM 0).2.2.2.2.1], hB4.2.1.1⟩⟩
  · have hx2 : zX102 mr o li = (0, zXw (zsI mr 1639 o li r2) o) := by
      rw [hx]
      unfold zX164
      rw [if_pos q4]
    rw [hx2]
    exact ⟨zCf_rf, Or.inl ⟨rfl, rfl, by unfold zXw; rw [zI_e, hTa.2.2.1, hTa.2.2.2.2.1], hB.2.1.1⟩⟩
end ZRD4
