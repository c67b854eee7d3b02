theorem zbUR_o {m : zM} {b g x : Nat} (hx : ¬ (b + 11 ≤ x ∧ x < b + 123)) (f j : Nat) : ∀ k, k ≤ 16 → zI (zbUR m b g k) f x j = zI m f x j
  | 0, _ => rfl
  | k + 1, hk => by
    have h1 := (zF1_ME (m := zbUR m b g k) (b := b) (c := k) (g := g)).2.1 f x j (by omega)
    exact h1.1.trans (zbUR_o hx f j k (by omega))
/-- what the rules' change asks -/
theorem grid_use {mc mr : zM} {f o a : Nat} (h : zTot mc mr f o) (ha : f + 133 ≤ a) {m4 : zM} (hq : zRdQ (zGrM3 mc f a) m4 a o (zRgX mr o)) : zWG m4 (zR m4 502 f) ∧ zbPP m4 (f + 1) ∧ zWG m4 (zR m4 3 (f + 1)) := by
  obtain ⟨-, g2, g3, g4, g5, -⟩ := grid_mid h ha rfl hq
  have hS := (g5 (zRgX mr o).2 (fun _ _ _ _ => ⟨rfl, rfl⟩)).1
  rw [g4]
  exact ⟨g2, zSq_P hS, hS.2.1.1⟩
set_option maxHeartbeats 6000000 in
theorem sim_grid {G : zG} {mc mr : zM} {f o : Nat} (h : zTot mc mr f o) (ha : f + 133 ≤ zsz G) (hb2 : ∀ k b2, k < 3 → zQ mc 1501 f k = some b2 → b2 + 123 ≤ zsz G) {r r' : Int32} {mc' mr' : zM} {G' : zG} (hc : zGrQ G mc f (fun m4 => zRdQ (zGrM3 mc f (zsz G)) m4 (zsz G) o (zRgX mr o)) r mc' G') (hr : zRgQ mr o r' mr') (ht : zFt o mr mr') : r = r' ∧ zTot mc' mr' f o := by
  have e9 : zI mc 9 (f + 1) 0 = zI mr 1608 o 0 := h.1.1.1.2.2.2.2.2.2.2.1
  have hsp := h.2.1
  have hfr : zI mr' 1601 o = zI mr 1601 o → zFr o mr mr' := fun e => ⟨ht, fun hb j => by rw [e]; exact hb j⟩
  rcases hc with ⟨n9, rfl, rfl, -⟩ | ⟨n9, -, m4, hq, hc⟩
  · obtain ⟨rfl, rfl⟩ := hr.1 (fun z => n9 (e9.trans z))
    refine ⟨rfl, zTot_mk (a := zsz G) h (zSm_S1 h.1) hsp (zWG_ext (m := mc) (fun g hg => funext fun j => (zGrM2_I (by omega)).symm) h.2.2.1) (fun g x j h1 h2 => ⟨zGrM2_I (by omega), rfl⟩) (fun _ _ _ => rfl) (fun _ => rfl) hb2 (hfr (funext fun j => zRgE_I (by decide))) (fun j => zRgE_I (by decide))⟩
  · have hr2 := hr.2 (e9.symm.trans n9)
    generalize hX : zRgX mr o = X at *
    obtain ⟨hgf, g2, g3, g4, g5, g6, g7, g8, g9⟩ := grid_mid h ha hX.symm hq
    obtain ⟨-, -, hor⟩ := hq
    have sw : (zR m4 3 (f + 1) = f + 3 ∧ zR m4 502 f = f + 125) ∨ (zR m4 3 (f + 1) = f + 125 ∧ zR m4 502 f = f + 3) := by rw [g3, g4]; exact hsp
    have fault : ∀ v w : Int32, zI mr' 1601 o = zI mr 1601 o → (∀ j, zI mr' 1649 o j = zI mr 1649 o j) → mc' = zsI (zsI m4 4 (f + 1) 0 v) 5 (f + 1) 0 w → mr' = zsI (zsI X.2 1603 o 0 v) 1604 o 0 w → zTot mc' mr' f o := by
      intro v w h1 h2 e1 e2
      subst e1
      have hS := g5 X.2 (fun _ _ _ _ => ⟨rfl, rfl⟩)
      refine zTot_mk (a := zsz G) h (by rw [e2]; exact zSm_45 hS) sw ?_ (fun g x j h3 h4 => ⟨?_, (g7 g x j h3 h4).2⟩) g8 g9 hb2 (hfr h1) h2
      · show zWG _ (zR m4 502 f)
        rw [g4]
        exact zWG_ext (m := m4) (fun g hg => funext fun j => by rw [zI_n (by omega), zI_n (by omega)]) g2
      · rw [zI_sI, if_neg (fun z => by omega), zI_sI, if_neg (fun z => by omega)]
        exact (g7 g x j h3 h4).1
    have fx : ∀ (v w : Int32) (g : Nat), g = 1601 ∨ g = 1649 → zI (zsI (zsI X.2 1603 o 0 v) 1604 o 0 w) g o = zI mr g o := fun v w g hg => by
      funext j
      rw [zI_n (by omega), zI_n (by omega), g6 g (by omega)]
    rcases hor with ⟨x0, y1, y2⟩ | ⟨x0, N, hN4, hv, hNv, hGc⟩
    · -- the reader's line is too long or so
      obtain ⟨rfl, er⟩ := hr2.1 x0
      rcases hc with ⟨-, rfl, ec⟩ | ⟨c0, -⟩
      · rw [y1, y2] at ec
        exact ⟨rfl, fault 1 (zI X.2 631 o 0) (by rw [er]; exact fx _ _ 1601 (Or.inl rfl)) (fun j => by rw [er, fx _ _ 1649 (Or.inr rfl)]) ec er⟩
      · exact absurd (y1.symm.trans c0) (by decide)
    · obtain ⟨hr3, hr4⟩ := hr2.2 x0
      by_cases q : zI X.2 632 o 0 = 0
      · have c0 : zI m4 406 (zsz G) 0 = 0 := hNv.1.trans q
        obtain ⟨N', y2, y4, hN', hv', hK, hSt, hC, hyes, hno⟩ := hr4 q
        have hNN : N = N' := by
          have := hv.1.symm.trans hv'.1
          have := congrArg Int32.toNatClampNeg this
          rw [nI_clamp (by omega), nI_clamp (by omega)] at this
          exact this
        subst hNN
        rcases hc with ⟨n0, -⟩ | ⟨-, m5, e5, hc⟩
        · exact absurd c0 n0
        · rw [g4] at e5
          rw [(zGrM3_r (m := mc) (f := f) (a := zsz G)).1] at hGc
          -- frames of the reference
          have kI : ∀ g, ¬ zFk g → zI y2 g o = zI X.2 g o := fun g hg => zFo_r hK.1 hg
          have kJ : ∀ g j, zJ y2 g o j = zJ X.2 g o j := fun g j => zFo_J hK.1 g o j
          have sI : ∀ g, ¬ zFs g → zI y4 g o = zI y2 g o := fun g hg => zFo_r hSt.1 hg
          have sJ : ∀ g j, zJ y4 g o j = zJ y2 g o j := fun g j => zFo_J hSt.1 g o j
          have hS2 : zSm m4 y2 (f + 1) o := g5 y2 (fun g j h1 h2 => ⟨congrFun (kI g (by unfold zFk; omega)) j, kJ g j⟩)
          have n6 : zI y4 1606 o 0 = zI y2 1606 o 0 := congrFun (sI 1606 (by decide)) 0
          -- the class's book under the new rules
          have hAr : ∀ c, zAr y2 y4 o c := fun c => ⟨fun k _ => congrFun (sI 1609 (by decide)) _, fun k _ _ => congrFun (sI 1609 (by decide)) _, fun g h1 h2 => sJ g c, fun g h1 h2 k _ => ⟨congrFun (sI g (by unfold zFs; omega)) _, sJ g _⟩⟩
          have hq5 : zSq m5 y4 (f + 1) o := by
            rw [e5]
            refine zSq_UR (by rw [zR_e]) (zSh0_x hS2.1.1 (fun _ _ => ⟨rfl, rfl⟩) (fun g h1 h2 j => ⟨congrFun (sI g (by unfold zFs; omega)) j, sJ g j⟩)) (zSg_new hN' hv'.1 q hGc hK hSt hC) (fun c hc _ => ?_) (fun c hc h16 => ?_)
            · rw [n6] at hc
              exact zSc0_of (hS2.1.2.2.1 c hc) zAq0_rf (hAr c)
            · rw [n6] at hc
              exact hS2.1.2.2.2 c hc h16
          have hH := zSq_H hq5
          have r5 : ∀ g x, zR m5 g x = if g = 3 ∧ x = f + 1 then zR mc 502 f else zR m4 g x := fun g x => by
            rw [e5, zR_2 (zbUR_2 16), zR_sR]
          have q5 : ∀ g x j, zQ m5 g x j = zQ m4 g x j := fun g x j => by
            show m5.2.2.2 g x j = _
            rw [e5, zbUR_2]
            rfl
          have i5 : ∀ g x j, f + 133 ≤ x → x < zsz G → zI m5 g x j = zI mc g x j ∧ zJ m5 g x j = zJ mc g x j := fun g x j h1 h2 => by
            refine ⟨?_, ?_⟩
            · rw [e5, zbUR_o (by omega) g j 16 (Nat.le_refl _)]
              exact (g7 g x j h1 h2).1
            · rw [e5, zJ_2 (zbUR_2 16)]
              exact (g7 g x j h1 h2).2
          have w5 : ∀ x, zWG m4 x → zWG m5 x := fun x hw => zWG_ext (m := m4) (fun g hg => funext fun j => by rw [e5, zbUR_f (by omega) (by omega)]; rfl) hw
          have yx : ∀ g, g = 1601 ∨ g = 1649 → zI y4 g o = zI mr g o := fun g hg => by
            rw [sI g (by unfold zFs; omega), kI g (by unfold zFk; omega), g6 g (by omega)]
          by_cases hy : zRH y4 o
          · obtain ⟨rfl, rfl⟩ := hyes hy
            rcases hc with ⟨-, ec, er⟩ | ⟨n, -⟩
            · have er3 : zR mc' 3 (f + 1) = zR mc 502 f := by
                rw [ec, zR_n (by decide), r5, if_pos ⟨rfl, rfl⟩]
              have er5 : zR mc' 502 f = zR mc 3 (f + 1) := by
                rw [ec, zR_e, g3]
              refine ⟨?_, zTot_mk (a := zsz G) h ⟨?_, fun _ => hy⟩ ?_ ?_ (fun g x j h1 h2 => ?_) (fun x h1 h2 => ?_) (fun j => ?_) hb2 (hfr (yx 1601 (Or.inl rfl))) (fun j => by rw [yx 1649 (Or.inr rfl)])⟩
              · rw [er, er3, ec]
                show zI m5 200 (zR mc 502 f) 0 = _
                rw [e5, zbUR_f (by decide) (by decide)]
                show zI m4 200 (zR mc 502 f) 0 = _
                rw [hGc.2.1]
                split
                · rw [show N = 16 by omega]
                · rfl
              · rw [ec]
                exact hq5
              · rw [er3, er5]
                omega
              · rw [er5, ec]
                exact w5 _ (by rw [← g3]; exact hS2.1.2.1.1)
              · rw [ec]
                exact i5 g x j h1 h2
              · rw [ec, zR_n (by decide), r5, if_neg (fun z => by omega)]
                exact g8 x h1 h2
              · rw [ec, zQ_sR, q5]
                exact g9 j
            · exact absurd (hH.2 hy) n
          · obtain ⟨rfl, hOl⟩ := hno hy
            rcases hc with ⟨y, -⟩ | ⟨-, rfl, ec⟩
            · exact absurd (hH.1 y) hy
            · rw [g3] at ec
              have oI : ∀ g, ¬ zFs g → zI mr' g o = zI y4 g o := fun g hg => zFo_r hOl.1 hg
              have oJ : ∀ g j, zJ mr' g o j = zJ y4 g o j := fun g j => zFo_J hOl.1 g o j
              have bI : ∀ g, ¬ zFs g → zI mr' g o = zI y2 g o := fun g hg => (oI g hg).trans (sI g hg)
              have bJ : ∀ g j, zJ mr' g o j = zJ y2 g o j := fun g j => (oJ g j).trans (sJ g j)
              have c18 : zI mr' 1618 o 0 = zI y2 1618 o 0 := by
                rw [hOl.2.1, congrFun (sI 641 (by decide)) 0, hK.2.1, kI 1618 (by unfold zFk; omega)]
              have c3 : ∀ j, j < 16 → zI mr' 1619 o j = zI y2 1619 o j ∧ zI mr' 1623 o j = zI y2 1623 o j ∧ zI mr' 1624 o j = zI y2 1624 o j := fun j hj => by
                obtain ⟨a1, a2, a3⟩ := hOl.2.2.1 j hj
                obtain ⟨b1, b2, b3⟩ := hK.2.2.1 j hj
                rw [a1, a2, a3, congrFun (sI 1642 (by decide)) j, congrFun (sI 1646 (by decide)) j, congrFun (sI 1647 (by decide)) j, b1, b2, b3, kI 1619 (by unfold zFk; omega), kI 1623 (by unfold zFk; omega), kI 1624 (by unfold zFk; omega)]
                exact ⟨rfl, rfl, rfl⟩
              have c6 : ∀ j, j < 64 → zI mr' 1620 o j = zI y2 1620 o j ∧ zI mr' 1621 o j = zI y2 1621 o j ∧ zI mr' 1622 o j = zI y2 1622 o j := fun j hj => by
                obtain ⟨a1, a2, a3⟩ := hOl.2.2.2 j hj
                obtain ⟨b1, b2, b3⟩ := hK.2.2.2 j hj
                rw [a1, a2, a3, congrFun (sI 1643 (by decide)) j, congrFun (sI 1644 (by decide)) j, congrFun (sI 1645 (by decide)) j, b1, b2, b3, kI 1620 (by unfold zFk; omega), kI 1621 (by unfold zFk; omega), kI 1622 (by unfold zFk; omega)]
                exact ⟨rfl, rfl, rfl⟩
              have hle : zLe y2 mr' o := fun g j hj => by
                refine ⟨fun hg => ?_, fun _ => bJ g j⟩
                have hr := zFI_r hg
                by_cases hs : zFs g
                · rcases (show g = 1618 ∨ (g = 1619 ∨ g = 1623 ∨ g = 1624) ∨ (g = 1620 ∨ g = 1621 ∨ g = 1622) by unfold zFs at hs; omega) with rfl | hg | hg
                  · have : zww 1618 = 1 := rfl
                    have hj0 : j = 0 := by omega
                    subst hj0
                    exact c18
                  · have : zww g = 16 := by rcases hg with rfl | rfl | rfl <;> rfl
                    obtain ⟨a1, a2, a3⟩ := c3 j (by omega)
                    rcases hg with rfl | rfl | rfl
                    · exact a1
                    · exact a2
                    · exact a3
                  · have : zww g = 64 := by rcases hg with rfl | rfl | rfl <;> rfl
                    obtain ⟨a1, a2, a3⟩ := c6 j (by omega)
                    rcases hg with rfl | rfl | rfl
                    · exact a1
                    · exact a2
                    · exact a3
                · exact congrFun (bI g hs) j
              have n6' : zI mr' 1606 o 0 = zI y2 1606 o 0 := congrFun (bI 1606 (by decide)) 0
              have hAr' : ∀ c, zAr y2 mr' o c := fun c => ⟨fun k _ => congrFun (bI 1609 (by decide)) _, fun k _ _ => congrFun (bI 1609 (by decide)) _, fun g h1 h2 => bJ g c, fun g h1 h2 k _ => ⟨congrFun (bI g (by unfold zFs; omega)) _, bJ g _⟩⟩
              have aq5 : ∀ c, zAq0 m4 m5 (zkq (f + 1) c) := fun c => by
                have a1 : zAq0 m4 (zsR m4 3 (f + 1) (zR mc 502 f)) (zkq (f + 1) c) := zAq0_of (fun g j => ⟨⟨rfl, rfl⟩, ⟨rfl, rfl⟩⟩)
                have a2 := zAq0_tr a1 (zAq0_UR (b := f + 1) (g := zR mc 502 f) (c := c) 16)
                rw [e5]
                exact a2
              obtain ⟨n, hn, en, -⟩ := zSq_n hS2.1
              have hqq : zSq mc' mr' (f + 1) o := by
                rw [ec]
                refine zSq_UR (by rw [zR_e]) (zSh0_x (mc := m4) (mr := y2) hS2.1.1 (fun g j => ⟨?_, ?_⟩) (fun g h1 h2 j => ⟨congrFun (bI g (by unfold zFs; omega)) j, bJ g j⟩)) (zSg_t (mc := m4) (mr := y2) (g := zR mc 3 (f + 1)) (by rw [← g3]; exact hS2.1.2.1) ?_ (fun g h1 h2 => ?_) hle) (fun c hc _ => ?_) (fun c hc h16 => ?_)
                · show zI m5 g (f + 1) j = _
                  rw [e5, zbUR_o (by omega) g j 16 (Nat.le_refl _)]
                  rfl
                · show zJ m5 g (f + 1) j = _
                  rw [e5, zJ_2 (zbUR_2 16)]
                  rfl
                · show zI m5 200 _ 0 = _
                  rw [e5, zbUR_f (by decide) (by decide)]
                  rfl
                · funext j
                  show zI m5 g _ j = _
                  rw [e5, zbUR_f (by omega) (by omega)]
                  rfl
                · rw [n6'] at hc
                  exact zSc0_of (mc' := zsR m5 3 (f + 1) (zR mc 3 (f + 1))) (hS2.1.2.2.1 c hc) (aq5 c) (hAr' c)
                · rw [n6'] at hc
                  have hf := hS2.1.2.2.2 c hc h16
                  refine zSf_x hf (fun g j => ?_)
                  have h5 : ¬ zI m4 105 (zkq (f + 1) c) 0 = 0 := by rw [hf.1.1]; decide
                  refine ⟨⟨((aq5 c).1 g j).2 h5, ?_⟩, (aq5 c).2 g j⟩
                  show zJ m5 g _ j = _
                  rw [e5, zJ_2 (zbUR_2 16)]
                  rfl
              refine ⟨rfl, zTot_mk (a := zsz G) h ⟨hqq, fun z => ?_⟩ ?_ ?_ (fun g x j h1 h2 => ?_) (fun x h1 h2 => ?_) (fun j => ?_) hb2 (hfr ?_) (fun j => ?_)⟩
              · rw [bI 1608 (by decide)] at z
                exact zRH_t hle hS2.1.2.1.2.1 hn en (hS2.2 z)
              · rw [ec, zR_2 (zbUR_2 16), zR_2 (zbUR_2 16), zR_e, zR_n (by decide), r5, if_neg (fun z => by omega), g4]
                exact hsp
              · rw [ec, zR_2 (zbUR_2 16), zR_n (by decide), r5, if_neg (fun z => by omega), g4]
                exact zWG_ext (m := m5) (fun g hg => funext fun j => by rw [zbUR_f (by omega) (by omega)]; rfl) (w5 _ g2)
              · refine ⟨?_, ?_⟩
                · rw [ec, zbUR_o (by omega) g j 16 (Nat.le_refl _)]
                  exact (i5 g x j h1 h2).1
                · rw [ec, zJ_2 (zbUR_2 16)]
                  exact (i5 g x j h1 h2).2
              · rw [ec, zR_2 (zbUR_2 16), zR_sR, if_neg (fun z => by omega), r5, if_neg (fun z => by omega)]
                exact g8 x h1 h2
              · have e7 : zQ mc' 1501 f j = zQ m5 1501 f j := by
                  show mc'.2.2.2 1501 f j = _
                  rw [ec, zbUR_2]
                  rfl
                rw [e7, q5]
                exact g9 j
              · rw [bI 1601 (by decide), kI 1601 (by unfold zFk; omega), g6 1601 (by omega)]
              · rw [bI 1649 (by decide), kI 1649 (by unfold zFk; omega), g6 1649 (by omega)]
      · obtain ⟨rfl, er⟩ := hr3 q
        have n0 : ¬ zI m4 406 (zsz G) 0 = 0 := fun z => q (hNv.1.symm.trans z)
        rcases hc with ⟨-, rfl, ec⟩ | ⟨c0, -⟩
        · rw [hNv.1, hNv.2 q] at ec
          exact ⟨rfl, fault _ _ (by rw [er]; exact fx _ _ 1601 (Or.inl rfl)) (fun j => by rw [er, fx _ _ 1649 (Or.inr rfl)]) ec er⟩
        · exact absurd c0 n0
