/-! DIFFER, write: writeObjects, writeAt, write, operationAt -/
section WG
variable {im : gIm} {ad : Nat → Nat} {mc : Nat → Option gC} {tb pf : Nat → Int32} {wr : Nat → Option Nat} {os : List OpT} {pre : List Int32} {a b l base n : Nat} {t u : Tr}
set_option maxHeartbeats 4000000 in
theorem c_writeObjects (hW : Wt n) (h : bP im a b l base n t u) (h4 : t.1 = 4) (h4u : u.1 = 4) (hdu : dpT u ≤ n + 1) (hln : l + (n + 1) = 7) (h9 : frG (im, ad, mc)) (hw : wrAt im ad mc tb pf wr os) (hpre : stps pf 0 l = pre) (hos : os.length + 100 * (n + 1) < 2 ^ 19) :
    kX1_writeObjects (3 * n + 42) (2 * dl os.length (Wo (Wr n) pre (kids t.2.2) (kids u.2.2)).length) (10 * dl os.length (Wo (Wr n) pre (kids t.2.2) (kids u.2.2)).length) [.ref (ad 9), .ref a, .ref b, .int (nI l), .int (nI base)] (im, ad, mc) (wPost im ad mc tb pf base l (os ++ Wo (Wr n) pre (kids t.2.2) (kids u.2.2))) noX := by
  obtain ⟨hst, hsu, hwt, hwu⟩ := h.s
  obtain ⟨hv, hu, hwft, hwfu, hd, h6, h7, hl, hr⟩ := id h
  have hWlen : (Wo (Wr n) pre (kids t.2.2) (kids u.2.2)).length ≤ szT t + szT u := by
    have := (Wo_ok (w := Wr n) (v := wfT) (px := fun _ => True) (pre := pre) (fun p x y _ hy => Wr_ok n p x y hy) (kids t.2.2) (kids u.2.2) (fun _ _ => trivial) (fun y hy => hwfu.2.kid y hy)).2.2
    have e1 := szT_kids t
    have e2 := szT_kids u
    omega
  refine oX1_writeObjects (L := [some (.ref (ad 9)), some (.ref a), some (.ref b), some (.int (nI l)), some (.int (nI base)), none, none, none, none, none, none, none]) rfl (Nat.le_of_ble_eq_true rfl) ?_
  generalize hWW : Wo (Wr n) pre (kids t.2.2) (kids u.2.2) = WW at hWlen ⊢
  generalize hQ : wPost im ad mc tb pf base l (os ++ WW) = Q
  have tail : ∀ (im1 : gIm) (mc1 : Nat → Option gC) (k1 n1 i j tr i' j' : Nat) (o : Int32), ((o ≤ 0 ∧ i' = i + 1) ∨ (0 < o ∧ i' = i)) → ((0 ≤ o ∧ j' = j + 1) ∨ (o < 0 ∧ j' = j)) → 0 < tr →
      GW (mX1_writeObjects (3 * n + 42) (2 * dl os.length WW.length) (10 * dl os.length WW.length)) Q noX (im1, ad, mc1) k1 n1 17 [some (.ref (ad 9)), some (.ref a), some (.ref b), some (.int (nI l)), some (.int (nI base)), some (.int (nI i')), some (.int (nI j')), some (.int (nI (tr - 1))), none, none, none, none] [] →
      GW (mX1_writeObjects (3 * n + 42) (2 * dl os.length WW.length) (10 * dl os.length WW.length)) Q noX (im1, ad, mc1) k1 n1 108 [some (.ref (ad 9)), some (.ref a), some (.ref b), some (.int (nI l)), some (.int (nI base)), some (.int (nI i)), some (.int (nI j)), some (.int (nI tr)), some (.int o), none, none, none] [] := by
    intro im1 mc1 k1 n1 i j tr i' j' o hi' hj' htr g
    have second : GW (mX1_writeObjects (3 * n + 42) (2 * dl os.length WW.length) (10 * dl os.length WW.length)) Q noX (im1, ad, mc1) k1 n1 123 [some (.ref (ad 9)), some (.ref a), some (.ref b), some (.int (nI l)), some (.int (nI base)), some (.int (nI i')), some (.int (nI j)), some (.int (nI tr)), some (.int o), none, none, none] [] := by
      refine GW.iload6 dX1_writeObjects_123 ?_
      refine GW.iload8 dX1_writeObjects_125 ?_
      refine GW.if_lt (tgt := 134) dX1_writeObjects_127 (by decide) (fun h127 => ?_) (fun h127 => ?_)
      · have e : j' = j := by
          rcases hj' with q | q
          · exact absurd h127 (Int32.not_lt.mpr q.1)
          · exact q.2
        subst e
        refine GW.iconst (v := 0) dX1_writeObjects_134 (by decide) ?_
        refine GW.iadd dX1_writeObjects_135 ?_
        rw [Int32.add_zero]
        refine GW.istore6 dX1_writeObjects_136 (g := ?_)
        refine GW.inc7m dX1_writeObjects_138 (g := ?_)
        refine GW.goto (tgt := 17) dX1_writeObjects_141 (by decide) ?_
        refine GW.drop 8 ?_
        rw [mI_pred htr]
        exact g
      · have e : j' = j + 1 := by
          rcases hj' with q | q
          · exact q.2
          · exact absurd q.1 h127
        subst e
        refine GW.iconst (v := 1) dX1_writeObjects_130 (by decide) ?_
        refine GW.goto (tgt := 135) dX1_writeObjects_131 (by decide) ?_
        refine GW.iadd dX1_writeObjects_135 ?_
        rw [mI_succ]
        refine GW.istore6 dX1_writeObjects_136 (g := ?_)
        refine GW.inc7m dX1_writeObjects_138 (g := ?_)
        refine GW.goto (tgt := 17) dX1_writeObjects_141 (by decide) ?_
        refine GW.drop 8 ?_
        rw [mI_pred htr]
        exact g
    refine GW.iload5 dX1_writeObjects_108 ?_
    refine GW.iload8 dX1_writeObjects_110 ?_
    refine GW.if_gt (tgt := 119) dX1_writeObjects_112 (by decide) (fun h112 => ?_) (fun h112 => ?_)
    · have e : i' = i := by
        rcases hi' with q | q
        · exact absurd h112 (Int32.not_lt.mpr q.1)
        · exact q.2
      subst e
      refine GW.iconst (v := 0) dX1_writeObjects_119 (by decide) ?_
      refine GW.iadd dX1_writeObjects_120 ?_
      rw [Int32.add_zero]
      refine GW.istore5 dX1_writeObjects_121 (g := ?_)
      exact second
    · have e : i' = i + 1 := by
        rcases hi' with q | q
        · exact q.2
        · exact absurd q.1 h112
      subst e
      refine GW.iconst (v := 1) dX1_writeObjects_115 (by decide) ?_
      refine GW.goto (tgt := 120) dX1_writeObjects_116 (by decide) ?_
      refine GW.iadd dX1_writeObjects_120 ?_
      rw [mI_succ]
      refine GW.istore5 dX1_writeObjects_121 (g := ?_)
      exact second
  have loop : ∀ (m i j : Nat) (done : List OpT) (im1 : gIm) (mc1 : Nat → Option gC) (tb1 pf1 : Nat → Int32) (wr1 : Nat → Option Nat), i ≤ wd t → j ≤ wd u → (wd t - i) + (wd u - j) ≤ m → done ++ Wo (Wr n) pre ((kids t.2.2).drop i) ((kids u.2.2).drop j) = WW → wLS im ad mc tb pf os base l done im1 mc1 tb1 pf1 wr1 →
      GW (mX1_writeObjects (3 * n + 42) (2 * dl os.length WW.length) (10 * dl os.length WW.length)) Q noX (im1, ad, mc1) (2 * dl os.length done.length) (10 * dl os.length done.length) 17 [some (.ref (ad 9)), some (.ref a), some (.ref b), some (.int (nI l)), some (.int (nI base)), some (.int (nI i)), some (.int (nI j)), some (.int (nI ((wd t - i) + (wd u - j)))), none, none, none, none] [] := by
    intro m
    induction m with
    | zero =>
      intro i j done im1 mc1 tb1 pf1 wr1 hi hj hm hdone hls
      have a1 : (kids t.2.2).drop i = [] := List.drop_eq_nil_of_le (by unfold wd at hm; omega)
      have a2 : (kids u.2.2).drop j = [] := List.drop_eq_nil_of_le (by unfold wd at hm; omega)
      rw [a1, a2, Wo_nil] at hdone
      have hdone : done = WW := by rw [← hdone]; simp
      subst hdone
      refine GW.iload7 dX1_writeObjects_17 ?_
      refine GW.if_le (tgt := 144) dX1_writeObjects_19 (by decide) (fun h19 => ?_) (fun h19 => ?_)
      · refine GW.vreturn dX1_writeObjects_144 rfl (by first | (dsimp only [mX1_writeObjects, gM.dp, gM.kc, gM.ks]; omega) | exact Nat.le_of_ble_eq_true rfl | exact Nat.le_refl _ | omega) (by first | (dsimp only [mX1_writeObjects, gM.dp, gM.kc, gM.ks]; omega) | exact Nat.le_of_ble_eq_true rfl | exact Nat.le_refl _ | omega) ?_
        subst hQ
        exact hls.post
      · rw [show (wd t - i) + (wd u - j) = 0 by omega] at h19
        exact absurd (show nI 0 ≤ 0 by decide) h19
    | succ m ih =>
      intro i j done im1 mc1 tb1 pf1 wr1 hi hj hm hdone hls
      by_cases hz : (wd t - i) + (wd u - j) = 0
      · exact ih i j done im1 mc1 tb1 pf1 wr1 hi hj (by omega) hdone hls
      · have hv1 : isV im1 a t := hv.mono hls.1
        have hu1 : isV im1 b u := hu.mono hls.1
        have lenW : done.length + (Wo (Wr n) pre ((kids t.2.2).drop i) ((kids u.2.2).drop j)).length = WW.length := by rw [← hdone, List.length_append]
        have ol : (os ++ done).length = os.length + done.length := List.length_append
        have hwr1 := hls.2.2.1
        have lt9 := tbAt.gl (G := (im1, ad, mc1)) hwr1.tb
        have hds0 := dl_mono os.length (show done.length ≤ WW.length by omega)
        refine GW.iload7 dX1_writeObjects_17 ?_
        refine GW.if_le (tgt := 144) dX1_writeObjects_19 (by decide) (fun h19 => ?_) (fun h19 => ?_)
        · exact absurd ((mI_le (b := 0) (by omega) (by omega)).mp h19) (by omega)
        · refine GW.aload1 dX1_writeObjects_22 (g := ?_)
          refine GW.iload5 dX1_writeObjects_23 ?_
          refine GW.aload2 dX1_writeObjects_25 (g := ?_)
          refine GW.iload6 dX1_writeObjects_26 ?_
          refine GW.callS cs_X1_51 mt_X1_order (c_order (G := (im1, ad, mc1)) (i := i) (j := j) hv1 hu1 h4 h4u hst hsu (by omega) (by omega)) dX1_writeObjects_28 rfl rfl (by first | (dsimp only [mX1_writeObjects, gM.dp, gM.kc, gM.ks]; omega) | exact Nat.le_of_ble_eq_true rfl | exact Nat.le_refl _ | omega) (by decide) (by first | omega | (dsimp only [mX1_writeObjects, gM.dp, gM.kc, gM.ks]; omega)) (by first | omega | (dsimp only [mX1_writeObjects, gM.dp, gM.kc, gM.ks]; omega)) (by first | exact Nat.le_of_ble_eq_true rfl | (simp [va_rf_cat]; done) | (simp [va_rf_cat, Value.category]; done)) rfl (fun _ _ h => h.elim) (fun v28 G28 hq => ?_)
          obtain ⟨w, rfl, rfl, rfl⟩ := hq
          obtain ⟨d1, d2, d3⟩ := Wo_drop (Wr n) pre (xs := kids t.2.2) (ys := kids u.2.2) (i := i) (j := j)
          refine GW.istore8 dX1_writeObjects_31 (g := ?_)
          refine GW.iload8 dX1_writeObjects_33 ?_
          rcases ord_cases hwft hwfu h4 h4u hi hj (by omega) with ⟨o0, x, y, hx, hy, hk⟩ | ⟨o0, x, hx, hk⟩ | ⟨o0, o1, y, hy, hk⟩
          · have hi' : i < wd t := (List.getElem?_eq_some_iff.mp hx).1
            have hj' : j < wd u := (List.getElem?_eq_some_iff.mp hy).1
            have hmx := List.mem_of_getElem? hx
            have hmy := List.mem_of_getElem? hy
            have hdx := kid_dp hmx
            have hdy := kid_dp hmy
            have hsx := kid_sz hmx
            have hsy := kid_sz hmy
            have hW1 := d1 x y hx hy hk
            rw [hW1] at hdone lenW
            rw [List.length_append] at lenW
            have hds := dl_step os done (Wr n (pre ++ [x.1]) x.2 y.2) WW (by rw [List.length_append]; omega)
            refine GW.if_ne (tgt := 69) dX1_writeObjects_35 (by decide) (fun h35 => ?_) (fun h35 => ?_)
            · exact absurd o0 h35
            · refine GW.aload0 dX1_writeObjects_38 (g := ?_)
              refine GW.aload1 dX1_writeObjects_39 (g := ?_)
              refine GW.iload5 dX1_writeObjects_40 ?_
              refine GW.callV cv_X1_55 mt_X8_partAt (c_partAt (G := (im1, ad, mc1)) hv1 hst (nI i)) dX1_writeObjects_42 (by first | assumption | exact isV.gl (by assumption) | exact tbAt.gl (by assumption)) rfl rfl rfl rfl (by first | (dsimp only [mX1_writeObjects, gM.dp, gM.kc, gM.ks]; omega) | exact Nat.le_of_ble_eq_true rfl | exact Nat.le_refl _ | omega) (by decide) (by first | omega | (dsimp only [mX1_writeObjects, gM.dp, gM.kc, gM.ks]; omega)) (by first | omega | (dsimp only [mX1_writeObjects, gM.dp, gM.kc, gM.ks]; omega)) (by first | exact Nat.le_of_ble_eq_true rfl | (simp [va_rf_cat]; done) | (simp [va_rf_cat, Value.category]; done)) rfl (fun _ _ h => h.elim) (fun v42 G42 hq => ?_)
              obtain ⟨r1, rfl, rfl, hq1⟩ := hq
              rw [partT_mI (by omega), kid_some hx] at hq1
              cases r1 with
              | none => exact hq1.elim
              | some b1 =>
                refine GW.aload2 dX1_writeObjects_45 (g := ?_)
                refine GW.iload6 dX1_writeObjects_46 ?_
                refine GW.callV cv_X1_55 mt_X8_partAt (c_partAt (G := (im1, ad, mc1)) hu1 hsu (nI j)) dX1_writeObjects_48 (by first | assumption | exact isV.gl (by assumption) | exact tbAt.gl (by assumption)) rfl rfl rfl rfl (by first | (dsimp only [mX1_writeObjects, gM.dp, gM.kc, gM.ks]; omega) | exact Nat.le_of_ble_eq_true rfl | exact Nat.le_refl _ | omega) (by decide) (by first | omega | (dsimp only [mX1_writeObjects, gM.dp, gM.kc, gM.ks]; omega)) (by first | omega | (dsimp only [mX1_writeObjects, gM.dp, gM.kc, gM.ks]; omega)) (by first | exact Nat.le_of_ble_eq_true rfl | (simp [va_rf_cat]; done) | (simp [va_rf_cat, Value.category]; done)) rfl (fun _ _ h => h.elim) (fun v48 G48 hq => ?_)
                obtain ⟨r2, rfl, rfl, hq2⟩ := hq
                rw [partT_mI (by omega), kid_some hy] at hq2
                cases r2 with
                | none => exact hq2.elim
                | some b2 =>
                  have hq1 : isV im1 b1 x.2 := hq1
                  have hq2 : isV im1 b2 y.2 := hq2
                  have hroom : base + szT x.2 * szT y.2 + dpT x.2 ≤ 2600 := by
                    have := Nat.mul_le_mul (Nat.le_of_lt hsx) (Nat.le_of_lt hsy)
                    omega
                  refine GW.aload1 dX1_writeObjects_51 (g := ?_)
                  refine GW.iload5 dX1_writeObjects_52 ?_
                  refine GW.callV cv_X1_63 mt_X8_stepOf (c_stepOf (G := (im1, ad, mc1)) hv1 hst (nI i)) dX1_writeObjects_54 (by first | assumption | exact isV.gl (by assumption) | exact tbAt.gl (by assumption)) rfl rfl rfl rfl (by first | (dsimp only [mX1_writeObjects, gM.dp, gM.kc, gM.ks]; omega) | exact Nat.le_of_ble_eq_true rfl | exact Nat.le_refl _ | omega) (by decide) (by first | omega | (dsimp only [mX1_writeObjects, gM.dp, gM.kc, gM.ks]; omega)) (by first | omega | (dsimp only [mX1_writeObjects, gM.dp, gM.kc, gM.ks]; omega)) (by first | exact Nat.le_of_ble_eq_true rfl | (simp [va_rf_cat]; done) | (simp [va_rf_cat, Value.category]; done)) rfl (fun _ _ h => h.elim) (fun v54 G54 hq => ?_)
                  obtain ⟨w, rfl, rfl, rfl⟩ := hq
                  rw [stepT_mI (by omega) hx, if_pos h4]
                  refine GW.iload3 dX1_writeObjects_57 ?_
                  refine GW.iload4 dX1_writeObjects_58 ?_
                  refine GW.callV cv_X1_109 mt_X1_writeBelow (c_writeBelow hW (s := x.1) (base := base) hq1 hq2 (hwft.2.kid x hmx) (hwfu.2.kid y hmy) (by omega) (by omega) (by omega) (by omega) (by omega) hroom (hls.frG h9) hwr1 (hls.prs hpre) (by omega)) dX1_writeObjects_60 (by first | assumption | exact isV.gl (by assumption) | exact tbAt.gl (by assumption)) rfl rfl rfl rfl (by first | (dsimp only [mX1_writeObjects, gM.dp, gM.kc, gM.ks]; omega) | exact Nat.le_of_ble_eq_true rfl | exact Nat.le_refl _ | omega) (by decide) (by first | omega | (dsimp only [mX1_writeObjects, gM.dp, gM.kc, gM.ks]; omega)) (by first | omega | (dsimp only [mX1_writeObjects, gM.dp, gM.kc, gM.ks]; omega)) (by first | exact Nat.le_of_ble_eq_true rfl | (simp [va_rf_cat]; done) | (simp [va_rf_cat, Value.category]; done)) rfl (fun _ _ h => h.elim) (fun v60 G60 hq => ?_)
                  obtain ⟨rfl, im3, mc3, tb3, pf3, wr3, g1, rfl, g3, g4, g5, g6⟩ := hq
                  refine GW.inc7m dX1_writeObjects_63 (g := ?_)
                  refine GW.goto (tgt := 108) dX1_writeObjects_66 (by decide) ?_
                  rw [mI_pred (by omega)]
                  refine GW.widen (k' := 2 * dl os.length (done ++ Wr n (pre ++ [x.1]) x.2 y.2).length) (n' := 10 * dl os.length (done ++ Wr n (pre ++ [x.1]) x.2 y.2).length) (by omega) (by omega) ?_
                  refine tail im3 mc3 _ _ i j _ (i + 1) (j + 1) _ (Or.inl ⟨by rw [o0]; exact Int32.le_refl _, rfl⟩) (Or.inl ⟨by rw [o0]; exact Int32.le_refl _, rfl⟩) (by omega) ?_
                  rw [show wd t - i + (wd u - j) - 1 - 1 = (wd t - (i + 1)) + (wd u - (j + 1)) by omega]
                  exact ih (i + 1) (j + 1) (done ++ Wr n (pre ++ [x.1]) x.2 y.2) im3 mc3 tb3 pf3 wr3 hi' hj' (by omega) (by rw [List.append_assoc]; exact hdone) (hls.next (Nat.le_refl _) (Nat.le_refl _) g1 g3 g4 g5 g6)
          · have hi' : i < wd t := (List.getElem?_eq_some_iff.mp hx).1
            have hW1 := d2 x hx hk
            rw [hW1] at hdone lenW
            rw [List.length_cons] at lenW
            have hds := dl_step os done [dOp pre x.1] WW (by rw [List.length_append, List.length_singleton]; omega)
            rw [List.length_singleton] at hds
            refine GW.if_ne (tgt := 69) dX1_writeObjects_35 (by decide) (fun h35 => ?_) (fun h35 => ?_)
            · refine GW.iload8 dX1_writeObjects_69 ?_
              refine GW.if_ge (tgt := 90) dX1_writeObjects_71 (by decide) (fun h71 => ?_) (fun h71 => ?_)
              · exact absurd o0 (Int32.not_lt.mpr h71)
              · refine GW.aload0 dX1_writeObjects_74 (g := ?_)
                refine GW.iconst (v := 1) dX1_writeObjects_75 (by decide) ?_
                refine GW.iload3 dX1_writeObjects_76 ?_
                refine GW.aload1 dX1_writeObjects_77 (g := ?_)
                refine GW.iload5 dX1_writeObjects_78 ?_
                refine GW.callV cv_X1_63 mt_X8_stepOf (c_stepOf (G := (im1, ad, mc1)) hv1 hst (nI i)) dX1_writeObjects_80 (by first | assumption | exact isV.gl (by assumption) | exact tbAt.gl (by assumption)) rfl rfl rfl rfl (by first | (dsimp only [mX1_writeObjects, gM.dp, gM.kc, gM.ks]; omega) | exact Nat.le_of_ble_eq_true rfl | exact Nat.le_refl _ | omega) (by decide) (by first | omega | (dsimp only [mX1_writeObjects, gM.dp, gM.kc, gM.ks]; omega)) (by first | omega | (dsimp only [mX1_writeObjects, gM.dp, gM.kc, gM.ks]; omega)) (by first | exact Nat.le_of_ble_eq_true rfl | (simp [va_rf_cat]; done) | (simp [va_rf_cat, Value.category]; done)) rfl (fun _ _ h => h.elim) (fun v80 G80 hq => ?_)
                obtain ⟨w, rfl, rfl, rfl⟩ := hq
                rw [stepT_mI (by omega) hx, if_pos h4]
                refine GW.null dX1_writeObjects_83 ?_
                refine GW.callV cv_X1_105 mt_X1_note (c_note (code := 1) (step := x.1) (vr := none) (val := none) (hls.frG h9) hwr1 (by omega) (hls.prs hpre) trivial (by omega) base) dX1_writeObjects_84 (by first | assumption | exact isV.gl (by assumption) | exact tbAt.gl (by assumption)) rfl rfl rfl rfl (by first | (dsimp only [mX1_writeObjects, gM.dp, gM.kc, gM.ks]; omega) | exact Nat.le_of_ble_eq_true rfl | exact Nat.le_refl _ | omega) (by decide) (by first | omega | (dsimp only [mX1_writeObjects, gM.dp, gM.kc, gM.ks]; omega)) (by first | omega | (dsimp only [mX1_writeObjects, gM.dp, gM.kc, gM.ks]; omega)) (by first | exact Nat.le_of_ble_eq_true rfl | (simp [va_rf_cat]; done) | (simp [va_rf_cat, Value.category]; done)) rfl (fun _ _ h => h.elim) (fun v84 G84 hq => ?_)
                obtain ⟨rfl, im3, mc3, tb3, pf3, wr3, g1, rfl, g3, g4, g5, g6⟩ := hq
                refine GW.goto (tgt := 108) dX1_writeObjects_87 (by decide) ?_
                refine GW.widen (k' := 2 * dl os.length (done ++ [dOp pre x.1]).length) (n' := 10 * dl os.length (done ++ [dOp pre x.1]).length) (by omega) (by omega) ?_
                refine tail im3 mc3 _ _ i j _ (i + 1) j _ (Or.inl ⟨Int32.le_of_lt o0, rfl⟩) (Or.inr ⟨o0, rfl⟩) (by omega) ?_
                rw [show wd t - i + (wd u - j) - 1 = (wd t - (i + 1)) + (wd u - j) by omega]
                exact ih (i + 1) j (done ++ [dOp pre x.1]) im3 mc3 tb3 pf3 wr3 hi' hj (by omega) (by rw [List.append_assoc]; exact hdone) (hls.next (Nat.le_refl _) (by omega) g1 g3 g4 g5 g6)
            · rw [h35] at o0
              exact absurd o0 i32_irr
          · have hj' : j < wd u := (List.getElem?_eq_some_iff.mp hy).1
            have hpos := i32_gt o0 o1
            have hW1 := d3 y hy hk
            rw [hW1] at hdone lenW
            rw [List.length_cons] at lenW
            have hds := dl_step os done [aOp pre y.1 y.2] WW (by rw [List.length_append, List.length_singleton]; omega)
            rw [List.length_singleton] at hds
            refine GW.if_ne (tgt := 69) dX1_writeObjects_35 (by decide) (fun h35 => ?_) (fun h35 => ?_)
            · refine GW.iload8 dX1_writeObjects_69 ?_
              refine GW.if_ge (tgt := 90) dX1_writeObjects_71 (by decide) (fun h71 => ?_) (fun h71 => ?_)
              · refine GW.aload0 dX1_writeObjects_90 (g := ?_)
                refine GW.iconst (v := 0) dX1_writeObjects_91 (by decide) ?_
                refine GW.iload3 dX1_writeObjects_92 ?_
                refine GW.aload2 dX1_writeObjects_93 (g := ?_)
                refine GW.iload6 dX1_writeObjects_94 ?_
                refine GW.callV cv_X1_63 mt_X8_stepOf (c_stepOf (G := (im1, ad, mc1)) hu1 hsu (nI j)) dX1_writeObjects_96 (by first | assumption | exact isV.gl (by assumption) | exact tbAt.gl (by assumption)) rfl rfl rfl rfl (by first | (dsimp only [mX1_writeObjects, gM.dp, gM.kc, gM.ks]; omega) | exact Nat.le_of_ble_eq_true rfl | exact Nat.le_refl _ | omega) (by decide) (by first | omega | (dsimp only [mX1_writeObjects, gM.dp, gM.kc, gM.ks]; omega)) (by first | omega | (dsimp only [mX1_writeObjects, gM.dp, gM.kc, gM.ks]; omega)) (by first | exact Nat.le_of_ble_eq_true rfl | (simp [va_rf_cat]; done) | (simp [va_rf_cat, Value.category]; done)) rfl (fun _ _ h => h.elim) (fun v96 G96 hq => ?_)
                obtain ⟨w, rfl, rfl, rfl⟩ := hq
                rw [stepT_mI (by omega) hy, if_pos h4u]
                refine GW.aload2 dX1_writeObjects_99 (g := ?_)
                refine GW.iload6 dX1_writeObjects_100 ?_
                refine GW.callV cv_X1_55 mt_X8_partAt (c_partAt (G := (im1, ad, mc1)) hu1 hsu (nI j)) dX1_writeObjects_102 (by first | assumption | exact isV.gl (by assumption) | exact tbAt.gl (by assumption)) rfl rfl rfl rfl (by first | (dsimp only [mX1_writeObjects, gM.dp, gM.kc, gM.ks]; omega) | exact Nat.le_of_ble_eq_true rfl | exact Nat.le_refl _ | omega) (by decide) (by first | omega | (dsimp only [mX1_writeObjects, gM.dp, gM.kc, gM.ks]; omega)) (by first | omega | (dsimp only [mX1_writeObjects, gM.dp, gM.kc, gM.ks]; omega)) (by first | exact Nat.le_of_ble_eq_true rfl | (simp [va_rf_cat]; done) | (simp [va_rf_cat, Value.category]; done)) rfl (fun _ _ h => h.elim) (fun v102 G102 hq => ?_)
                obtain ⟨r1, rfl, rfl, hq1⟩ := hq
                rw [partT_mI (by omega), kid_some hy] at hq1
                refine GW.callV cv_X1_105 mt_X1_note (c_note (code := 0) (step := y.1) (vr := r1) (val := some y.2) (hls.frG h9) hwr1 (by omega) (hls.prs hpre) hq1 (by omega) base) dX1_writeObjects_105 (by first | assumption | exact isV.gl (by assumption) | exact tbAt.gl (by assumption)) rfl rfl rfl rfl (by first | (dsimp only [mX1_writeObjects, gM.dp, gM.kc, gM.ks]; omega) | exact Nat.le_of_ble_eq_true rfl | exact Nat.le_refl _ | omega) (by decide) (by first | omega | (dsimp only [mX1_writeObjects, gM.dp, gM.kc, gM.ks]; omega)) (by first | omega | (dsimp only [mX1_writeObjects, gM.dp, gM.kc, gM.ks]; omega)) (by first | exact Nat.le_of_ble_eq_true rfl | (simp [va_rf_cat]; done) | (simp [va_rf_cat, Value.category]; done)) rfl (fun _ _ h => h.elim) (fun v105 G105 hq => ?_)
                obtain ⟨rfl, im3, mc3, tb3, pf3, wr3, g1, rfl, g3, g4, g5, g6⟩ := hq
                refine GW.widen (k' := 2 * dl os.length (done ++ [aOp pre y.1 y.2]).length) (n' := 10 * dl os.length (done ++ [aOp pre y.1 y.2]).length) (by omega) (by omega) ?_
                refine tail im3 mc3 _ _ i j _ i (j + 1) _ (Or.inr ⟨hpos, rfl⟩) (Or.inl ⟨Int32.le_of_lt hpos, rfl⟩) (by omega) ?_
                rw [show wd t - i + (wd u - j) - 1 = (wd t - i) + (wd u - (j + 1)) by omega]
                exact ih i (j + 1) (done ++ [aOp pre y.1 y.2]) im3 mc3 tb3 pf3 wr3 hi hj' (by omega) (by rw [List.append_assoc]; exact hdone) (hls.next (Nat.le_refl _) (by omega) g1 g3 g4 g5 g6)
              · exact absurd (Int32.le_of_lt hpos) h71
            · exact absurd h35 o0
  refine GW.iconst (v := 0) dX1_writeObjects_0 (by decide) ?_
  refine GW.istore5 dX1_writeObjects_1 (g := ?_)
  refine GW.iconst (v := 0) dX1_writeObjects_3 (by decide) ?_
  refine GW.istore6 dX1_writeObjects_4 (g := ?_)
  refine GW.aload1 dX1_writeObjects_6 (g := ?_)
  refine GW.callV cv_X1_47 mt_X8_width (c_width (G := (im, ad, mc)) hv) dX1_writeObjects_7 (by first | assumption | exact isV.gl (by assumption) | exact tbAt.gl (by assumption)) rfl rfl rfl rfl (by first | (dsimp only [mX1_writeObjects, gM.dp, gM.kc, gM.ks]; omega) | exact Nat.le_of_ble_eq_true rfl | exact Nat.le_refl _ | omega) (by decide) (by first | omega | (dsimp only [mX1_writeObjects, gM.dp, gM.kc, gM.ks]; omega)) (by first | omega | (dsimp only [mX1_writeObjects, gM.dp, gM.kc, gM.ks]; omega)) (by first | exact Nat.le_of_ble_eq_true rfl | (simp [va_rf_cat]; done) | (simp [va_rf_cat, Value.category]; done)) rfl (fun _ _ h => h.elim) (fun v7 G7 hq => ?_)
  obtain ⟨w, rfl, rfl, rfl⟩ := hq
  refine GW.aload2 dX1_writeObjects_10 (g := ?_)
  refine GW.callV cv_X1_47 mt_X8_width (c_width (G := (im, ad, mc)) hu) dX1_writeObjects_11 (by first | assumption | exact isV.gl (by assumption) | exact tbAt.gl (by assumption)) rfl rfl rfl rfl (by first | (dsimp only [mX1_writeObjects, gM.dp, gM.kc, gM.ks]; omega) | exact Nat.le_of_ble_eq_true rfl | exact Nat.le_refl _ | omega) (by decide) (by first | omega | (dsimp only [mX1_writeObjects, gM.dp, gM.kc, gM.ks]; omega)) (by first | omega | (dsimp only [mX1_writeObjects, gM.dp, gM.kc, gM.ks]; omega)) (by first | exact Nat.le_of_ble_eq_true rfl | (simp [va_rf_cat]; done) | (simp [va_rf_cat, Value.category]; done)) rfl (fun _ _ h => h.elim) (fun v11 G11 hq => ?_)
  obtain ⟨w, rfl, rfl, rfl⟩ := hq
  refine GW.iadd dX1_writeObjects_14 ?_
  rw [mI_add]
  refine GW.istore7 dX1_writeObjects_15 (g := ?_)
  have := loop (wd t + wd u) 0 0 [] im mc tb pf wr (Nat.zero_le _) (Nat.zero_le _) (Nat.le_refl _) (by rw [List.drop_zero, List.drop_zero]; exact hWW) (wLS.zero hw)
  rw [show ([] : List OpT).length = 0 from rfl, dl_zero] at this
  exact this
end WG
/-- nothing below: a tree of depth 1 -/
theorem flat {t : Tr} (h : dpT t ≤ 1) : kids t.2.2 = [] := by
  cases hk : kids t.2.2 with
  | nil => rfl
  | cons x xs =>
    have := kid_dp (t := t) (x := x) (by rw [hk]; exact List.mem_cons_self)
    have h1 : 1 ≤ dpT x.2 := Nat.le_add_right 1 _
    omega
theorem Wt_succ {n : Nat} (hW : n = 0 ∨ Wt n) : Wt (n + 1) := by
  intro im ad mc tb pf wr os pre a b l base t u hv hu hwft hwfu hd hdu h6 h7 hln hr h9 hw hpre hos
  have h : bP im a b l base n t u := ⟨hv, hu, hwft, hwfu, hd, h6, h7, by omega, hr⟩
  obtain ⟨hst, hsu, hwt, hwu⟩ := h.s
  have lt9 := tbAt.gl (G := (im, ad, mc)) hw.tb
  have l11 : gL (im, ad, mc) (ad 11) (.inr (0, 6, .inl pf)) := Or.inr ⟨11, rfl, hw.2.2.1⟩
  obtain ⟨kr, pq, hnd, -, -⟩ := id hv.node
  obtain ⟨kr', pq', hnd', -, -⟩ := id hu.node
  have la : gL (im, ad, mc) a (.inl (8, _)) := Or.inl hnd
  have lb : gL (im, ad, mc) b (.inl (8, _)) := Or.inl hnd'
  refine oX1_writeAt (L := [some (.ref (ad 9)), some (va_rf (some a)), some (va_rf (some b)), some (.int (nI l)), some (.int (nI base)), none, none, none, none, none, none, none]) rfl (Nat.le_of_ble_eq_true rfl) ?_
  generalize hQ : wPost im ad mc tb pf base l (os ++ Wr (n + 1) pre t u) = Q
  have hdn : dpT t ≤ 7 := by omega
  refine GW.aload1 dX1_writeAt_0 (g := ?_)
  refine GW.ifnull (tgt := 16) dX1_writeAt_1 (by decide) (fun h1 => ?_) (fun r1 h1 => ?_)
  · cases h1
  · refine GW.aload2 dX1_writeAt_4 (g := ?_)
    refine GW.ifnull (tgt := 16) dX1_writeAt_5 (by decide) (fun h5 => ?_) (fun r5 h5 => ?_)
    · cases h5
    · refine GW.aload1 dX1_writeAt_8 (g := ?_)
      refine GW.aload2 dX1_writeAt_9 (g := ?_)
      refine GW.callV cv_X1_95 mt_X8_isSameAs (c_isSameAs (G := (im, ad, mc)) hv hu hwft hwfu hst hsu (by omega)) dX1_writeAt_10 (by first | assumption | exact isV.gl (by assumption) | exact tbAt.gl (by assumption)) rfl rfl rfl rfl (by first | (dsimp only [mX1_writeAt, gM.dp, gM.kc, gM.ks]; omega) | exact Nat.le_of_ble_eq_true rfl | exact Nat.le_refl _ | omega) (by decide) (by first | omega | (dsimp only [mX1_writeAt, gM.dp, gM.kc, gM.ks]; omega)) (by first | omega | (dsimp only [mX1_writeAt, gM.dp, gM.kc, gM.ks]; omega)) (by first | exact Nat.le_of_ble_eq_true rfl | (simp [va_rf_cat]; done) | (simp [va_rf_cat, Value.category]; done)) rfl (fun _ _ h => h.elim) (fun v10 G10 hq => ?_)
      obtain ⟨w, rfl, rfl, rfl⟩ := hq
      by_cases he : t = u
      · have h1 : bI (t = u) = 1 := bI_t he
        refine GW.if_eq (tgt := 17) dX1_writeAt_13 (by decide) (fun h13 => ?_) (fun h13 => ?_)
        · have h13 : bI (t = u) = 0 := h13
          rw [h1] at h13
          exact absurd h13 (by decide)
        · refine GW.vreturn dX1_writeAt_16 rfl (by first | (dsimp only [mX1_writeAt, gM.dp, gM.kc, gM.ks]; omega) | exact Nat.le_of_ble_eq_true rfl | exact Nat.le_refl _ | omega) (by first | (dsimp only [mX1_writeAt, gM.dp, gM.kc, gM.ks]; omega) | exact Nat.le_of_ble_eq_true rfl | exact Nat.le_refl _ | omega) ?_
          subst hQ
          subst he
          rw [Wr_same, List.append_nil]
          have := (wLS.zero (base := base) (l := l) hw).post
          rw [List.append_nil] at this
          exact this
      · have h0 : bI (t = u) = 0 := bI_f he
        refine GW.if_eq (tgt := 17) dX1_writeAt_13 (by decide) (fun h13 => ?_) (fun h13 => ?_)
        · refine GW.iload3 dX1_writeAt_17 ?_
          refine GW.aload0 dX1_writeAt_18 (g := ?_)
          refine GW.getf fl_X1_15 dX1_writeAt_19 (by assumption) (by rfl) ?_
          refine GW.alen dX1_writeAt_22 (by assumption) (by decide) rfl ?_
          have noteP : ¬ (t.1 = 3 ∧ u.1 = 3) → ¬ (t.1 = 4 ∧ u.1 = 4) → ∀ l5 : Option Value, GW (mX1_writeAt (3 * (n + 1) + 40) (2 * dl os.length (Wr (n + 1) pre t u).length) (10 * dl os.length (Wr (n + 1) pre t u).length)) Q noX (im, ad, mc) 0 0 111 [some (.ref (ad 9)), some (va_rf (some a)), some (va_rf (some b)), some (.int (nI l)), some (.int (nI base)), l5, none, none, none, none, none, none] [] := by
            intro h3 h4 l5
            rw [Wr_s he h3 h4] at hQ ⊢
            have edl : dl os.length ([(2, pre, 0, some u)] : List OpT).length = dl os.length 1 := rfl
            refine GW.aload0 dX1_writeAt_111 (g := ?_)
            refine GW.iconst (v := 2) dX1_writeAt_112 (by decide) ?_
            refine GW.iload3 dX1_writeAt_113 ?_
            refine GW.iconst (v := 0) dX1_writeAt_114 (by decide) ?_
            refine GW.aload2 dX1_writeAt_115 (g := ?_)
            refine GW.callV cv_X1_105 mt_X1_note (c_note (code := 2) (step := 0) (vr := some b) (val := some u) h9 hw (by omega) hpre hu (by omega) base) dX1_writeAt_116 (by first | assumption | exact isV.gl (by assumption) | exact tbAt.gl (by assumption)) rfl rfl rfl rfl (by first | (dsimp only [mX1_writeAt, gM.dp, gM.kc, gM.ks]; omega) | exact Nat.le_of_ble_eq_true rfl | exact Nat.le_refl _ | omega) (by decide) (by first | omega | (dsimp only [mX1_writeAt, gM.dp, gM.kc, gM.ks]; omega)) (by first | omega | (dsimp only [mX1_writeAt, gM.dp, gM.kc, gM.ks]; omega)) (by first | exact Nat.le_of_ble_eq_true rfl | (simp [va_rf_cat]; done) | (simp [va_rf_cat, Value.category]; done)) rfl (fun _ _ h => h.elim) (fun v116 G116 hq => ?_)
            obtain ⟨rfl, im3, mc3, tb3, pf3, wr3, g1, rfl, g3, g4, g5, g6⟩ := hq
            refine GW.vreturn dX1_writeAt_119 rfl (by first | (dsimp only [mX1_writeAt, gM.dp, gM.kc, gM.ks]; omega) | exact Nat.le_of_ble_eq_true rfl | exact Nat.le_refl _ | omega) (by first | (dsimp only [mX1_writeAt, gM.dp, gM.kc, gM.ks]; omega) | exact Nat.le_of_ble_eq_true rfl | exact Nat.le_refl _ | omega) ?_
            subst hQ
            exact ⟨rfl, im3, mc3, tb3, pf3, wr3, g1, rfl, g3, g4, g5, fun q hq => g6 q (by omega)⟩
          have shal : n = 0 → ¬ (t.1 = 3 ∧ u.1 = 3) ∧ ¬ (t.1 = 4 ∧ u.1 = 4) := by
            rintro rfl
            have k1 := flat (t := t) (by omega)
            have k2 := flat (t := u) (by omega)
            exact ⟨fun q => he (tr_ext hwft hwfu (q.1.trans q.2.symm) (by rw [wf_num hwft (Or.inl q.1), wf_num hwfu (Or.inl q.2)]) (by rw [k1, k2])), fun q => he (tr_ext hwft hwfu (q.1.trans q.2.symm) (by rw [wf_num hwft (Or.inr q.1), wf_num hwfu (Or.inr q.2)]) (by rw [k1, k2]))⟩
          have at78 : ¬ (t.1 = 3 ∧ u.1 = 3) → ∀ h5 : Int32, ((h5 = 1 ∧ 0 < n) ∨ (h5 = 0 ∧ n = 0)) → GW (mX1_writeAt (3 * (n + 1) + 40) (2 * dl os.length (Wr (n + 1) pre t u).length) (10 * dl os.length (Wr (n + 1) pre t u).length)) Q noX (im, ad, mc) 0 0 78 [some (.ref (ad 9)), some (va_rf (some a)), some (va_rf (some b)), some (.int (nI l)), some (.int (nI base)), some (.int h5), none, none, none, none, none, none] [] := by
            intro h3 hb5 hh5
            refine GW.iload5 dX1_writeAt_78 ?_
            refine GW.if_eq (tgt := 111) dX1_writeAt_80 (by decide) (fun h80 => ?_) (fun h80 => ?_)
            · have hn0 : n = 0 := by
                rcases hh5 with q | q
                · rw [q.1] at h80; exact absurd h80 (by decide)
                · exact q.2
              exact noteP (shal hn0).1 (shal hn0).2 _
            · have hn0 : 0 < n := by
                rcases hh5 with q | q
                · exact q.2
                · exact absurd q.1 h80
              refine GW.aload1 dX1_writeAt_83 (g := ?_)
              refine GW.getf fl_X1_28 dX1_writeAt_84 (by assumption) (by rfl) ?_
              refine GW.iconst (v := 4) dX1_writeAt_87 (by decide) ?_
              refine GW.icmp_ne (tgt := 111) dX1_writeAt_88 (by decide) (fun h88 => ?_) (fun h88 => ?_)
              · exact noteP h3 (fun q => h88 q.1) _
              · refine GW.aload2 dX1_writeAt_91 (g := ?_)
                refine GW.getf fl_X1_28 dX1_writeAt_92 (by assumption) (by rfl) ?_
                refine GW.iconst (v := 4) dX1_writeAt_95 (by decide) ?_
                refine GW.icmp_ne (tgt := 111) dX1_writeAt_96 (by decide) (fun h96 => ?_) (fun h96 => ?_)
                · exact noteP h3 (fun q => h96 q.2) _
                · rw [Wr_o he ⟨h88, h96⟩] at hQ ⊢
                  have hWn : Wt n := by
                    rcases hW with q | q
                    · omega
                    · exact q
                  refine GW.aload0 dX1_writeAt_99 (g := ?_)
                  refine GW.aload1 dX1_writeAt_100 (g := ?_)
                  refine GW.aload2 dX1_writeAt_101 (g := ?_)
                  refine GW.iload3 dX1_writeAt_102 ?_
                  refine GW.iload4 dX1_writeAt_103 ?_
                  refine GW.callV cv_X1_102 mt_X1_writeObjects (c_writeObjects hWn h h88 h96 hdu hln h9 hw hpre hos) dX1_writeAt_105 (by first | assumption | exact isV.gl (by assumption) | exact tbAt.gl (by assumption)) rfl rfl rfl rfl (by first | (dsimp only [mX1_writeAt, gM.dp, gM.kc, gM.ks]; omega) | exact Nat.le_of_ble_eq_true rfl | exact Nat.le_refl _ | omega) (by decide) (by first | omega | (dsimp only [mX1_writeAt, gM.dp, gM.kc, gM.ks]; omega)) (by first | omega | (dsimp only [mX1_writeAt, gM.dp, gM.kc, gM.ks]; omega)) (by first | exact Nat.le_of_ble_eq_true rfl | (simp [va_rf_cat]; done) | (simp [va_rf_cat, Value.category]; done)) rfl (fun _ _ h => h.elim) (fun v105 G105 hq => ?_)
                  subst hQ
                  obtain ⟨rfl, hrest⟩ := hq
                  refine GW.goto (tgt := 119) dX1_writeAt_108 (by decide) ?_
                  obtain ⟨im3, mc3, tb3, pf3, wr3, g1, rfl, g3, g4, g5, g6⟩ := hrest
                  refine GW.vreturn dX1_writeAt_119 rfl (by first | (dsimp only [mX1_writeAt, gM.dp, gM.kc, gM.ks]; omega) | exact Nat.le_of_ble_eq_true rfl | exact Nat.le_refl _ | omega) (by first | (dsimp only [mX1_writeAt, gM.dp, gM.kc, gM.ks]; omega) | exact Nat.le_of_ble_eq_true rfl | exact Nat.le_refl _ | omega) ?_
                  exact ⟨rfl, im3, mc3, tb3, pf3, wr3, g1, rfl, g3, g4, g5, g6⟩
          have at33 : ∀ h5 : Int32, ((h5 = 1 ∧ 0 < n) ∨ (h5 = 0 ∧ n = 0)) → GW (mX1_writeAt (3 * (n + 1) + 40) (2 * dl os.length (Wr (n + 1) pre t u).length) (10 * dl os.length (Wr (n + 1) pre t u).length)) Q noX (im, ad, mc) 0 0 33 [some (.ref (ad 9)), some (va_rf (some a)), some (va_rf (some b)), some (.int (nI l)), some (.int (nI base)), some (.int h5), none, none, none, none, none, none] [] := by
            intro hb5 hh5
            refine GW.iload5 dX1_writeAt_33 ?_
            refine GW.if_eq (tgt := 78) dX1_writeAt_35 (by decide) (fun h35 => ?_) (fun h35 => ?_)
            · have hn0 : n = 0 := by
                rcases hh5 with q | q
                · rw [q.1] at h35; exact absurd h35 (by decide)
                · exact q.2
              exact at78 (shal hn0).1 _ hh5
            · have hn0 : 0 < n := by
                rcases hh5 with q | q
                · exact q.2
                · exact absurd q.1 h35
              refine GW.aload1 dX1_writeAt_38 (g := ?_)
              refine GW.getf fl_X1_28 dX1_writeAt_39 (by assumption) (by rfl) ?_
              refine GW.iconst (v := 3) dX1_writeAt_42 (by decide) ?_
              refine GW.icmp_ne (tgt := 78) dX1_writeAt_43 (by decide) (fun h43 => ?_) (fun h43 => ?_)
              · exact at78 (fun q => h43 q.1) _ hh5
              · refine GW.aload2 dX1_writeAt_46 (g := ?_)
                refine GW.getf fl_X1_28 dX1_writeAt_47 (by assumption) (by rfl) ?_
                refine GW.iconst (v := 3) dX1_writeAt_50 (by decide) ?_
                refine GW.icmp_ne (tgt := 78) dX1_writeAt_51 (by decide) (fun h51 => ?_) (fun h51 => ?_)
                · exact at78 (fun q => h51 q.2) _ hh5
                · rw [Wr_l he ⟨h43, h51⟩] at hQ ⊢
                  have hWn : Wt n := by
                    rcases hW with q | q
                    · omega
                    · exact q
                  refine GW.aload0 dX1_writeAt_54 (g := ?_)
                  refine GW.aload1 dX1_writeAt_55 (g := ?_)
                  refine GW.aload2 dX1_writeAt_56 (g := ?_)
                  refine GW.iload3 dX1_writeAt_57 ?_
                  refine GW.iload4 dX1_writeAt_58 ?_
                  refine GW.callV cv_X1_34 mt_X1_fillTable (c_fillTable (Bt_all n) h hw.tb) dX1_writeAt_60 (by first | assumption | exact isV.gl (by assumption) | exact tbAt.gl (by assumption)) rfl rfl rfl rfl (by first | (dsimp only [mX1_writeAt, gM.dp, gM.kc, gM.ks]; omega) | exact Nat.le_of_ble_eq_true rfl | exact Nat.le_refl _ | omega) (by decide) (by first | omega | (dsimp only [mX1_writeAt, gM.dp, gM.kc, gM.ks]; omega)) (by first | omega | (dsimp only [mX1_writeAt, gM.dp, gM.kc, gM.ks]; omega)) (by first | exact Nat.le_of_ble_eq_true rfl | (simp [va_rf_cat]; done) | (simp [va_rf_cat, Value.category]; done)) rfl (fun _ _ h => h.elim) (fun v60 G60 hq => ?_)
                  obtain ⟨rfl, mc1, tb1, rfl, ho, h10, htb, hg⟩ := hq
                  refine GW.if_eq (tgt := 78) dX1_writeAt_63 (by decide) (fun h63 => ?_) (fun h63 => ?_)
                  · exact absurd h63 (by decide)
                  · have hw1 := hw.ch ho h10
                    have lt91 := tbAt.gl (G := (im, ad, mc1)) hw1.tb
                    have h91 : frG (im, ad, mc1) := fun q hq => (ho q (by omega)).trans (h9 q hq)
                    refine GW.aload0 dX1_writeAt_66 (g := ?_)
                    refine GW.aload1 dX1_writeAt_67 (g := ?_)
                    refine GW.aload2 dX1_writeAt_68 (g := ?_)
                    refine GW.iload3 dX1_writeAt_69 ?_
                    refine GW.iload4 dX1_writeAt_70 ?_
                    refine GW.callV cv_X1_99 mt_X1_writeLists (c_writeLists hWn h h43 h51 hdu hln h91 hw1 hpre hos hg) dX1_writeAt_72 (by first | assumption | exact isV.gl (by assumption) | exact tbAt.gl (by assumption)) rfl rfl rfl rfl (by first | (dsimp only [mX1_writeAt, gM.dp, gM.kc, gM.ks]; omega) | exact Nat.le_of_ble_eq_true rfl | exact Nat.le_refl _ | omega) (by decide) (by first | omega | (dsimp only [mX1_writeAt, gM.dp, gM.kc, gM.ks]; omega)) (by first | omega | (dsimp only [mX1_writeAt, gM.dp, gM.kc, gM.ks]; omega)) (by first | exact Nat.le_of_ble_eq_true rfl | (simp [va_rf_cat]; done) | (simp [va_rf_cat, Value.category]; done)) rfl (fun _ _ h => h.elim) (fun v72 G72 hq => ?_)
                    obtain ⟨rfl, im3, mc3, tb3, pf3, wr3, g1, rfl, g3, g4, g5, g6⟩ := hq
                    refine GW.goto (tgt := 119) dX1_writeAt_75 (by decide) ?_
                    refine GW.vreturn dX1_writeAt_119 rfl (by first | (dsimp only [mX1_writeAt, gM.dp, gM.kc, gM.ks]; omega) | exact Nat.le_of_ble_eq_true rfl | exact Nat.le_refl _ | omega) (by first | (dsimp only [mX1_writeAt, gM.dp, gM.kc, gM.ks]; omega) | exact Nat.le_of_ble_eq_true rfl | exact Nat.le_refl _ | omega) ?_
                    subst hQ
                    exact ⟨rfl, im3, mc3, tb3, pf3, wr3, g1, rfl, fun q e1 e2 e3 e4 => (g3 q e1 e2 e3 e4).trans (ho q e2), g4, fun q hq => (g5 q hq).trans (htb q hq), g6⟩
          refine GW.icmp_ge (tgt := 30) dX1_writeAt_23 (by decide) (fun h23 => ?_) (fun h23 => ?_)
          · have h23 := (mI_le (a := 6) (by omega) (by omega)).mp h23
            refine GW.iconst (v := 0) dX1_writeAt_30 (by decide) ?_
            refine GW.istore5 dX1_writeAt_31 (g := ?_)
            exact at33 0 (Or.inr ⟨rfl, by omega⟩)
          · have hl6 : l < 6 := by
              rcases Nat.lt_or_ge l 6 with q | q
              · exact q
              · exact absurd ((mI_le (a := 6) (by omega) (by omega)).mpr q) h23
            refine GW.iconst (v := 1) dX1_writeAt_26 (by decide) ?_
            refine GW.goto (tgt := 31) dX1_writeAt_27 (by decide) ?_
            refine GW.istore5 dX1_writeAt_31 (g := ?_)
            exact at33 1 (Or.inl ⟨rfl, by omega⟩)
        · exact absurd h0 h13
theorem Wt_all (n : Nat) : Wt (n + 1) := by
  induction n with
  | zero => exact Wt_succ (Or.inl rfl)
  | succ n ih => exact Wt_succ (Or.inr ih)
abbrev mX1_write (d kc ks : Nat) : gM := (RX1, cX1_write, 3, (some .int), [], "write", d, kc, ks)
abbrev kX1_write (d kc ks : Nat) (as : List Value) (G : gG) (Q : Option Value → gG → Prop) (X : String → gG → Prop) : Prop := Ctr yX1_write cX1_write 3 (some .int) d kc ks as G Q X
theorem oX1_write {d kc ks : Nat} {as : List Value} {G : gG} {Q : Option Value → gG → Prop} {X : String → gG → Prop} {L : List (Option Value)} (hL : gEnt as = L) (hlen : (lg_sl as).length ≤ 3) (g : GW (mX1_write d kc ks) Q X G 0 0 0 L []) : kX1_write d kc ks as G Q X := Ctr.of (by decide +kernel) rfl rfl hL hlen g
theorem c_write {im : gIm} {ad : Nat → Nat} {mc : Nat → Option gC} {tb pf : Nat → Int32} {wr : Nat → Option Nat} {cnt : Int32} {a b : Nat} {t u : Tr} (hv : isV im a t) (hu : isV im b u) (ht : okD t) (hu' : okD u) (h9' : frG (im, ad, mc)) (hd : dfAt ad mc tb pf wr cnt) :
    kX1_write 62 (2 * dl 0 (Wr 7 [] t u).length) (10 * dl 0 (Wr 7 [] t u).length) [.ref (ad 9), .ref a, .ref b] (im, ad, mc) (fun v G' => v = some (.int (nI (Wr 7 [] t u).length)) ∧ ∃ im' mc' tb' pf' wr', gLe im im' ∧ (im', ad, mc') = G' ∧ (∀ q, q ≠ 9 → q ≠ 10 → q ≠ 11 → q ≠ 12 → mc' q = mc q) ∧ wrAt im' ad mc' tb' pf' wr' (Wr 7 [] t u)) noX := by
  obtain ⟨h9, h10, h11, h12⟩ := hd
  have hr : 0 + szT t * szT u + dpT t ≤ 2600 := by
    have := Nat.mul_le_mul ht.2.1 hu'.2.1
    have := ht.2.2
    omega
  refine oX1_write (L := [some (.ref (ad 9)), some (.ref a), some (.ref b), none, none, none, none, none, none, none, none, none]) rfl (Nat.le_of_ble_eq_true rfl) ?_
  refine GW.aload0 dX1_write_0 (g := ?_)
  refine GW.iconst (v := 0) dX1_write_1 (by decide) ?_
  refine GW.putf (r := 9) fl_X1_88 dX1_write_2 (by first | rfl | assumption) (Nat.le_of_ble_eq_true rfl) (by first | exact ⟨rfl, rfl⟩ | exact fitq _ _ rfl) (by first | exact Or.inl rfl | exact Or.inr ⟨rfl, rfl⟩) (by first | rfl | assumption) ?_
  rw [gS_tri]
  obtain ⟨mc2, hm2⟩ : ∃ mc2, mc2 = (fun q => if q = 9 then some (.inl (1, [.ref (ad 10), .ref (ad 11), .ref (ad 12), .int 0])) else mc q : Nat → Option gC) := ⟨_, rfl⟩
  rw [show (fun q => if q = 9 then some (.inl (1, [Value.ref (ad 10), Value.ref (ad 11), Value.ref (ad 12), Value.int cnt].set 3 (Value.int 0))) else mc q : Nat → Option gC) = mc2 from hm2.symm]
  have ko : ∀ q, q ≠ 9 → mc2 q = mc q := fun q hq => by rw [hm2]; exact if_neg hq
  have hw2 : wrAt im ad mc2 tb pf wr [] := ⟨by rw [hm2]; exact if_pos rfl, (ko 10 (by decide)).trans h10, (ko 11 (by decide)).trans h11, (ko 12 (by decide)).trans h12, fun j o _ h => by simp at h⟩
  have h92 : frG (im, ad, mc2) := fun q hq => (ko q (by omega)).trans (h9' q hq)
  have lt9 := tbAt.gl (G := (im, ad, mc2)) hw2.tb
  have hWt : kX1_writeAt 61 (2 * dl 0 (Wr 7 [] t u).length) (10 * dl 0 (Wr 7 [] t u).length) [.ref (ad 9), va_rf (some a), va_rf (some b), .int (nI 0), .int (nI 0)] (im, ad, mc2) (wPost im ad mc2 tb pf 0 0 ([] ++ Wr 7 [] t u)) noX := Wt_all 6 (l := 0) (base := 0) (pre := []) (os := []) hv hu ht.1 hu'.1 ht.2.2 hu'.2.2 ht.2.1 hu'.2.1 rfl hr h92 hw2 rfl (by simp)
  refine GW.aload0 dX1_write_5 (g := ?_)
  refine GW.aload1 dX1_write_6 (g := ?_)
  refine GW.aload2 dX1_write_7 (g := ?_)
  refine GW.iconst (v := 0) dX1_write_8 (by decide) ?_
  refine GW.iconst (v := 0) dX1_write_9 (by decide) ?_
  refine GW.callV cv_X1_91 mt_X1_writeAt (hWt) dX1_write_10 (by first | assumption | exact isV.gl (by assumption) | exact tbAt.gl (by assumption)) rfl rfl rfl rfl (by first | (dsimp only [mX1_write, gM.dp, gM.kc, gM.ks]; omega) | exact Nat.le_of_ble_eq_true rfl | exact Nat.le_refl _ | omega) (by decide) (by first | omega | (dsimp only [mX1_write, gM.dp, gM.kc, gM.ks]; omega)) (by first | omega | (dsimp only [mX1_write, gM.dp, gM.kc, gM.ks]; omega)) (by first | exact Nat.le_of_ble_eq_true rfl | (simp [va_rf_cat]; done) | (simp [va_rf_cat, Value.category]; done)) rfl (fun _ _ h => h.elim) (fun v10 G10 hq => ?_)
  obtain ⟨rfl, im3, mc3, tb3, pf3, wr3, g1, rfl, g3, g4, g5, g6⟩ := hq
  rw [List.nil_append] at g4
  have lt93 := tbAt.gl (G := (im3, ad, mc3)) g4.tb
  refine GW.aload0 dX1_write_13 (g := ?_)
  refine GW.getf fl_X1_88 dX1_write_14 (by assumption) (by rfl) ?_
  refine GW.ireturn dX1_write_17 (Or.inl rfl) (by first | (dsimp only [mX1_write, gM.dp, gM.kc, gM.ks]; omega) | exact Nat.le_of_ble_eq_true rfl | exact Nat.le_refl _ | omega) (by first | (dsimp only [mX1_write, gM.dp, gM.kc, gM.ks]; omega) | exact Nat.le_of_ble_eq_true rfl | exact Nat.le_refl _ | omega) ?_
  exact ⟨rfl, im3, mc3, tb3, pf3, wr3, g1, rfl, fun q e1 e2 e3 e4 => (g3 q e1 e2 e3 e4).trans (ko q e1), g4⟩
abbrev mX1_operationAt (d kc ks : Nat) : gM := (RX1, cX1_operationAt, 2, (some (.object "MarlStore$Operation")), [], "operationAt", d, kc, ks)
abbrev kX1_operationAt (d kc ks : Nat) (as : List Value) (G : gG) (Q : Option Value → gG → Prop) (X : String → gG → Prop) : Prop := Ctr yX1_operationAt cX1_operationAt 2 (some (.object "MarlStore$Operation")) d kc ks as G Q X
theorem oX1_operationAt {d kc ks : Nat} {as : List Value} {G : gG} {Q : Option Value → gG → Prop} {X : String → gG → Prop} {L : List (Option Value)} (hL : gEnt as = L) (hlen : (lg_sl as).length ≤ 2) (g : GW (mX1_operationAt d kc ks) Q X G 0 0 0 L []) : kX1_operationAt d kc ks as G Q X := Ctr.of (by decide +kernel) rfl rfl hL hlen g
theorem c_dfOpAt {im : gIm} {ad : Nat → Nat} {mc : Nat → Option gC} {tb pf : Nat → Int32} {wr : Nat → Option Nat} {os : List OpT} {j : Nat} {o : OpT} (hw : wrAt im ad mc tb pf wr os) (hl : os.length ≤ 20) (hj : os[j]? = some o) :
    kX1_operationAt 0 0 0 [.ref (ad 9), .int (nI j)] (im, ad, mc) (fun v G' => ∃ oa, v = some (.ref oa) ∧ (im, ad, mc) = G' ∧ opAt im oa o) noX := by
  have hjl : j < os.length := (List.getElem?_eq_some_iff.mp hj).1
  obtain ⟨oa, hoa, hop⟩ := hw.2.2.2.2 j o (by omega) hj
  have lt9 := tbAt.gl (G := (im, ad, mc)) hw.tb
  have l12 : gL (im, ad, mc) (ad 12) (.inr (2, 20, .inr wr)) := Or.inr ⟨12, rfl, hw.2.2.2.1⟩
  have hix : gIx (nI j) j 20 := mI_ix (by omega) (by omega)
  refine oX1_operationAt (L := [some (.ref (ad 9)), some (.int (nI j)), none, none, none, none, none, none, none, none, none, none]) rfl (Nat.le_of_ble_eq_true rfl) ?_
  refine GW.iload1 dX1_operationAt_0 ?_
  refine GW.if_lt (tgt := 21) dX1_operationAt_1 (by decide) (fun h1 => ?_) (fun h1 => ?_)
  · exact absurd h1 (mI_nonneg (by omega))
  · refine GW.iload1 dX1_operationAt_4 ?_
    refine GW.aload0 dX1_operationAt_5 (g := ?_)
    refine GW.getf fl_X1_88 dX1_operationAt_6 (by assumption) (by rfl) ?_
    refine GW.icmp_ge (tgt := 21) dX1_operationAt_9 (by decide) (fun h9 => ?_) (fun h9 => ?_)
    · exact absurd ((mI_le (by omega) (by omega)).mp h9) (by omega)
    · refine GW.iload1 dX1_operationAt_12 ?_
      refine GW.aload0 dX1_operationAt_13 (g := ?_)
      refine GW.getf fl_X1_20 dX1_operationAt_14 (by assumption) (by rfl) ?_
      refine GW.alen dX1_operationAt_17 (by assumption) (by decide) rfl ?_
      refine GW.icmp_lt (tgt := 23) dX1_operationAt_18 (by decide) (fun h18 => ?_) (fun h18 => ?_)
      · refine GW.aload0 dX1_operationAt_23 (g := ?_)
        refine GW.getf fl_X1_20 dX1_operationAt_24 (by assumption) (by rfl) ?_
        refine GW.iload1 dX1_operationAt_27 ?_
        refine GW.aald dX1_operationAt_28 (by assumption) (by assumption) (by decide) ?_
        rw [hoa]
        refine GW.areturn dX1_operationAt_29 (Or.inl ⟨_, rfl⟩) (by first | (dsimp only [mX1_operationAt, gM.dp, gM.kc, gM.ks]; omega) | exact Nat.le_of_ble_eq_true rfl | exact Nat.le_refl _ | omega) (by first | (dsimp only [mX1_operationAt, gM.dp, gM.kc, gM.ks]; omega) | exact Nat.le_of_ble_eq_true rfl | exact Nat.le_refl _ | omega) ?_
        exact ⟨oa, rfl, rfl, hop⟩
      · exact absurd ((mI_lt (b := 20) (by omega) (by omega)).mpr (by omega)) h18
