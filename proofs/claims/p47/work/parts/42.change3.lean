/-! MARLSTORE: difference, changes, diff, apply, addQuery, addPart -/
section CH
variable {G : gG} {ds : Nat → Tr} {cl : Tr} {at_ : Nat} {ss : List Int32} {ps : List (List OpT)} {qs : List (List (Int32 × Int32))}
theorem St.df {im im' : gIm} {ad : Nat → Nat} {mc mc' : Nat → Option gC} (h : St im ad mc ds cl at_ ss ps qs) (hle : gLe im im') (ho : ∀ q, q ≠ 9 → q ≠ 10 → q ≠ 11 → q ≠ 12 → mc' q = mc q) (hd : dfAny ad mc') : St im' ad mc' ds cl at_ ss ps qs := by
  obtain ⟨-, -, -, ⟨d1, d2, d3, d4⟩, -⟩ := id h
  exact h.scr hle (fun q hq => by unfold _root_.Jvm.Pilot.CMarlStoreLaw_law_r1597_55c78a.scr at hq; exact ho q (by omega) (by omega) (by omega) (by omega)) (d1.mono (ho 4 (by omega) (by omega) (by omega) (by omega)) (ho 5 (by omega) (by omega) (by omega) (by omega)) (ho 6 (by omega) (by omega) (by omega) (by omega))) (d2.mono (ho 8 (by omega) (by omega) (by omega) (by omega))) hd (d4.mono fun q h1 h2 => ho q (by omega) (by omega) (by omega) (by omega))
theorem wrAt.any {im : gIm} {ad : Nat → Nat} {mc : Nat → Option gC} {tb pf : Nat → Int32} {wr : Nat → Option Nat} {os : List OpT} (h : wrAt im ad mc tb pf wr os) : dfAny ad mc := ⟨tb, pf, wr, _, h.1, h.2.1, h.2.2.1, h.2.2.2.1⟩
abbrev mX10_difference (d kc ks : Nat) : gM := (RX10, cX10_difference, 3, (some .int), [], "difference", d, kc, ks)
abbrev kX10_difference (d kc ks : Nat) (as : List Value) (G : gG) (Q : Option Value → gG → Prop) (X : String → gG → Prop) : Prop := Ctr yX10_difference cX10_difference 3 (some .int) d kc ks as G Q X
theorem oX10_difference {d kc ks : Nat} {as : List Value} {G : gG} {Q : Option Value → gG → Prop} {X : String → gG → Prop} {L : List (Option Value)} (hL : gEnt as = L) (hlen : (lg_sl as).length ≤ 3) (g : GW (mX10_difference d kc ks) Q X G 0 0 0 L []) : kX10_difference d kc ks as G Q X := Ctr.of (by decide +kernel) rfl rfl hL hlen g
theorem c_difference {i j : Nat} (hS : St G.1 G.2.1 G.2.2 ds cl at_ ss ps qs) (hi : i < 6) (hj : j < 6) (hdi : okD (ds i)) (hdj : okD (ds j)) :
    kX10_difference 35 0 0 [.ref (G.2.1 0), .int (nI i), .int (nI j)] G (fun v G' => v = some (.int (nI (Df 7 (ds i) (ds j)))) ∧ ∃ mc', (G.1, G.2.1, mc') = G' ∧ St G.1 G.2.1 mc' ds cl at_ ss ps qs) noX := by
  obtain ⟨im, ad, mc⟩ := G
  obtain ⟨⟨⟨cla, a1, a2⟩, a3, a4, a5⟩, ⟨b1, b2, b3, b4⟩, ⟨c1, c2, c3⟩, ⟨d1, d2, d3, d4⟩, f9⟩ := id hS
  obtain ⟨tb, pf, wr, cnt, h9, h10, h11, h12⟩ := id d3
  have htb : tbAt ad mc cnt tb := ⟨h9, h10⟩
  have l0 : gL (im, ad, mc) (ad 0) (.inl (10, _)) := Or.inr ⟨0, rfl, a1⟩
  refine oX10_difference (L := [some (.ref (ad 0)), some (.int (nI i)), some (.int (nI j)), none, none, none, none, none, none, none, none, none]) rfl (Nat.le_of_ble_eq_true rfl) ?_
  refine GW.aload0 dX10_difference_0 (g := ?_)
  refine GW.getf fl_X10_51 dX10_difference_1 (by assumption) (by rfl) ?_
  refine GW.aload0 dX10_difference_4 (g := ?_)
  refine GW.iload1 dX10_difference_5 ?_
  refine GW.callV0 cv_X10_85 mt_X10_wholeOf (c_wholeOf (G := (im, ad, mc)) a1 a3 hi) dX10_difference_6 (by first | assumption | exact isV.gl (by assumption) | exact tbAt.gl (by assumption)) rfl rfl rfl rfl (by first | (dsimp only [mX10_difference, gM.dp, gM.kc, gM.ks]; omega) | exact Nat.le_of_ble_eq_true rfl | exact Nat.le_refl _ | omega) (by decide) (by first | (dsimp only [mX10_difference, gM.dp, gM.kc, gM.ks]; omega) | exact Nat.le_of_ble_eq_true rfl | exact Nat.le_refl _ | omega) (by first | (dsimp only [mX10_difference, gM.dp, gM.kc, gM.ks]; omega) | exact Nat.le_of_ble_eq_true rfl | exact Nat.le_refl _ | omega) (by first | exact Nat.le_of_ble_eq_true rfl | (simp [va_rf_cat]; done) | (simp [va_rf_cat, Value.category]; done)) rfl (fun _ _ h => h.elim) (fun v6 G6 hq => ?_)
  obtain ⟨a, rfl, rfl, hv⟩ := hq
  refine GW.aload0 dX10_difference_9 (g := ?_)
  refine GW.iload2 dX10_difference_10 ?_
  refine GW.callV0 cv_X10_85 mt_X10_wholeOf (c_wholeOf (G := (im, ad, mc)) a1 a3 hj) dX10_difference_11 (by first | assumption | exact isV.gl (by assumption) | exact tbAt.gl (by assumption)) rfl rfl rfl rfl (by first | (dsimp only [mX10_difference, gM.dp, gM.kc, gM.ks]; omega) | exact Nat.le_of_ble_eq_true rfl | exact Nat.le_refl _ | omega) (by decide) (by first | (dsimp only [mX10_difference, gM.dp, gM.kc, gM.ks]; omega) | exact Nat.le_of_ble_eq_true rfl | exact Nat.le_refl _ | omega) (by first | (dsimp only [mX10_difference, gM.dp, gM.kc, gM.ks]; omega) | exact Nat.le_of_ble_eq_true rfl | exact Nat.le_refl _ | omega) (by first | exact Nat.le_of_ble_eq_true rfl | (simp [va_rf_cat]; done) | (simp [va_rf_cat, Value.category]; done)) rfl (fun _ _ h => h.elim) (fun v11 G11 hq => ?_)
  obtain ⟨b, rfl, rfl, hu⟩ := hq
  have lt9 := tbAt.gl (G := (im, ad, mc)) htb
  refine GW.callV0 cv_X10_247 mt_X1_compare (c_compare hv hu hdi.1 hdj.1 hdi.2.2 hdi.2.1 hdj.2.1 htb) dX10_difference_14 (by first | assumption | exact isV.gl (by assumption) | exact tbAt.gl (by assumption)) rfl rfl rfl rfl (by first | (dsimp only [mX10_difference, gM.dp, gM.kc, gM.ks]; omega) | exact Nat.le_of_ble_eq_true rfl | exact Nat.le_refl _ | omega) (by decide) (by first | (dsimp only [mX10_difference, gM.dp, gM.kc, gM.ks]; omega) | exact Nat.le_of_ble_eq_true rfl | exact Nat.le_refl _ | omega) (by first | (dsimp only [mX10_difference, gM.dp, gM.kc, gM.ks]; omega) | exact Nat.le_of_ble_eq_true rfl | exact Nat.le_refl _ | omega) (by first | exact Nat.le_of_ble_eq_true rfl | (simp [va_rf_cat]; done) | (simp [va_rf_cat, Value.category]; done)) rfl (fun _ _ h => h.elim) (fun v14 G14 hq => ?_)
  obtain ⟨rfl, mc1, tb1, rfl, ho, h101, -, -⟩ := hq
  refine GW.ireturn dX10_difference_17 (Or.inl rfl) (by first | (dsimp only [mX10_difference, gM.dp, gM.kc, gM.ks]; omega) | exact Nat.le_of_ble_eq_true rfl | exact Nat.le_refl _ | omega) (by first | (dsimp only [mX10_difference, gM.dp, gM.kc, gM.ks]; omega) | exact Nat.le_of_ble_eq_true rfl | exact Nat.le_refl _ | omega) ?_
  exact ⟨rfl, mc1, rfl, hS.df (gLe.rf _) (fun q _ e _ _ => ho q e) ⟨tb1, pf, wr, cnt, (ho 9 (by decide)).trans h9, h101, (ho 11 (by decide)).trans h11, (ho 12 (by decide)).trans h12⟩⟩
abbrev mX10_changes (d kc ks : Nat) : gM := (RX10, cX10_changes, 3, (some .int), [], "changes", d, kc, ks)
abbrev kX10_changes (d kc ks : Nat) (as : List Value) (G : gG) (Q : Option Value → gG → Prop) (X : String → gG → Prop) : Prop := Ctr yX10_changes cX10_changes 3 (some .int) d kc ks as G Q X
theorem oX10_changes {d kc ks : Nat} {as : List Value} {G : gG} {Q : Option Value → gG → Prop} {X : String → gG → Prop} {L : List (Option Value)} (hL : gEnt as = L) (hlen : (lg_sl as).length ≤ 3) (g : GW (mX10_changes d kc ks) Q X G 0 0 0 L []) : kX10_changes d kc ks as G Q X := Ctr.of (by decide +kernel) rfl rfl hL hlen g
theorem c_changes {i j : Nat} (hS : St G.1 G.2.1 G.2.2 ds cl at_ ss ps qs) (hi : i < 6) (hj : j < 6) (hdi : okD (ds i)) (hdj : okD (ds j)) :
    kX10_changes 64 40 200 [.ref (G.2.1 0), .int (nI i), .int (nI j)] G (fun v G' => v = some (.int (nI (Wr 7 [] (ds i) (ds j)).length)) ∧ ∃ im' mc', gLe G.1 im' ∧ (im', G.2.1, mc') = G' ∧ St im' G.2.1 mc' ds cl at_ ss ps qs) noX := by
  obtain ⟨im, ad, mc⟩ := G
  obtain ⟨⟨⟨cla, a1, a2⟩, a3, a4, a5⟩, ⟨b1, b2, b3, b4⟩, ⟨c1, c2, c3⟩, ⟨d1, d2, d3, d4⟩, f9⟩ := id hS
  obtain ⟨tb, pf, wr, cnt, hdf⟩ := id d3
  have l0 : gL (im, ad, mc) (ad 0) (.inl (10, _)) := Or.inr ⟨0, rfl, a1⟩
  have l9 : gL (im, ad, mc) (ad 9) (.inl (1, _)) := Or.inr ⟨9, rfl, hdf.1⟩
  have hdl := dl_le 0 (Wr 7 [] (ds i) (ds j)).length
  refine oX10_changes (L := [some (.ref (ad 0)), some (.int (nI i)), some (.int (nI j)), none, none, none, none, none, none, none, none, none]) rfl (Nat.le_of_ble_eq_true rfl) ?_
  refine GW.aload0 dX10_changes_0 (g := ?_)
  refine GW.getf fl_X10_51 dX10_changes_1 (by assumption) (by rfl) ?_
  refine GW.aload0 dX10_changes_4 (g := ?_)
  refine GW.iload1 dX10_changes_5 ?_
  refine GW.callV cv_X10_85 mt_X10_wholeOf (c_wholeOf (G := (im, ad, mc)) a1 a3 hi) dX10_changes_6 (by first | assumption | exact isV.gl (by assumption) | exact tbAt.gl (by assumption)) rfl rfl rfl rfl (by first | (dsimp only [mX10_changes, gM.dp, gM.kc, gM.ks]; omega) | exact Nat.le_of_ble_eq_true rfl | exact Nat.le_refl _ | omega) (by decide) (by first | omega | (dsimp only [mX10_changes, gM.dp, gM.kc, gM.ks]; omega)) (by first | omega | (dsimp only [mX10_changes, gM.dp, gM.kc, gM.ks]; omega)) (by first | exact Nat.le_of_ble_eq_true rfl | (simp [va_rf_cat]; done) | (simp [va_rf_cat, Value.category]; done)) rfl (fun _ _ h => h.elim) (fun v6 G6 hq => ?_)
  obtain ⟨a, rfl, rfl, hv⟩ := hq
  refine GW.aload0 dX10_changes_9 (g := ?_)
  refine GW.iload2 dX10_changes_10 ?_
  refine GW.callV cv_X10_85 mt_X10_wholeOf (c_wholeOf (G := (im, ad, mc)) a1 a3 hj) dX10_changes_11 (by first | assumption | exact isV.gl (by assumption) | exact tbAt.gl (by assumption)) rfl rfl rfl rfl (by first | (dsimp only [mX10_changes, gM.dp, gM.kc, gM.ks]; omega) | exact Nat.le_of_ble_eq_true rfl | exact Nat.le_refl _ | omega) (by decide) (by first | omega | (dsimp only [mX10_changes, gM.dp, gM.kc, gM.ks]; omega)) (by first | omega | (dsimp only [mX10_changes, gM.dp, gM.kc, gM.ks]; omega)) (by first | exact Nat.le_of_ble_eq_true rfl | (simp [va_rf_cat]; done) | (simp [va_rf_cat, Value.category]; done)) rfl (fun _ _ h => h.elim) (fun v11 G11 hq => ?_)
  obtain ⟨b, rfl, rfl, hu⟩ := hq
  refine GW.callV cv_X10_227 mt_X1_write (c_write hv hu hdi hdj f9 hdf) dX10_changes_14 (by first | assumption | exact isV.gl (by assumption) | exact tbAt.gl (by assumption)) rfl rfl rfl rfl (by first | (dsimp only [mX10_changes, gM.dp, gM.kc, gM.ks]; omega) | exact Nat.le_of_ble_eq_true rfl | exact Nat.le_refl _ | omega) (by decide) (by first | omega | (dsimp only [mX10_changes, gM.dp, gM.kc, gM.ks]; omega)) (by first | omega | (dsimp only [mX10_changes, gM.dp, gM.kc, gM.ks]; omega)) (by first | exact Nat.le_of_ble_eq_true rfl | (simp [va_rf_cat]; done) | (simp [va_rf_cat, Value.category]; done)) rfl (fun _ _ h => h.elim) (fun v14 G14 hq => ?_)
  obtain ⟨rfl, im1, mc1, tb1, pf1, wr1, hle, rfl, ho, hw⟩ := hq
  refine GW.ireturn dX10_changes_17 (Or.inl rfl) (by first | (dsimp only [mX10_changes, gM.dp, gM.kc, gM.ks]; omega) | exact Nat.le_of_ble_eq_true rfl | exact Nat.le_refl _ | omega) (by first | (dsimp only [mX10_changes, gM.dp, gM.kc, gM.ks]; omega) | exact Nat.le_of_ble_eq_true rfl | exact Nat.le_refl _ | omega) ?_
  exact ⟨rfl, im1, mc1, hle, rfl, hS.df hle ho hw.any⟩
abbrev mX10_diff (d kc ks : Nat) : gM := (RX10, cX10_diff, 6, (some .int), [], "diff", d, kc, ks)
abbrev kX10_diff (d kc ks : Nat) (as : List Value) (G : gG) (Q : Option Value → gG → Prop) (X : String → gG → Prop) : Prop := Ctr yX10_diff cX10_diff 6 (some .int) d kc ks as G Q X
theorem oX10_diff {d kc ks : Nat} {as : List Value} {G : gG} {Q : Option Value → gG → Prop} {X : String → gG → Prop} {L : List (Option Value)} (hL : gEnt as = L) (hlen : (lg_sl as).length ≤ 6) (g : GW (mX10_diff d kc ks) Q X G 0 0 0 L []) : kX10_diff d kc ks as G Q X := Ctr.of (by decide +kernel) rfl rfl hL hlen g
set_option maxHeartbeats 2000000 in
theorem c_diff {i j : Nat} (hS : St G.1 G.2.1 G.2.2 ds cl at_ ss ps qs) (hi : i < 6) (hj : j < 6) (hdi : okD (ds i)) (hdj : okD (ds j)) :
    kX10_diff 64 41 206 [.ref (G.2.1 0), .int (nI i), .int (nI j)] G (fun v G' => v = some (.int (nI ps.length)) ∧ ps.length < 8 ∧ (Wr 7 [] (ds i) (ds j)).length ≤ 20 ∧ ∃ im' mc', gLe G.1 im' ∧ (im', G.2.1, mc') = G' ∧ St im' G.2.1 mc' ds cl at_ ss (ps ++ [Wr 7 [] (ds i) (ds j)]) qs)
      (fun E G' => E = xS ∧ ∃ im' mc', gLe G.1 im' ∧ (im', G.2.1, mc') = G' ∧ St im' G.2.1 mc' ds cl at_ ss ps qs) := by
  obtain ⟨im, ad, mc⟩ := G
  obtain ⟨⟨⟨cla, a1, a2⟩, a3, a4, a5⟩, ⟨b1, b2, b3, b4⟩, ⟨c1, c2, c3⟩, ⟨d1, d2, d3, d4⟩, f9⟩ := id hS
  obtain ⟨tb, pf, wr, cnt, hdf⟩ := id d3
  have b2 : ps.length ≤ 8 := b2
  have l0 : gL (im, ad, mc) (ad 0) (.inl (10, _)) := Or.inr ⟨0, rfl, a1⟩
  have l9 : gL (im, ad, mc) (ad 9) (.inl (1, _)) := Or.inr ⟨9, rfl, hdf.1⟩
  have hdl := dl_le 0 (Wr 7 [] (ds i) (ds j)).length
  have hWl : (Wr 7 [] (ds i) (ds j)).length ≤ 100 := by
    have := (Wr_ok 7 [] (ds i) (ds j) hdj.1).2.2
    have := hdi.2.1
    have := hdj.2.1
    omega
  refine oX10_diff (L := [some (.ref (ad 0)), some (.int (nI i)), some (.int (nI j)), none, none, none, none, none, none, none, none, none]) rfl (Nat.le_of_ble_eq_true rfl) ?_
  generalize hW : Wr 7 [] (ds i) (ds j) = W at hdl hWl ⊢
  generalize hQ : (fun (v : Option Value) (G' : gG) => v = some (.int (nI ps.length)) ∧ ps.length < 8 ∧ W.length ≤ 20 ∧ ∃ im' mc', gLe (im, ad, mc).1 im' ∧ (im', (im, ad, mc).2.1, mc') = G' ∧ St im' (im, ad, mc).2.1 mc' ds cl at_ ss (ps ++ [W]) qs) = Q
  refine GW.aload0 dX10_diff_0 (g := ?_)
  refine GW.getf fl_X10_51 dX10_diff_1 (by assumption) (by rfl) ?_
  refine GW.aload0 dX10_diff_4 (g := ?_)
  refine GW.iload1 dX10_diff_5 ?_
  refine GW.callV cv_X10_85 mt_X10_wholeOf (c_wholeOf (G := (im, ad, mc)) a1 a3 hi) dX10_diff_6 (by first | assumption | exact isV.gl (by assumption) | exact tbAt.gl (by assumption)) rfl rfl rfl rfl (by first | (dsimp only [mX10_diff, gM.dp, gM.kc, gM.ks]; omega) | exact Nat.le_of_ble_eq_true rfl | exact Nat.le_refl _ | omega) (by decide) (by first | omega | (dsimp only [mX10_diff, gM.dp, gM.kc, gM.ks]; omega)) (by first | omega | (dsimp only [mX10_diff, gM.dp, gM.kc, gM.ks]; omega)) (by first | exact Nat.le_of_ble_eq_true rfl | (simp [va_rf_cat]; done) | (simp [va_rf_cat, Value.category]; done)) rfl (fun _ _ h => h.elim) (fun v6 G6 hq => ?_)
  obtain ⟨a, rfl, rfl, hv⟩ := hq
  refine GW.aload0 dX10_diff_9 (g := ?_)
  refine GW.iload2 dX10_diff_10 ?_
  refine GW.callV cv_X10_85 mt_X10_wholeOf (c_wholeOf (G := (im, ad, mc)) a1 a3 hj) dX10_diff_11 (by first | assumption | exact isV.gl (by assumption) | exact tbAt.gl (by assumption)) rfl rfl rfl rfl (by first | (dsimp only [mX10_diff, gM.dp, gM.kc, gM.ks]; omega) | exact Nat.le_of_ble_eq_true rfl | exact Nat.le_refl _ | omega) (by decide) (by first | omega | (dsimp only [mX10_diff, gM.dp, gM.kc, gM.ks]; omega)) (by first | omega | (dsimp only [mX10_diff, gM.dp, gM.kc, gM.ks]; omega)) (by first | exact Nat.le_of_ble_eq_true rfl | (simp [va_rf_cat]; done) | (simp [va_rf_cat, Value.category]; done)) rfl (fun _ _ h => h.elim) (fun v11 G11 hq => ?_)
  obtain ⟨b, rfl, rfl, hu⟩ := hq
  have cw := c_write hv hu hdi hdj f9 hdf
  rw [hW] at cw
  refine GW.callV cv_X10_227 mt_X1_write (cw) dX10_diff_14 (by first | assumption | exact isV.gl (by assumption) | exact tbAt.gl (by assumption)) rfl rfl rfl rfl (by first | (dsimp only [mX10_diff, gM.dp, gM.kc, gM.ks]; omega) | exact Nat.le_of_ble_eq_true rfl | exact Nat.le_refl _ | omega) (by decide) (by first | omega | (dsimp only [mX10_diff, gM.dp, gM.kc, gM.ks]; omega)) (by first | omega | (dsimp only [mX10_diff, gM.dp, gM.kc, gM.ks]; omega)) (by first | exact Nat.le_of_ble_eq_true rfl | (simp [va_rf_cat]; done) | (simp [va_rf_cat, Value.category]; done)) rfl (fun _ _ h => h.elim) (fun v14 G14 hq => ?_)
  obtain ⟨rfl, im1, mc1, tb1, pf1, wr1, hle, rfl, ho, hw⟩ := hq
  have hS1 : St im1 ad mc1 ds cl at_ ss ps qs := hS.df hle ho hw.any
  refine GW.widen (k' := 40) (n' := 200) (by omega) (by omega) ?_
  obtain ⟨⟨⟨cla1, a11, a21⟩, a31, a41, a51⟩, ⟨b11, b21, b31, b41⟩, -, -, -⟩ := id hS1
  have l01 : gL (im1, ad, mc1) (ad 0) (.inl (10, _)) := Or.inr ⟨0, rfl, a11⟩
  refine GW.istore3 dX10_diff_17 (g := ?_)
  refine GW.iload3 dX10_diff_18 ?_
  refine GW.bipush (v := 20) dX10_diff_19 (by decide) ?_
  refine GW.icmp_le (tgt := 34) dX10_diff_21 (by decide) (fun h21 => ?_) (fun h21 => ?_)
  · have h20 := (mI_le (b := 20) (by omega) (by omega)).mp h21
    refine GW.aload0 dX10_diff_34 (g := ?_)
    refine GW.callV cv_X10_182 mt_X10_beginPatch (c_beginPatch (G := (im1, ad, mc1)) a11 b11 b2 b31) dX10_diff_35 (by first | assumption | exact isV.gl (by assumption) | exact tbAt.gl (by assumption)) rfl rfl rfl rfl (by first | (dsimp only [mX10_diff, gM.dp, gM.kc, gM.ks]; omega) | exact Nat.le_of_ble_eq_true rfl | exact Nat.le_refl _ | omega) (by decide) (by first | omega | (dsimp only [mX10_diff, gM.dp, gM.kc, gM.ks]; omega)) (by first | omega | (dsimp only [mX10_diff, gM.dp, gM.kc, gM.ks]; omega)) (by first | exact Nat.le_of_ble_eq_true rfl | (simp [va_rf_cat]; done) | (simp [va_rf_cat, Value.category]; done)) rfl (fun E G' hx => ⟨hx.2.1, im1, mc1, hle, hx.2.2, hS1⟩) (fun v35 G35 hq => ?_)
    obtain ⟨h8, rfl, mc2, rfl, ho2, k0, kpt⟩ := hq
    refine GW.istore4 dX10_diff_38 (g := ?_)
    refine GW.iconst (v := 0) dX10_diff_40 (by decide) ?_
    refine GW.istore5 dX10_diff_41 (g := ?_)
    have fr2 : ∀ q, q ≠ 0 → q ≠ 30 + ps.length → mc2 q = mc1 q := ho2
    have loop : ∀ (m c : Nat) (mc3 : Nat → Option gC), c + m = W.length → (∀ q, q ≠ 0 → q ≠ 30 + ps.length → q ≠ 40 + ps.length → mc3 q = mc1 q) → mc3 0 = mc2 0 → ptAt im1 ad mc3 ps.length (W.take c) →
        GW (mX10_diff 64 41 206) Q (fun E G' => E = xS ∧ ∃ im' mc', gLe im im' ∧ (im', ad, mc') = G' ∧ St im' ad mc' ds cl at_ ss ps qs) (im1, ad, mc3) (40 + 1) (200 + 6) 43 [some (.ref (ad 0)), some (.int (nI i)), some (.int (nI j)), some (.int (nI W.length)), some (.int (nI ps.length)), some (.int (nI c)), none, none, none, none, none, none] [] := by
      intro m
      induction m with
      | zero =>
        intro c mc3 hc ho3 h03 hpt3
        have hcl : c = W.length := by omega
        refine GW.iload5 dX10_diff_43 ?_
        refine GW.iload3 dX10_diff_45 ?_
        refine GW.icmp_ge (tgt := 73) dX10_diff_46 (by decide) (fun h46 => ?_) (fun h46 => ?_)
        · refine GW.iload4 dX10_diff_73 ?_
          refine GW.ireturn dX10_diff_75 (Or.inl rfl) (by first | (dsimp only [mX10_diff, gM.dp, gM.kc, gM.ks]; omega) | exact Nat.le_of_ble_eq_true rfl | exact Nat.le_refl _ | omega) (by first | (dsimp only [mX10_diff, gM.dp, gM.kc, gM.ks]; omega) | exact Nat.le_of_ble_eq_true rfl | exact Nat.le_refl _ | omega) ?_
          subst hQ
          rw [hcl, List.take_length] at hpt3
          refine ⟨rfl, h8, h20, im1, mc3, hle, rfl, hS1.pat (gLe.rf _) (fun q e0 e1 => ho3 q e0 (by omega) (by omega)) (cla := cla1) ?_ a21 (by rw [List.length_append, List.length_singleton]; omega) (fun k hk => ?_) (fun k os hk => ?_)⟩
          · rw [List.length_append, List.length_singleton]
            exact h03.trans k0
          · by_cases e : k = ps.length
            · rw [e]; exact ⟨_, hpt3⟩
            · obtain ⟨os, h⟩ := b31 k hk
              exact ⟨os, h.mono (gLe.rf _) (ho3 _ (by omega) (by omega) (by omega)) (ho3 _ (by omega) (by omega) (by omega))⟩
          · rcases Nat.lt_or_ge k ps.length with e | e
            · rw [List.getElem?_append_left e] at hk
              exact (b41 k os hk).mono (gLe.rf _) (ho3 _ (by omega) (by omega) (by omega)) (ho3 _ (by omega) (by omega) (by omega))
            · rw [List.getElem?_append_right e] at hk
              have hz : k - ps.length < 1 := (List.getElem?_eq_some_iff.mp hk).1
              have hke : k = ps.length := by omega
              subst hke
              simp at hk
              subst hk
              exact hpt3
        · exact absurd ((mI_le (by omega) (by omega)).mpr (by omega)) h46
      | succ m ih =>
        intro c mc3 hc ho3 h03 hpt3
        have hcW : c < W.length := by omega
        obtain ⟨o, hoc⟩ : ∃ o, W[c]? = some o := ⟨_, List.getElem?_eq_getElem hcW⟩
        have k03 : msAt ad mc3 cla1 (ps.length + 1) qs.length := h03.trans k0
        have b13 : ppAt ad mc3 := b11.mono (ho3 7 (by omega) (by omega) (by omega))
        have l03 : gL (im1, ad, mc3) (ad 0) (.inl (10, _)) := Or.inr ⟨0, rfl, k03⟩
        have hw3 : wrAt im1 ad mc3 tb1 pf1 wr1 W := ⟨(ho3 9 (by omega) (by omega) (by omega)).trans hw.1, (ho3 10 (by omega) (by omega) (by omega)).trans hw.2.1, (ho3 11 (by omega) (by omega) (by omega)).trans hw.2.2.1, (ho3 12 (by omega) (by omega) (by omega)).trans hw.2.2.2.1, hw.2.2.2.2⟩
        have lt9 := tbAt.gl (G := (im1, ad, mc3)) hw3.tb
        refine GW.iload5 dX10_diff_43 ?_
        refine GW.iload3 dX10_diff_45 ?_
        refine GW.icmp_ge (tgt := 73) dX10_diff_46 (by decide) (fun h46 => ?_) (fun h46 => ?_)
        · exact absurd ((mI_le (by omega) (by omega)).mp h46) (by omega)
        · refine GW.aload0 dX10_diff_49 (g := ?_)
          refine GW.iload4 dX10_diff_50 ?_
          refine GW.callV cv_X10_185 mt_X10_patchOf (c_patchOf (G := (im1, ad, mc3)) (i := ps.length) k03 b13 (by omega) (by omega)) dX10_diff_52 (by first | assumption | exact isV.gl (by assumption) | exact tbAt.gl (by assumption)) rfl rfl rfl rfl (by first | (dsimp only [mX10_diff, gM.dp, gM.kc, gM.ks]; omega) | exact Nat.le_of_ble_eq_true rfl | exact Nat.le_refl _ | omega) (by decide) (by first | omega | (dsimp only [mX10_diff, gM.dp, gM.kc, gM.ks]; omega)) (by first | omega | (dsimp only [mX10_diff, gM.dp, gM.kc, gM.ks]; omega)) (by first | exact Nat.le_of_ble_eq_true rfl | (simp [va_rf_cat]; done) | (simp [va_rf_cat, Value.category]; done)) rfl (fun _ _ h => h.elim) (fun v52 G52 hq => ?_)
          obtain ⟨rfl, rfl⟩ := hq
          have l30 : gL (im1, ad, mc3) (ad (30 + ps.length)) (.inl (4, _)) := Or.inr ⟨30 + ps.length, rfl, hpt3.2.1⟩
          refine GW.aload0 dX10_diff_55 (g := ?_)
          refine GW.getf fl_X10_51 dX10_diff_56 (by assumption) (by rfl) ?_
          refine GW.iload5 dX10_diff_59 ?_
          refine GW.callV cv_X10_233 mt_X1_operationAt (c_dfOpAt hw3 h20 hoc) dX10_diff_61 (by first | assumption | exact isV.gl (by assumption) | exact tbAt.gl (by assumption)) rfl rfl rfl rfl (by first | (dsimp only [mX10_diff, gM.dp, gM.kc, gM.ks]; omega) | exact Nat.le_of_ble_eq_true rfl | exact Nat.le_refl _ | omega) (by decide) (by first | omega | (dsimp only [mX10_diff, gM.dp, gM.kc, gM.ks]; omega)) (by first | omega | (dsimp only [mX10_diff, gM.dp, gM.kc, gM.ks]; omega)) (by first | exact Nat.le_of_ble_eq_true rfl | (simp [va_rf_cat]; done) | (simp [va_rf_cat, Value.category]; done)) rfl (fun _ _ h => h.elim) (fun v61 G61 hq => ?_)
          obtain ⟨oa, rfl, rfl, hop⟩ := hq
          refine GW.callV cv_X10_205 mt_X4_append (c_append (G := (im1, ad, mc3)) hpt3 (by omega) (by rw [List.length_take]; omega) hop) dX10_diff_64 (by first | assumption | exact isV.gl (by assumption) | exact tbAt.gl (by assumption)) rfl rfl rfl rfl (by first | (dsimp only [mX10_diff, gM.dp, gM.kc, gM.ks]; omega) | exact Nat.le_of_ble_eq_true rfl | exact Nat.le_refl _ | omega) (by decide) (by first | omega | (dsimp only [mX10_diff, gM.dp, gM.kc, gM.ks]; omega)) (by first | omega | (dsimp only [mX10_diff, gM.dp, gM.kc, gM.ks]; omega)) (by first | exact Nat.le_of_ble_eq_true rfl | (simp [va_rf_cat]; done) | (simp [va_rf_cat, Value.category]; done)) rfl (fun _ _ h => h.elim) (fun v64 G64 hq => ?_)
          obtain ⟨mc4, rfl, rfl, ho4, hpt4⟩ := hq
          refine GW.inc5 dX10_diff_67 (g := ?_)
          refine GW.goto (tgt := 43) dX10_diff_70 (by decide) ?_
          rw [mI_succ]
          refine ih (c + 1) mc4 (by omega) (fun q e0 e1 e2 => (ho4 q e1 e2).trans (ho3 q e0 e1 e2)) ((ho4 0 (by omega) (by omega)).trans h03) ?_
          rw [List.take_add_one, hoc]
          exact hpt4
    have := loop W.length 0 mc2 (by omega) (fun q e0 e1 _ => ho2 q e0 e1) rfl (by rw [List.take_zero]; exact kpt)
    exact this
  · exact GW.throwL (cls := xS) (text := "the patch would have too many operations") rfl (by decide +kernel) kS nSx exS (by decide) dX10_diff_24 dX10_diff_27 dX10_diff_28 dX10_diff_30 dX10_diff_33 rfl (by decide) (by decide) (by decide) (Nat.le_of_ble_eq_true rfl) ⟨rfl, im1, mc1, hle, rfl, hS1⟩
abbrev mX10_apply (d kc ks : Nat) : gM := (RX10, cX10_apply, 5, (some .int), [], "apply", d, kc, ks)
abbrev kX10_apply (d kc ks : Nat) (as : List Value) (G : gG) (Q : Option Value → gG → Prop) (X : String → gG → Prop) : Prop := Ctr yX10_apply cX10_apply 5 (some .int) d kc ks as G Q X
theorem oX10_apply {d kc ks : Nat} {as : List Value} {G : gG} {Q : Option Value → gG → Prop} {X : String → gG → Prop} {L : List (Option Value)} (hL : gEnt as = L) (hlen : (lg_sl as).length ≤ 5) (g : GW (mX10_apply d kc ks) Q X G 0 0 0 L []) : kX10_apply d kc ks as G Q X := Ctr.of (by decide +kernel) rfl rfl hL hlen g
theorem c_apply {i d S : Nat} {os : List OpT} (hS : St G.1 G.2.1 G.2.2 ds cl at_ ss ps qs) (hi : ps[i]? = some os) (hl : ps.length < 8) (hd : d < 6) (hok : ∀ o ∈ os, opOk o) (hsz : szT (ds d) + sumSz os ≤ S) (hSb : S < 2 ^ 17) :
    kX10_apply 8 322 (20 * (3 * S + 44) + 90) [.ref (G.2.1 0), .int (nI i), .int (nI d)] G (fun v G' => ∃ im' mc', gLe G.1 im' ∧ (im', G.2.1, mc') = G' ∧
      ((tryV os (ds d) ≠ -1 ∧ v = some (.int (-1)) ∧ St im' G.2.1 mc' ds cl at_ ss ps qs) ∨
       (tryV os (ds d) = -1 ∧ v = some (.int (nI ps.length)) ∧ ∃ t1, goR os (ds d) 0 = .inr t1 ∧ szT t1 ≤ 50 ∧ dpT t1 ≤ 7 ∧ St im' G.2.1 mc' (updD ds d t1) cl at_ (if at_ = d then ss.take (stl t1 ss) else ss) (ps ++ [invL os (tks os (ds d))]) qs))) noX := by
  obtain ⟨im, ad, mc⟩ := G
  obtain ⟨⟨⟨cla, a1, a2⟩, a3, a4, a5⟩, ⟨b1, b2, b3, b4⟩, ⟨c1, c2, c3⟩, ⟨d1, d2, d3, d4⟩, f9⟩ := id hS
  obtain ⟨w0, tk0, len0, pr0, pl0, hed⟩ := id d1
  obtain ⟨tr0, h8⟩ := id d2
  have hil : i < ps.length := (List.getElem?_eq_some_iff.mp hi).1
  have l0 : gL (im, ad, mc) (ad 0) (.inl (10, _)) := Or.inr ⟨0, rfl, a1⟩
  refine oX10_apply (L := [some (.ref (ad 0)), some (.int (nI i)), some (.int (nI d)), none, none, none, none, none, none, none, none, none]) rfl (Nat.le_of_ble_eq_true rfl) ?_
  generalize hQ : (fun (v : Option Value) (G' : gG) => ∃ im' mc', gLe (im, ad, mc).1 im' ∧ (im', (im, ad, mc).2.1, mc') = G' ∧
      ((tryV os (ds d) ≠ -1 ∧ v = some (.int (-1)) ∧ St im' (im, ad, mc).2.1 mc' ds cl at_ ss ps qs) ∨
       (tryV os (ds d) = -1 ∧ v = some (.int (nI ps.length)) ∧ ∃ t1, goR os (ds d) 0 = .inr t1 ∧ szT t1 ≤ 50 ∧ dpT t1 ≤ 7 ∧ St im' (im, ad, mc).2.1 mc' (updD ds d t1) cl at_ (if at_ = d then ss.take (stl t1 ss) else ss) (ps ++ [invL os (tks os (ds d))]) qs))) = Q
  refine GW.aload0 dX10_apply_0 (g := ?_)
  refine GW.iload1 dX10_apply_1 ?_
  refine GW.callV cv_X10_185 mt_X10_patchOf (c_patchOf (G := (im, ad, mc)) a1 b1 hil (by omega)) dX10_apply_2 (by first | assumption | exact isV.gl (by assumption) | exact tbAt.gl (by assumption)) rfl rfl rfl rfl (by first | (dsimp only [mX10_apply, gM.dp, gM.kc, gM.ks]; omega) | exact Nat.le_of_ble_eq_true rfl | exact Nat.le_refl _ | omega) (by decide) (by first | omega | (dsimp only [mX10_apply, gM.dp, gM.kc, gM.ks]; omega)) (by first | omega | (dsimp only [mX10_apply, gM.dp, gM.kc, gM.ks]; omega)) (by first | exact Nat.le_of_ble_eq_true rfl | (simp [va_rf_cat]; done) | (simp [va_rf_cat, Value.category]; done)) rfl (fun _ _ h => h.elim) (fun v2 G2 hq => ?_)
  obtain ⟨rfl, rfl⟩ := hq
  refine GW.astore3 dX10_apply_5 (g := ?_)
  refine GW.aload0 dX10_apply_6 (g := ?_)
  refine GW.aload3 dX10_apply_7 (g := ?_)
  refine GW.aload0 dX10_apply_8 (g := ?_)
  refine GW.iload2 dX10_apply_9 ?_
  refine GW.callV cv_X10_85 mt_X10_wholeOf (c_wholeOf (G := (im, ad, mc)) a1 a3 hd) dX10_apply_10 (by first | assumption | exact isV.gl (by assumption) | exact tbAt.gl (by assumption)) rfl rfl rfl rfl (by first | (dsimp only [mX10_apply, gM.dp, gM.kc, gM.ks]; omega) | exact Nat.le_of_ble_eq_true rfl | exact Nat.le_refl _ | omega) (by decide) (by first | omega | (dsimp only [mX10_apply, gM.dp, gM.kc, gM.ks]; omega)) (by first | omega | (dsimp only [mX10_apply, gM.dp, gM.kc, gM.ks]; omega)) (by first | exact Nat.le_of_ble_eq_true rfl | (simp [va_rf_cat]; done) | (simp [va_rf_cat, Value.category]; done)) rfl (fun _ _ h => h.elim) (fun v10 G10 hq => ?_)
  obtain ⟨a, rfl, rfl, hv⟩ := hq
  refine GW.callV cv_X10_209 mt_X10_tryOut (c_tryOut (G := (im, ad, mc)) f9 a1 hed h8 (b4 i os hi) (by omega) hok hv hsz hSb) dX10_apply_13 (by first | assumption | exact isV.gl (by assumption) | exact tbAt.gl (by assumption)) rfl rfl rfl rfl (by first | (dsimp only [mX10_apply, gM.dp, gM.kc, gM.ks]; omega) | exact Nat.le_of_ble_eq_true rfl | exact Nat.le_refl _ | omega) (by decide) (by first | omega | (dsimp only [mX10_apply, gM.dp, gM.kc, gM.ks]; omega)) (by first | omega | (dsimp only [mX10_apply, gM.dp, gM.kc, gM.ks]; omega)) (by first | exact Nat.le_of_ble_eq_true rfl | (simp [va_rf_cat]; done) | (simp [va_rf_cat, Value.category]; done)) rfl (fun _ _ h => h.elim) (fun v13 G13 hq => ?_)
  obtain ⟨im1, mc1, w', t', tk, len, pr, pl, rfl, hle, rfl, hfr, hed', hv', htk, hgo⟩ := hq
  have hS1 : St im1 ad mc1 ds cl at_ ss ps qs := by
    refine St.scr hS hle (fun q hq => hfr q ?_ ?_ ?_ ?_) ⟨_, _, _, _, _, hed'⟩ htk (d3.mono (hfr 9 (by omega) (by omega) (by omega) (by omega)) (hfr 10 (by omega) (by omega) (by omega) (by omega)) (hfr 11 (by omega) (by omega) (by omega) (by omega)) (hfr 12 (by omega) (by omega) (by omega) (by omega))) (d4.mono fun q h1 h2 => hfr q (by omega) (by omega) (by omega) (by omega)) <;> (unfold scr at hq; omega)
  refine GW.iconst (v := -1) dX10_apply_16 (by decide) ?_
  refine GW.icmp_eq (tgt := 22) dX10_apply_17 (by decide) (fun h17 => ?_) (fun h17 => ?_)
  · have hsucc : ∃ t1, goR os (ds d) 0 = .inr t1 ∧ szT t1 ≤ 50 ∧ dpT t1 ≤ 7 := by
      have h17 : tryV os (ds d) = -1 := h17
      unfold tryV at h17
      cases hg : goR os (ds d) 0 with
      | inl k =>
        rw [hg] at h17
        have hk : ∀ (os : List OpT) (t : Tr) (k0 k : Nat), goR os t k0 = .inl k → k < k0 + os.length := by
          intro os
          induction os with
          | nil => intro t k0 k h; cases h
          | cons o os ih =>
            intro t k0 k h
            rw [goR] at h
            cases hr : opRun o t with
            | none => rw [hr] at h; cases h; simp
            | some t2 =>
              rw [hr] at h
              have := ih t2 (k0 + 1) k h
              simp only [List.length_cons]; omega
        have hlt := hk os (ds d) 0 k hg
        have hl20 := (b4 i os hi).1
        have h17 : nI k = -1 := h17
        have h0 : nI k < 0 := by rw [h17]; decide
        exact absurd h0 (mI_nonneg (by omega))
      | inr t1 =>
        rw [hg] at h17
        refine ⟨t1, rfl, ?_⟩
        have h17 : (if szT t1 ≤ 50 ∧ dpT t1 ≤ 7 then (-1 : Int32) else nI os.length) = -1 := h17
        by_cases h : szT t1 ≤ 50 ∧ dpT t1 ≤ 7
        · exact h
        · rw [if_neg h] at h17
          have hl20 := (b4 i os hi).1
          have h0 : nI os.length < 0 := by rw [h17]; decide
          exact absurd h0 (mI_nonneg (by omega))
    obtain ⟨t1, hg1, hs1, hs2⟩ := hsucc
    obtain ⟨rfl, htka⟩ := hgo t1 hg1
    obtain ⟨⟨⟨cla1, a11, a21⟩, a31, a41, a51⟩, ⟨b11, b21, b31, b41⟩, -, -, f91⟩ := id hS1
    have l01 : gL (im1, ad, mc1) (ad 0) (.inl (10, _)) := Or.inr ⟨0, rfl, a11⟩
    have l41 : gL (im1, ad, mc1) (ad 4) (.inl (2, _)) := Or.inr ⟨4, rfl, hed'.1⟩
    refine GW.aload0 dX10_apply_22 (g := ?_)
    refine GW.iload2 dX10_apply_23 ?_
    refine GW.aload0 dX10_apply_24 (g := ?_)
    refine GW.getf fl_X10_34 dX10_apply_25 (by assumption) (by rfl) ?_
    refine GW.getf fl_X10_213 dX10_apply_28 (by assumption) (by rfl) ?_
    refine GW.callV cv_X10_216 mt_X10_changeTo (c_changeTo (G := (im1, ad, mc1)) (d := d) (b := w') (t := t') a11 a31 a41 a51 hd hv' (by unfold sml; omega)) dX10_apply_31 (by first | assumption | exact isV.gl (by assumption) | exact tbAt.gl (by assumption)) rfl rfl rfl rfl (by first | (dsimp only [mX10_apply, gM.dp, gM.kc, gM.ks]; omega) | exact Nat.le_of_ble_eq_true rfl | exact Nat.le_refl _ | omega) (by decide) (by first | omega | (dsimp only [mX10_apply, gM.dp, gM.kc, gM.ks]; omega)) (by first | omega | (dsimp only [mX10_apply, gM.dp, gM.kc, gM.ks]; omega)) (by first | exact Nat.le_of_ble_eq_true rfl | (simp [va_rf_cat]; done) | (simp [va_rf_cat, Value.category]; done)) rfl (fun _ _ h => h.elim) (fun v31 G31 hq => ?_)
    obtain ⟨rfl, mc2, rfl, ho2, hdc2, hpt2⟩ := hq
    have hS2 : St im1 ad mc2 (updD ds d t') cl at_ (if at_ = d then ss.take (stl t' ss) else ss) ps qs := hS1.doc (fun q h1 h2 _ => ho2 q h1 h2) hdc2 hpt2 a51
    obtain ⟨⟨⟨cla2, a12, a22⟩, a32, a42, a52⟩, ⟨b12, b22, b32, b42⟩, -, -, f92⟩ := id hS2
    have l02 : gL (im1, ad, mc2) (ad 0) (.inl (10, _)) := Or.inr ⟨0, rfl, a12⟩
    refine GW.aload0 dX10_apply_34 (g := ?_)
    refine GW.getf fl_X10_220 dX10_apply_35 (by assumption) (by rfl) ?_
    refine GW.bipush (v := 8) dX10_apply_38 (by decide) ?_
    refine GW.icmp_lt (tgt := 46) dX10_apply_40 (by decide) (fun h40 => ?_) (fun h40 => ?_)
    · refine GW.aload0 dX10_apply_46 (g := ?_)
      refine GW.callV cv_X10_182 mt_X10_beginPatch (c_beginPatch (G := (im1, ad, mc2)) a12 b12 (by omega) b32) dX10_apply_47 (by first | assumption | exact isV.gl (by assumption) | exact tbAt.gl (by assumption)) rfl rfl rfl rfl (by first | (dsimp only [mX10_apply, gM.dp, gM.kc, gM.ks]; omega) | exact Nat.le_of_ble_eq_true rfl | exact Nat.le_refl _ | omega) (by decide) (by first | omega | (dsimp only [mX10_apply, gM.dp, gM.kc, gM.ks]; omega)) (by first | omega | (dsimp only [mX10_apply, gM.dp, gM.kc, gM.ks]; omega)) (by first | exact Nat.le_of_ble_eq_true rfl | (simp [va_rf_cat]; done) | (simp [va_rf_cat, Value.category]; done)) rfl (fun E G' hx => absurd hx.1 (by omega)) (fun v47 G47 hq => ?_)
      obtain ⟨-, rfl, mc3, rfl, ho3, k03, kpt3⟩ := hq
      have b13 : ppAt ad mc3 := b12.mono (ho3 7 (by omega) (by omega))
      have l03 : gL (im1, ad, mc3) (ad 0) (.inl (10, _)) := Or.inr ⟨0, rfl, k03⟩
      refine GW.istore4 dX10_apply_50 (g := ?_)
      refine GW.aload0 dX10_apply_52 (g := ?_)
      refine GW.aload3 dX10_apply_53 (g := ?_)
      refine GW.aload0 dX10_apply_54 (g := ?_)
      refine GW.iload4 dX10_apply_55 ?_
      refine GW.callV cv_X10_185 mt_X10_patchOf (c_patchOf (G := (im1, ad, mc3)) (i := ps.length) k03 b13 (by omega) (by omega)) dX10_apply_57 (by first | assumption | exact isV.gl (by assumption) | exact tbAt.gl (by assumption)) rfl rfl rfl rfl (by first | (dsimp only [mX10_apply, gM.dp, gM.kc, gM.ks]; omega) | exact Nat.le_of_ble_eq_true rfl | exact Nat.le_refl _ | omega) (by decide) (by first | omega | (dsimp only [mX10_apply, gM.dp, gM.kc, gM.ks]; omega)) (by first | omega | (dsimp only [mX10_apply, gM.dp, gM.kc, gM.ks]; omega)) (by first | exact Nat.le_of_ble_eq_true rfl | (simp [va_rf_cat]; done) | (simp [va_rf_cat, Value.category]; done)) rfl (fun _ _ h => h.elim) (fun v57 G57 hq => ?_)
      obtain ⟨rfl, rfl⟩ := hq
      have hp3 : ptAt im1 ad mc3 i os := (b42 i os hi).mono (gLe.rf _) (ho3 _ (by omega) (by omega)) (ho3 _ (by omega) (by omega))
      have f93 : frG (im1, ad, mc3) := fun q hq => (ho3 q (by omega) (by omega)).trans (f92 q hq)
      have htk3 : tkAt im1 mc3 (tks os (ds d)) := by
        obtain ⟨tr, w1, w2⟩ := htka
        exact ⟨tr, ((ho3 8 (by omega) (by omega)).trans (ho2 8 (by omega) (by omega))).trans w1, w2⟩
      refine GW.callV cv_X10_223 mt_X10_writeInverse (c_writeInverse (G := (im1, ad, mc3)) (i := i) (i2 := ps.length) f93 k03 hp3 (by omega) kpt3 hl (by omega) hok htk3 (tks_len os (ds d) t' 0 hg1)) dX10_apply_60 (by first | assumption | exact isV.gl (by assumption) | exact tbAt.gl (by assumption)) rfl rfl rfl rfl (by first | (dsimp only [mX10_apply, gM.dp, gM.kc, gM.ks]; omega) | exact Nat.le_of_ble_eq_true rfl | exact Nat.le_refl _ | omega) (by decide) (by first | omega | (dsimp only [mX10_apply, gM.dp, gM.kc, gM.ks]; omega)) (by first | omega | (dsimp only [mX10_apply, gM.dp, gM.kc, gM.ks]; omega)) (by first | exact Nat.le_of_ble_eq_true rfl | (simp [va_rf_cat]; done) | (simp [va_rf_cat, Value.category]; done)) rfl (fun _ _ h => h.elim) (fun v60 G60 hq => ?_)
      obtain ⟨rfl, im4, mc4, hle4, rfl, ho4, hpt4⟩ := hq
      refine GW.iload4 dX10_apply_63 ?_
      refine GW.ireturn dX10_apply_65 (Or.inl rfl) (by first | (dsimp only [mX10_apply, gM.dp, gM.kc, gM.ks]; omega) | exact Nat.le_of_ble_eq_true rfl | exact Nat.le_refl _ | omega) (by first | (dsimp only [mX10_apply, gM.dp, gM.kc, gM.ks]; omega) | exact Nat.le_of_ble_eq_true rfl | exact Nat.le_refl _ | omega) ?_
      subst hQ
      refine ⟨im4, mc4, hle.tr hle4, rfl, Or.inr ⟨h17, rfl, t', hg1, hs1, hs2, hS2.pat (cla := cla2) hle4 (fun q e0 e1 => (ho4 q (by omega) (by omega)).trans (ho3 q e0 (by omega))) ?_ (a22.mono hle4) (by rw [List.length_append, List.length_singleton]; omega) (fun k hk => ?_) (fun k os' hk => ?_)⟩⟩
      · rw [List.length_append, List.length_singleton]
        exact (ho4 0 (by omega) (by omega)).trans k03
      · by_cases e : k = ps.length
        · rw [e]; exact ⟨_, hpt4⟩
        · obtain ⟨os', h⟩ := b32 k hk
          exact ⟨os', h.mono hle4 ((ho4 _ (by omega) (by omega)).trans (ho3 _ (by omega) (by omega))) ((ho4 _ (by omega) (by omega)).trans (ho3 _ (by omega) (by omega)))⟩
      · rcases Nat.lt_or_ge k ps.length with e | e
        · rw [List.getElem?_append_left e] at hk
          exact (b42 k os' hk).mono hle4 ((ho4 _ (by omega) (by omega)).trans (ho3 _ (by omega) (by omega))) ((ho4 _ (by omega) (by omega)).trans (ho3 _ (by omega) (by omega)))
        · rw [List.getElem?_append_right e] at hk
          have hz : k - ps.length < 1 := (List.getElem?_eq_some_iff.mp hk).1
          have hke : k = ps.length := by omega
          subst hke
          simp at hk
          subst hk
          exact hpt4
    · exact absurd ((mI_lt (b := 8) (by omega) (by omega)).mpr hl) h40
  · refine GW.iconst (v := -1) dX10_apply_20 (by decide) ?_
    refine GW.ireturn dX10_apply_21 (Or.inl rfl) (by first | (dsimp only [mX10_apply, gM.dp, gM.kc, gM.ks]; omega) | exact Nat.le_of_ble_eq_true rfl | exact Nat.le_refl _ | omega) (by first | (dsimp only [mX10_apply, gM.dp, gM.kc, gM.ks]; omega) | exact Nat.le_of_ble_eq_true rfl | exact Nat.le_refl _ | omega) ?_
    subst hQ
    exact ⟨im1, mc1, hle, rfl, Or.inl ⟨h17, rfl, hS1⟩⟩
end CH
