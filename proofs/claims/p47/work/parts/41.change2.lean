/-! MARLSTORE: insert, drop, set, forget, apply, addQuery, addPart -/
section CH
variable {G : gG} {ds : Nat → Tr} {cl : Tr} {at_ : Nat} {ss : List Int32} {ps : List (List OpT)} {qs : List (List (Int32 × Int32))}
/-- the ghost after EDITOR.begin -/
def bgM (ad : Nat → Nat) (mc : Nat → Option gC) (b : Nat) (len : Int32) : Nat → Option gC := fun q => if q = 4 then some (.inl (2, [.ref b, .null, .int len, .ref (ad 5), .ref (ad 6)])) else mc q
theorem bgM_o {ad : Nat → Nat} {mc : Nat → Option gC} {b : Nat} {len : Int32} {q : Nat} (h : q ≠ 4) : bgM ad mc b len q = mc q := if_neg h
theorem bgM_ed {ad : Nat → Nat} {mc : Nat → Option gC} {b : Nat} {len : Int32} {w tk : Option Nat} {pr : Nat → Option Nat} {pl : Nat → Int32} (he : edAt ad mc w tk len pr pl) : edAt ad (bgM ad mc b len) (some b) none len pr pl := ⟨if_pos rfl, (bgM_o (by decide)).trans he.2.1, (bgM_o (by decide)).trans he.2.2⟩
abbrev mX10_insert (d kc ks : Nat) : gM := (RX10, cX10_insert, 2, (some .int), [], "insert", d, kc, ks)
abbrev kX10_insert (d kc ks : Nat) (as : List Value) (G : gG) (Q : Option Value → gG → Prop) (X : String → gG → Prop) : Prop := Ctr yX10_insert cX10_insert 2 (some .int) d kc ks as G Q X
theorem oX10_insert {d kc ks : Nat} {as : List Value} {G : gG} {Q : Option Value → gG → Prop} {X : String → gG → Prop} {L : List (Option Value)} (hL : gEnt as = L) (hlen : (lg_sl as).length ≤ 2) (g : GW (mX10_insert d kc ks) Q X G 0 0 0 L []) : kX10_insert d kc ks as G Q X := Ctr.of (by decide +kernel) rfl rfl hL hlen g
theorem c_insert {s : Int32} (hS : St G.1 G.2.1 G.2.2 ds cl at_ ss ps qs) (hd : okD (ds at_)) (hc : okD cl) :
    kX10_insert 5 15 200 [.ref (G.2.1 0), .int s] G (fun v G' => v = some (.int (finV (doAdd (ds at_) ss s cl))) ∧ ∃ im' mc', gLe G.1 im' ∧ (im', G.2.1, mc') = G' ∧ St im' G.2.1 mc' (finD ds at_ (doAdd (ds at_) ss s cl)) cl at_ (finS ss (doAdd (ds at_) ss s cl)) ps qs) noX := by
  obtain ⟨im, ad, mc⟩ := G
  obtain ⟨⟨⟨cla, a1, a2⟩, a3, a4, a5⟩, ⟨b1, b2, b3, b4⟩, ⟨c1, c2, c3⟩, ⟨d1, d2, d3, d4⟩, f9⟩ := id hS
  obtain ⟨w0, tk0, len0, pr0, pl0, hed⟩ := id d1
  obtain ⟨hl6, h2a, f, h3, hss⟩ := id a4
  have hb1 := hd.2.1
  have hb2 := hc.2.1
  have l0 : gL (im, ad, mc) (ad 0) (.inl (10, _)) := Or.inr ⟨0, rfl, a1⟩
  have l2 : gL (im, ad, mc) (ad 2) (.inl (5, _)) := Or.inr ⟨2, rfl, a4.2.1⟩
  have l4 : gL (im, ad, mc) (ad 4) (.inl (2, _)) := Or.inr ⟨4, rfl, hed.1⟩
  refine oX10_insert (L := [some (.ref (ad 0)), some (.int s), none, none, none, none, none, none, none, none, none, none]) rfl (Nat.le_of_ble_eq_true rfl) ?_
  generalize hQ : (fun (v : Option Value) (G' : gG) => v = some (.int (finV (doAdd (ds at_) ss s cl))) ∧ ∃ im' mc', gLe (im, ad, mc).1 im' ∧ (im', (im, ad, mc).2.1, mc') = G' ∧ St im' (im, ad, mc).2.1 mc' (finD ds at_ (doAdd (ds at_) ss s cl)) cl at_ (finS ss (doAdd (ds at_) ss s cl)) ps qs) = Q
  refine GW.aload0 dX10_insert_0 (g := ?_)
  refine GW.getf fl_X10_34 dX10_insert_1 (by assumption) (by rfl) ?_
  refine GW.aload0 dX10_insert_4 (g := ?_)
  refine GW.aload0 dX10_insert_5 (g := ?_)
  refine GW.getf fl_X10_25 dX10_insert_6 (by assumption) (by rfl) ?_
  refine GW.getf fl_X10_131 dX10_insert_9 (by assumption) (by rfl) ?_
  refine GW.callV cv_X10_85 mt_X10_wholeOf (c_wholeOf (G := (im, ad, mc)) a1 a3 a5) dX10_insert_12 (by first | assumption | exact isV.gl (by assumption) | exact tbAt.gl (by assumption)) rfl rfl rfl rfl (by first | (dsimp only [mX10_insert, gM.dp, gM.kc, gM.ks]; omega) | exact Nat.le_of_ble_eq_true rfl | exact Nat.le_refl _ | omega) (by decide) (by first | omega | (dsimp only [mX10_insert, gM.dp, gM.kc, gM.ks]; omega)) (by first | omega | (dsimp only [mX10_insert, gM.dp, gM.kc, gM.ks]; omega)) (by first | exact Nat.le_of_ble_eq_true rfl | (simp [va_rf_cat]; done) | (simp [va_rf_cat, Value.category]; done)) rfl (fun _ _ h => h.elim) (fun v12 G12 hq => ?_)
  obtain ⟨a, rfl, rfl, hv⟩ := hq
  have hv : isV im a (ds at_) := hv
  refine GW.callV cv_X10_148 mt_X2_begin (c_edBegin (G := (im, ad, mc)) hed) dX10_insert_15 (by first | assumption | exact isV.gl (by assumption) | exact tbAt.gl (by assumption)) rfl rfl rfl rfl (by first | (dsimp only [mX10_insert, gM.dp, gM.kc, gM.ks]; omega) | exact Nat.le_of_ble_eq_true rfl | exact Nat.le_refl _ | omega) (by decide) (by first | omega | (dsimp only [mX10_insert, gM.dp, gM.kc, gM.ks]; omega)) (by first | omega | (dsimp only [mX10_insert, gM.dp, gM.kc, gM.ks]; omega)) (by first | exact Nat.le_of_ble_eq_true rfl | (simp [va_rf_cat]; done) | (simp [va_rf_cat, Value.category]; done)) rfl (fun _ _ h => h.elim) (fun v15 G15 hq => ?_)
  obtain ⟨rfl, rfl⟩ := hq
  rw [show gS (im, ad, mc) 4 (.inl (2, [.ref a, .null, .int len0, .ref ((im, ad, mc).2.1 5), .ref ((im, ad, mc).2.1 6)])) = (im, ad, bgM ad mc a len0) from rfl]
  have he1 := bgM_ed (b := a) hed
  have l01 : gL (im, ad, bgM ad mc a len0) (ad 0) (.inl (10, _)) := Or.inr ⟨0, rfl, a1⟩
  have l21 : gL (im, ad, bgM ad mc a len0) (ad 2) (.inl (5, _)) := Or.inr ⟨2, rfl, a4.2.1⟩
  have l41 : gL (im, ad, bgM ad mc a len0) (ad 4) (.inl (2, _)) := Or.inr ⟨4, rfl, he1.1⟩
  have f91 : frG (im, ad, bgM ad mc a len0) := fun q hq => (bgM_o (by omega)).trans (f9 q hq)
  refine GW.aload0 dX10_insert_18 (g := ?_)
  refine GW.aload0 dX10_insert_19 (g := ?_)
  refine GW.getf fl_X10_34 dX10_insert_20 (by assumption) (by rfl) ?_
  refine GW.aload0 dX10_insert_23 (g := ?_)
  refine GW.getf fl_X10_25 dX10_insert_24 (by assumption) (by rfl) ?_
  refine GW.getf fl_X10_134 dX10_insert_27 (by assumption) (by rfl) ?_
  refine GW.aload0 dX10_insert_30 (g := ?_)
  refine GW.getf fl_X10_25 dX10_insert_31 (by assumption) (by rfl) ?_
  refine GW.getf fl_X10_128 dX10_insert_34 (by assumption) (by rfl) ?_
  refine GW.iload1 dX10_insert_37 ?_
  refine GW.aload0 dX10_insert_38 (g := ?_)
  refine GW.getf fl_X10_18 dX10_insert_39 (by assumption) (by rfl) ?_
  refine GW.callV cv_X10_159 mt_X2_addAt (c_addAt (G := (im, ad, bgM ad mc a len0)) (N := 6) (n := ss.length) (f := f) (s := s) (vt := cl) f91 he1 hv a2 (by omega) (Or.inr ⟨rfl, h3⟩) hl6 (by omega) hl6) dX10_insert_42 (by first | assumption | exact isV.gl (by assumption) | exact tbAt.gl (by assumption)) rfl rfl rfl rfl (by first | (dsimp only [mX10_insert, gM.dp, gM.kc, gM.ks]; omega) | exact Nat.le_of_ble_eq_true rfl | exact Nat.le_refl _ | omega) (by decide) (by first | omega | (dsimp only [mX10_insert, gM.dp, gM.kc, gM.ks]; omega)) (by first | omega | (dsimp only [mX10_insert, gM.dp, gM.kc, gM.ks]; omega)) (by first | exact Nat.le_of_ble_eq_true rfl | (simp [va_rf_cat]; done) | (simp [va_rf_cat, Value.category]; done)) rfl (fun _ _ h => h.elim) (fun v42 G42 hq => ?_)
  rw [← hss] at hq
  obtain ⟨im', mc', w', tk', len', pr', pl', rfl, hle, rfl, hfr, hed', hv', htk⟩ := hq
  have hS' : St im' ad mc' ds cl at_ ss ps qs := hS.edit hle (fun q e4 e5 e6 => (hfr q e4 e5 e6).trans (bgM_o e4)) ⟨_, _, _, _, _, hed'⟩
  have hsm : sml ((doAdd (ds at_) ss s cl).getD (ds at_)) := by
    unfold sml
    cases ho : doAdd (ds at_) ss s cl with
    | none => show szT (ds at_) < _; omega
    | some t' =>
      have := szT_doAdd ho
      show szT t' < _
      omega
  have l02 : gL (im', ad, mc') (ad 0) (.inl (10, _)) := Or.inr ⟨0, rfl, (hfr 0 (by decide) (by decide) (by decide)).trans a1⟩
  refine GW.callV cv_X10_155 mt_X10_finish (c_fin (G := (im', ad, mc')) (o := doAdd (ds at_) ss s cl) hS' hed' hv' hsm) dX10_insert_45 (by first | assumption | exact isV.gl (by assumption) | exact tbAt.gl (by assumption)) rfl rfl rfl rfl (by first | (dsimp only [mX10_insert, gM.dp, gM.kc, gM.ks]; omega) | exact Nat.le_of_ble_eq_true rfl | exact Nat.le_refl _ | omega) (by decide) (by first | omega | (dsimp only [mX10_insert, gM.dp, gM.kc, gM.ks]; omega)) (by first | omega | (dsimp only [mX10_insert, gM.dp, gM.kc, gM.ks]; omega)) (by first | exact Nat.le_of_ble_eq_true rfl | (simp [va_rf_cat]; done) | (simp [va_rf_cat, Value.category]; done)) rfl (fun _ _ h => h.elim) (fun v45 G45 hq => ?_)
  obtain ⟨rfl, mc2, rfl, hS2⟩ := hq
  refine GW.ireturn dX10_insert_48 (Or.inl rfl) (by first | (dsimp only [mX10_insert, gM.dp, gM.kc, gM.ks]; omega) | exact Nat.le_of_ble_eq_true rfl | exact Nat.le_refl _ | omega) (by first | (dsimp only [mX10_insert, gM.dp, gM.kc, gM.ks]; omega) | exact Nat.le_of_ble_eq_true rfl | exact Nat.le_refl _ | omega) ?_
  subst hQ
  exact ⟨rfl, im', mc2, hle, rfl, hS2⟩
abbrev mX10_drop (d kc ks : Nat) : gM := (RX10, cX10_drop, 2, (some .int), [], "drop", d, kc, ks)
abbrev kX10_drop (d kc ks : Nat) (as : List Value) (G : gG) (Q : Option Value → gG → Prop) (X : String → gG → Prop) : Prop := Ctr yX10_drop cX10_drop 2 (some .int) d kc ks as G Q X
theorem oX10_drop {d kc ks : Nat} {as : List Value} {G : gG} {Q : Option Value → gG → Prop} {X : String → gG → Prop} {L : List (Option Value)} (hL : gEnt as = L) (hlen : (lg_sl as).length ≤ 2) (g : GW (mX10_drop d kc ks) Q X G 0 0 0 L []) : kX10_drop d kc ks as G Q X := Ctr.of (by decide +kernel) rfl rfl hL hlen g
theorem c_drop {s : Int32} (hS : St G.1 G.2.1 G.2.2 ds cl at_ ss ps qs) (hd : okD (ds at_)) :
    kX10_drop 5 15 200 [.ref (G.2.1 0), .int s] G (fun v G' => v = some (.int (finV (doDrop (ds at_) ss s))) ∧ ∃ im' mc', gLe G.1 im' ∧ (im', G.2.1, mc') = G' ∧ St im' G.2.1 mc' (finD ds at_ (doDrop (ds at_) ss s)) cl at_ (finS ss (doDrop (ds at_) ss s)) ps qs) noX := by
  obtain ⟨im, ad, mc⟩ := G
  obtain ⟨⟨⟨cla, a1, a2⟩, a3, a4, a5⟩, ⟨b1, b2, b3, b4⟩, ⟨c1, c2, c3⟩, ⟨d1, d2, d3, d4⟩, f9⟩ := id hS
  obtain ⟨w0, tk0, len0, pr0, pl0, hed⟩ := id d1
  obtain ⟨hl6, h2a, f, h3, hss⟩ := id a4
  have hb1 := hd.2.1
  have l0 : gL (im, ad, mc) (ad 0) (.inl (10, _)) := Or.inr ⟨0, rfl, a1⟩
  have l2 : gL (im, ad, mc) (ad 2) (.inl (5, _)) := Or.inr ⟨2, rfl, a4.2.1⟩
  have l4 : gL (im, ad, mc) (ad 4) (.inl (2, _)) := Or.inr ⟨4, rfl, hed.1⟩
  refine oX10_drop (L := [some (.ref (ad 0)), some (.int s), none, none, none, none, none, none, none, none, none, none]) rfl (Nat.le_of_ble_eq_true rfl) ?_
  generalize hQ : (fun (v : Option Value) (G' : gG) => v = some (.int (finV (doDrop (ds at_) ss s))) ∧ ∃ im' mc', gLe (im, ad, mc).1 im' ∧ (im', (im, ad, mc).2.1, mc') = G' ∧ St im' (im, ad, mc).2.1 mc' (finD ds at_ (doDrop (ds at_) ss s)) cl at_ (finS ss (doDrop (ds at_) ss s)) ps qs) = Q
  refine GW.aload0 dX10_drop_0 (g := ?_)
  refine GW.getf fl_X10_34 dX10_drop_1 (by assumption) (by rfl) ?_
  refine GW.aload0 dX10_drop_4 (g := ?_)
  refine GW.aload0 dX10_drop_5 (g := ?_)
  refine GW.getf fl_X10_25 dX10_drop_6 (by assumption) (by rfl) ?_
  refine GW.getf fl_X10_131 dX10_drop_9 (by assumption) (by rfl) ?_
  refine GW.callV cv_X10_85 mt_X10_wholeOf (c_wholeOf (G := (im, ad, mc)) a1 a3 a5) dX10_drop_12 (by first | assumption | exact isV.gl (by assumption) | exact tbAt.gl (by assumption)) rfl rfl rfl rfl (by first | (dsimp only [mX10_drop, gM.dp, gM.kc, gM.ks]; omega) | exact Nat.le_of_ble_eq_true rfl | exact Nat.le_refl _ | omega) (by decide) (by first | omega | (dsimp only [mX10_drop, gM.dp, gM.kc, gM.ks]; omega)) (by first | omega | (dsimp only [mX10_drop, gM.dp, gM.kc, gM.ks]; omega)) (by first | exact Nat.le_of_ble_eq_true rfl | (simp [va_rf_cat]; done) | (simp [va_rf_cat, Value.category]; done)) rfl (fun _ _ h => h.elim) (fun v12 G12 hq => ?_)
  obtain ⟨a, rfl, rfl, hv⟩ := hq
  have hv : isV im a (ds at_) := hv
  refine GW.callV cv_X10_148 mt_X2_begin (c_edBegin (G := (im, ad, mc)) hed) dX10_drop_15 (by first | assumption | exact isV.gl (by assumption) | exact tbAt.gl (by assumption)) rfl rfl rfl rfl (by first | (dsimp only [mX10_drop, gM.dp, gM.kc, gM.ks]; omega) | exact Nat.le_of_ble_eq_true rfl | exact Nat.le_refl _ | omega) (by decide) (by first | omega | (dsimp only [mX10_drop, gM.dp, gM.kc, gM.ks]; omega)) (by first | omega | (dsimp only [mX10_drop, gM.dp, gM.kc, gM.ks]; omega)) (by first | exact Nat.le_of_ble_eq_true rfl | (simp [va_rf_cat]; done) | (simp [va_rf_cat, Value.category]; done)) rfl (fun _ _ h => h.elim) (fun v15 G15 hq => ?_)
  obtain ⟨rfl, rfl⟩ := hq
  rw [show gS (im, ad, mc) 4 (.inl (2, [.ref a, .null, .int len0, .ref ((im, ad, mc).2.1 5), .ref ((im, ad, mc).2.1 6)])) = (im, ad, bgM ad mc a len0) from rfl]
  have he1 := bgM_ed (b := a) hed
  have l01 : gL (im, ad, bgM ad mc a len0) (ad 0) (.inl (10, _)) := Or.inr ⟨0, rfl, a1⟩
  have l21 : gL (im, ad, bgM ad mc a len0) (ad 2) (.inl (5, _)) := Or.inr ⟨2, rfl, a4.2.1⟩
  have l41 : gL (im, ad, bgM ad mc a len0) (ad 4) (.inl (2, _)) := Or.inr ⟨4, rfl, he1.1⟩
  have f91 : frG (im, ad, bgM ad mc a len0) := fun q hq => (bgM_o (by omega)).trans (f9 q hq)
  refine GW.aload0 dX10_drop_18 (g := ?_)
  refine GW.aload0 dX10_drop_19 (g := ?_)
  refine GW.getf fl_X10_34 dX10_drop_20 (by assumption) (by rfl) ?_
  refine GW.aload0 dX10_drop_23 (g := ?_)
  refine GW.getf fl_X10_25 dX10_drop_24 (by assumption) (by rfl) ?_
  refine GW.getf fl_X10_134 dX10_drop_27 (by assumption) (by rfl) ?_
  refine GW.aload0 dX10_drop_30 (g := ?_)
  refine GW.getf fl_X10_25 dX10_drop_31 (by assumption) (by rfl) ?_
  refine GW.getf fl_X10_128 dX10_drop_34 (by assumption) (by rfl) ?_
  refine GW.iload1 dX10_drop_37 ?_
  refine GW.callV cv_X10_163 mt_X2_dropAt (c_dropAt (G := (im, ad, bgM ad mc a len0)) (N := 6) (n := ss.length) (f := f) (s := s) f91 he1 hv (by omega) (Or.inr ⟨rfl, h3⟩) hl6 (by omega) hl6) dX10_drop_38 (by first | assumption | exact isV.gl (by assumption) | exact tbAt.gl (by assumption)) rfl rfl rfl rfl (by first | (dsimp only [mX10_drop, gM.dp, gM.kc, gM.ks]; omega) | exact Nat.le_of_ble_eq_true rfl | exact Nat.le_refl _ | omega) (by decide) (by first | omega | (dsimp only [mX10_drop, gM.dp, gM.kc, gM.ks]; omega)) (by first | omega | (dsimp only [mX10_drop, gM.dp, gM.kc, gM.ks]; omega)) (by first | exact Nat.le_of_ble_eq_true rfl | (simp [va_rf_cat]; done) | (simp [va_rf_cat, Value.category]; done)) rfl (fun _ _ h => h.elim) (fun v38 G38 hq => ?_)
  rw [← hss] at hq
  obtain ⟨im', mc', w', tk', len', pr', pl', rfl, hle, rfl, hfr, hed', hv', htk⟩ := hq
  have hS' : St im' ad mc' ds cl at_ ss ps qs := hS.edit hle (fun q e4 e5 e6 => (hfr q e4 e5 e6).trans (bgM_o e4)) ⟨_, _, _, _, _, hed'⟩
  have hsm : sml ((doDrop (ds at_) ss s).getD (ds at_)) := by
    unfold sml
    cases ho : doDrop (ds at_) ss s with
    | none => show szT (ds at_) < _; omega
    | some t' =>
      have := szT_doDrop ho
      show szT t' < _
      omega
  have l02 : gL (im', ad, mc') (ad 0) (.inl (10, _)) := Or.inr ⟨0, rfl, (hfr 0 (by decide) (by decide) (by decide)).trans a1⟩
  refine GW.callV cv_X10_155 mt_X10_finish (c_fin (G := (im', ad, mc')) (o := doDrop (ds at_) ss s) hS' hed' hv' hsm) dX10_drop_41 (by first | assumption | exact isV.gl (by assumption) | exact tbAt.gl (by assumption)) rfl rfl rfl rfl (by first | (dsimp only [mX10_drop, gM.dp, gM.kc, gM.ks]; omega) | exact Nat.le_of_ble_eq_true rfl | exact Nat.le_refl _ | omega) (by decide) (by first | omega | (dsimp only [mX10_drop, gM.dp, gM.kc, gM.ks]; omega)) (by first | omega | (dsimp only [mX10_drop, gM.dp, gM.kc, gM.ks]; omega)) (by first | exact Nat.le_of_ble_eq_true rfl | (simp [va_rf_cat]; done) | (simp [va_rf_cat, Value.category]; done)) rfl (fun _ _ h => h.elim) (fun v41 G41 hq => ?_)
  obtain ⟨rfl, mc2, rfl, hS2⟩ := hq
  refine GW.ireturn dX10_drop_44 (Or.inl rfl) (by first | (dsimp only [mX10_drop, gM.dp, gM.kc, gM.ks]; omega) | exact Nat.le_of_ble_eq_true rfl | exact Nat.le_refl _ | omega) (by first | (dsimp only [mX10_drop, gM.dp, gM.kc, gM.ks]; omega) | exact Nat.le_of_ble_eq_true rfl | exact Nat.le_refl _ | omega) ?_
  subst hQ
  exact ⟨rfl, im', mc2, hle, rfl, hS2⟩
abbrev mX10_set (d kc ks : Nat) : gM := (RX10, cX10_set, 7, (some .int), [], "set", d, kc, ks)
abbrev kX10_set (d kc ks : Nat) (as : List Value) (G : gG) (Q : Option Value → gG → Prop) (X : String → gG → Prop) : Prop := Ctr yX10_set cX10_set 7 (some .int) d kc ks as G Q X
theorem oX10_set {d kc ks : Nat} {as : List Value} {G : gG} {Q : Option Value → gG → Prop} {X : String → gG → Prop} {L : List (Option Value)} (hL : gEnt as = L) (hlen : (lg_sl as).length ≤ 7) (g : GW (mX10_set d kc ks) Q X G 0 0 0 L []) : kX10_set d kc ks as G Q X := Ctr.of (by decide +kernel) rfl rfl hL hlen g
/-- the VALUE that set makes -/
def fvT (kd nb : Nat) : Tr := (nI kd, if kd = 1 ∨ kd = 2 then nI nb else -10000, .leaf)
theorem fvT_ok {kd nb : Nat} (hk : kd < 5) (hn : nb < 2) : wfT (fvT kd nb) ∧ szT (fvT kd nb) = 1 ∧ dpT (fvT kd nb) = 1 := by
  refine ⟨⟨⟨?_, ?_, fun h => absurd rfl h, fun _ x hx => absurd hx List.not_mem_nil, fun _ => ⟨List.Pairwise.nil, fun x hx => absurd hx List.not_mem_nil⟩⟩, trivial⟩, rfl, rfl⟩
  · have : kd = 0 ∨ kd = 1 ∨ kd = 2 ∨ kd = 3 ∨ kd = 4 := by omega
    rcases this with rfl | rfl | rfl | rfl | rfl <;> simp [fvT] <;> decide
  · have : kd = 0 ∨ kd = 1 ∨ kd = 2 ∨ kd = 3 ∨ kd = 4 := by omega
    have h2 : nb = 0 ∨ nb = 1 := by omega
    rcases this with rfl | rfl | rfl | rfl | rfl <;> rcases h2 with rfl | rfl <;> (unfold fvT; decide)
set_option maxHeartbeats 2000000 in
theorem c_set {kd nb : Nat} (hS : St G.1 G.2.1 G.2.2 ds cl at_ ss ps qs) (hd : okD (ds at_)) (hk : kd < 5) (hn : nb < 2) :
    kX10_set 5 16 206 [.ref (G.2.1 0), .int (nI kd), .int (nI nb)] G (fun v G' => v = some (.int (nI (szT (pT (ds at_) ss)))) ∧ ∃ im' mc', gLe G.1 im' ∧ (im', G.2.1, mc') = G' ∧ St im' G.2.1 mc' (finD ds at_ (doPut (ds at_) ss (fvT kd nb))) cl at_ (finS ss (doPut (ds at_) ss (fvT kd nb))) ps qs) noX := by
  obtain ⟨im, ad, mc⟩ := G
  obtain ⟨⟨⟨cla, a1, a2⟩, a3, a4, a5⟩, ⟨b1, b2, b3, b4⟩, ⟨c1, c2, c3⟩, ⟨d1, d2, d3, d4⟩, f9⟩ := id hS
  obtain ⟨w0, tk0, len0, pr0, pl0, hed⟩ := id d1
  obtain ⟨hl6, h2a, f, h3, hss⟩ := id a4
  have hb1 := hd.2.1
  obtain ⟨-, hf1, hf2⟩ := fvT_ok hk hn
  have h902 : mc 902 = none := f9 902 (by omega)
  have l0 : gL (im, ad, mc) (ad 0) (.inl (10, _)) := Or.inr ⟨0, rfl, a1⟩
  have l2 : gL (im, ad, mc) (ad 2) (.inl (5, _)) := Or.inr ⟨2, rfl, a4.2.1⟩
  have l4 : gL (im, ad, mc) (ad 4) (.inl (2, _)) := Or.inr ⟨4, rfl, hed.1⟩
  refine oX10_set (L := [some (.ref (ad 0)), some (.int (nI kd)), some (.int (nI nb)), none, none, none, none, none, none, none, none, none]) rfl (Nat.le_of_ble_eq_true rfl) ?_
  generalize hQ : (fun (v : Option Value) (G' : gG) => v = some (.int (nI (szT (pT (ds at_) ss)))) ∧ ∃ im' mc', gLe (im, ad, mc).1 im' ∧ (im', (im, ad, mc).2.1, mc') = G' ∧ St im' (im, ad, mc).2.1 mc' (finD ds at_ (doPut (ds at_) ss (fvT kd nb))) cl at_ (finS ss (doPut (ds at_) ss (fvT kd nb))) ps qs) = Q
  have at112 : ∀ (im1 : gIm) (b : Nat) (l5 : Option Value), gLe im im1 → isV im1 b (fvT kd nb) → (∀ z, l5 = some z → z.category ≠ 2) →
      GW (mX10_set 5 16 206) Q noX (im1, ad, mc) 1 6 110 [some (.ref (ad 0)), some (.int (nI kd)), some (.int (nI nb)), some (.int 0), some (.int (nI (szT (pT (ds at_) ss)))), l5, none, none, none, none, none, none] [.ref b] := by
    intro im1 b l5 hle0 hb hl5
    have l0 : gL (im1, ad, mc) (ad 0) (.inl (10, _)) := Or.inr ⟨0, rfl, a1⟩
    have l2 : gL (im1, ad, mc) (ad 2) (.inl (5, _)) := Or.inr ⟨2, rfl, a4.2.1⟩
    have l4 : gL (im1, ad, mc) (ad 4) (.inl (2, _)) := Or.inr ⟨4, rfl, hed.1⟩
    have a31 : dcAt im1 mc ds := a3.mono hle0 rfl
    refine GW.astore6 dX10_set_110 (hp := hl5) (g := ?_)
    refine GW.aload0 dX10_set_112 (g := ?_)
    refine GW.getf fl_X10_34 dX10_set_113 (by assumption) (by rfl) ?_
    refine GW.aload0 dX10_set_116 (g := ?_)
    refine GW.aload0 dX10_set_117 (g := ?_)
    refine GW.getf fl_X10_25 dX10_set_118 (by assumption) (by rfl) ?_
    refine GW.getf fl_X10_131 dX10_set_121 (by assumption) (by rfl) ?_
    refine GW.callV cv_X10_85 mt_X10_wholeOf (c_wholeOf (G := (im1, ad, mc)) a1 a31 a5) dX10_set_124 (by first | assumption | exact isV.gl (by assumption) | exact tbAt.gl (by assumption)) rfl rfl rfl rfl (by first | (dsimp only [mX10_set, gM.dp, gM.kc, gM.ks]; omega) | exact Nat.le_of_ble_eq_true rfl | exact Nat.le_refl _ | omega) (by decide) (by first | omega | (dsimp only [mX10_set, gM.dp, gM.kc, gM.ks]; omega)) (by first | omega | (dsimp only [mX10_set, gM.dp, gM.kc, gM.ks]; omega)) (by first | exact Nat.le_of_ble_eq_true rfl | (simp [va_rf_cat]; done) | (simp [va_rf_cat, Value.category]; done)) rfl (fun _ _ h => h.elim) (fun v124 G124 hq => ?_)
    obtain ⟨a, rfl, rfl, hv⟩ := hq
    have hv : isV im1 a (ds at_) := hv
    refine GW.callV cv_X10_148 mt_X2_begin (c_edBegin (G := (im1, ad, mc)) hed) dX10_set_127 (by first | assumption | exact isV.gl (by assumption) | exact tbAt.gl (by assumption)) rfl rfl rfl rfl (by first | (dsimp only [mX10_set, gM.dp, gM.kc, gM.ks]; omega) | exact Nat.le_of_ble_eq_true rfl | exact Nat.le_refl _ | omega) (by decide) (by first | omega | (dsimp only [mX10_set, gM.dp, gM.kc, gM.ks]; omega)) (by first | omega | (dsimp only [mX10_set, gM.dp, gM.kc, gM.ks]; omega)) (by first | exact Nat.le_of_ble_eq_true rfl | (simp [va_rf_cat]; done) | (simp [va_rf_cat, Value.category]; done)) rfl (fun _ _ h => h.elim) (fun v127 G127 hq => ?_)
    obtain ⟨rfl, rfl⟩ := hq
    rw [show gS (im1, ad, mc) 4 (.inl (2, [.ref a, .null, .int len0, .ref ((im1, ad, mc).2.1 5), .ref ((im1, ad, mc).2.1 6)])) = (im1, ad, bgM ad mc a len0) from rfl]
    have he1 := bgM_ed (b := a) hed
    have l01 : gL (im1, ad, bgM ad mc a len0) (ad 0) (.inl (10, _)) := Or.inr ⟨0, rfl, a1⟩
    have l21 : gL (im1, ad, bgM ad mc a len0) (ad 2) (.inl (5, _)) := Or.inr ⟨2, rfl, a4.2.1⟩
    have l41 : gL (im1, ad, bgM ad mc a len0) (ad 4) (.inl (2, _)) := Or.inr ⟨4, rfl, he1.1⟩
    have f91 : frG (im1, ad, bgM ad mc a len0) := fun q hq => (bgM_o (by omega)).trans (f9 q hq)
    refine GW.aload0 dX10_set_130 (g := ?_)
    refine GW.aload0 dX10_set_131 (g := ?_)
    refine GW.getf fl_X10_34 dX10_set_132 (by assumption) (by rfl) ?_
    refine GW.aload0 dX10_set_135 (g := ?_)
    refine GW.getf fl_X10_25 dX10_set_136 (by assumption) (by rfl) ?_
    refine GW.getf fl_X10_134 dX10_set_139 (by assumption) (by rfl) ?_
    refine GW.aload0 dX10_set_142 (g := ?_)
    refine GW.getf fl_X10_25 dX10_set_143 (by assumption) (by rfl) ?_
    refine GW.getf fl_X10_128 dX10_set_146 (by assumption) (by rfl) ?_
    refine GW.aload6 dX10_set_149 (g := ?_)
    refine GW.callV cv_X10_151 mt_X2_putAt (c_putAt (G := (im1, ad, bgM ad mc a len0)) (N := 6) (n := ss.length) (f := f) (vt := fvT kd nb) f91 he1 hv hb (by omega) (Or.inr ⟨rfl, h3⟩) hl6 (by omega) hl6) dX10_set_151 (by first | assumption | exact isV.gl (by assumption) | exact tbAt.gl (by assumption)) rfl rfl rfl rfl (by first | (dsimp only [mX10_set, gM.dp, gM.kc, gM.ks]; omega) | exact Nat.le_of_ble_eq_true rfl | exact Nat.le_refl _ | omega) (by decide) (by first | omega | (dsimp only [mX10_set, gM.dp, gM.kc, gM.ks]; omega)) (by first | omega | (dsimp only [mX10_set, gM.dp, gM.kc, gM.ks]; omega)) (by first | exact Nat.le_of_ble_eq_true rfl | (simp [va_rf_cat]; done) | (simp [va_rf_cat, Value.category]; done)) rfl (fun _ _ h => h.elim) (fun v151 G151 hq => ?_)
    rw [← hss] at hq
    obtain ⟨im', mc', w', tk', len', pr', pl', rfl, hle, rfl, hfr, hed', hv', htk⟩ := hq
    have hS' : St im' ad mc' ds cl at_ ss ps qs := hS.edit (hle0.tr hle) (fun q e4 e5 e6 => (hfr q e4 e5 e6).trans (bgM_o e4)) ⟨_, _, _, _, _, hed'⟩
    have hsm : sml ((doPut (ds at_) ss (fvT kd nb)).getD (ds at_)) := by
      unfold sml
      cases ho : doPut (ds at_) ss (fvT kd nb) with
      | none => show szT (ds at_) < _; omega
      | some t' =>
        obtain ⟨u, hu, -⟩ := doPut_some ho
        have := szT_doPut ho hu
        show szT t' < _
        omega
    have l02 : gL (im', ad, mc') (ad 0) (.inl (10, _)) := Or.inr ⟨0, rfl, (hfr 0 (by decide) (by decide) (by decide)).trans a1⟩
    refine GW.callV cv_X10_155 mt_X10_finish (c_fin (G := (im', ad, mc')) (o := doPut (ds at_) ss (fvT kd nb)) hS' hed' hv' hsm) dX10_set_154 (by first | assumption | exact isV.gl (by assumption) | exact tbAt.gl (by assumption)) rfl rfl rfl rfl (by first | (dsimp only [mX10_set, gM.dp, gM.kc, gM.ks]; omega) | exact Nat.le_of_ble_eq_true rfl | exact Nat.le_refl _ | omega) (by decide) (by first | omega | (dsimp only [mX10_set, gM.dp, gM.kc, gM.ks]; omega)) (by first | omega | (dsimp only [mX10_set, gM.dp, gM.kc, gM.ks]; omega)) (by first | exact Nat.le_of_ble_eq_true rfl | (simp [va_rf_cat]; done) | (simp [va_rf_cat, Value.category]; done)) rfl (fun _ _ h => h.elim) (fun v154 G154 hq => ?_)
    obtain ⟨rfl, mc2, rfl, hS2⟩ := hq
    refine GW.pop dX10_set_157 (hv := by first | rfl | exact va_rf_cat _) (g := ?_)
    refine GW.iload4 dX10_set_158 ?_
    refine GW.ireturn dX10_set_160 (Or.inl rfl) (by first | (dsimp only [mX10_set, gM.dp, gM.kc, gM.ks]; omega) | exact Nat.le_of_ble_eq_true rfl | exact Nat.le_refl _ | omega) (by first | (dsimp only [mX10_set, gM.dp, gM.kc, gM.ks]; omega) | exact Nat.le_of_ble_eq_true rfl | exact Nat.le_refl _ | omega) ?_
    subst hQ
    exact ⟨rfl, im', mc2, hle0.tr hle, rfl, hS2⟩
  have at88 : ∀ h5 : Int32, ((h5 = 1 ∧ (kd = 1 ∨ kd = 2)) ∨ (h5 = 0 ∧ ¬ (kd = 1 ∨ kd = 2))) → GW (mX10_set 5 16 206) Q noX (im, ad, mc) 0 0 88 [some (.ref (ad 0)), some (.int (nI kd)), some (.int (nI nb)), some (.int 0), some (.int (nI (szT (pT (ds at_) ss)))), some (.int h5), none, none, none, none, none, none] [] := by
    intro h5 hh5
    refine GW.newo nw_X10_7 902 [.int 0, .int 0, .null, .null, .int 0, .int 0] dX10_set_88 (by first | rfl | assumption) (by intro j hj; match j, hj with | 0, _ => rfl | 1, _ => rfl | 2, _ => rfl | 3, _ => rfl | 4, _ => rfl | 5, _ => rfl) (by first | (dsimp only [mX10_set, gM.dp, gM.kc, gM.ks]; omega) | exact Nat.le_of_ble_eq_true rfl) (by first | (dsimp only [mX10_set, gM.dp, gM.kc, gM.ks]; omega) | exact Nat.le_of_ble_eq_true rfl) (fun q88 => ?_)
    refine GW.dup dX10_set_91 (hv := by first | rfl | exact va_rf_cat _) (g := ?_)
    refine GW.iload1 dX10_set_92 ?_
    refine GW.iload5 dX10_set_93 ?_
    have at105 : ∀ fn : Int32, fn = (fvT kd nb).2.1 → GW (mX10_set 5 16 206) Q noX (gN (im, ad, mc) 902 q88 (.inl (8, [.int 0, .int 0, .null, .null, .int 0, .int 0]))) (0 + 1) (0 + 6) 105 [some (.ref (ad 0)), some (.int (nI kd)), some (.int (nI nb)), some (.int 0), some (.int (nI (szT (pT (ds at_) ss)))), some (.int h5), none, none, none, none, none, none] [.int fn, .int (nI kd), .ref q88, .ref q88] := by
      intro fn hfn
      refine GW.null dX10_set_105 ?_
      refine GW.null dX10_set_106 ?_
      refine GW.callI ci_X10_11 mt_X8_init (c_Value (fs := []) (G := gN (im, ad, mc) 902 q88 (.inl (8, [.int 0, .int 0, .null, .null, .int 0, .int 0]))) (kind := nI kd) (num := fn) (kr := none) (pr := none) (xs := []) rfl rfl rfl (by decide)) (fun _ _ h => h) dX10_set_107 rfl rfl (by first | (dsimp only [mX10_set, gM.dp, gM.kc, gM.ks]; omega) | exact Nat.le_of_ble_eq_true rfl | exact Nat.le_refl _ | omega) (by decide) (by first | omega | (dsimp only [mX10_set, gM.dp, gM.kc, gM.ks]; omega)) (by first | omega | (dsimp only [mX10_set, gM.dp, gM.kc, gM.ks]; omega)) (by first | exact Nat.le_of_ble_eq_true rfl | (simp [va_rf_cat]; done) | (simp [va_rf_cat, Value.category]; done)) (fun v107 G107 hq => ?_)
      obtain ⟨rfl, rfl⟩ := hq
      refine GW.made (im := im) (ad := (gN (im, ad, mc) 902 q88 (.inl (8, [.int 0, .int 0, .null, .null, .int 0, .int 0]))).2.1) (mc := (gS (gN (im, ad, mc) 902 q88 (.inl (8, [.int 0, .int 0, .null, .null, .int 0, .int 0]))) 902 _).2.2) (ad0 := ad) (mc0 := mc) (kind := nI kd) (num := fn) (kr := none) (pr := none) (xs := []) (a := q88) f9 (fun q _ _ e => by simp [gS, gN, e]) (fun q _ _ e => by simp [gN, e]) rfl (Or.inr rfl) rfl rfl fun im' hle hnew => ?_
      rw [hfn] at hnew
      exact at112 im' q88 _ hle hnew (fun z hz => by cases hz; show ¬ ((1 : Nat) = 2); decide)
    refine GW.if_eq (tgt := 102) dX10_set_95 (by decide) (fun h95 => ?_) (fun h95 => ?_)
    · refine GW.sipush (v := -10000) dX10_set_102 (by decide) ?_
      have hno : ¬ (kd = 1 ∨ kd = 2) := by
        rcases hh5 with q | q
        · rw [q.1] at h95; exact absurd h95 (by decide)
        · exact q.2
      exact at105 _ (if_neg hno).symm
    · have hyes : kd = 1 ∨ kd = 2 := by
        rcases hh5 with q | q
        · exact q.2
        · exact absurd q.1 h95
      refine GW.iload2 dX10_set_98 ?_
      refine GW.goto (tgt := 105) dX10_set_99 (by decide) ?_
      exact at105 _ (if_pos hyes).symm
  have at46 : GW (mX10_set 5 16 206) Q noX (im, ad, mc) 0 0 46 [some (.ref (ad 0)), some (.int (nI kd)), some (.int (nI nb)), none, none, none, none, none, none, none, none, none] [] := by
    refine GW.iconst (v := 0) dX10_set_46 (by decide) ?_
    refine GW.istore3 dX10_set_47 (g := ?_)
    refine GW.iload3 dX10_set_48 ?_
    refine GW.if_eq (tgt := 62) dX10_set_49 (by decide) (fun h49 => ?_) (fun h49 => ?_)
    · refine GW.aload0 dX10_set_62 (g := ?_)
      refine GW.callV cv_X10_97 mt_X10_pointed (c_pointed (G := (im, ad, mc)) a1 a3 a4 a5 hd.sml) dX10_set_63 (by first | assumption | exact isV.gl (by assumption) | exact tbAt.gl (by assumption)) rfl rfl rfl rfl (by first | (dsimp only [mX10_set, gM.dp, gM.kc, gM.ks]; omega) | exact Nat.le_of_ble_eq_true rfl | exact Nat.le_refl _ | omega) (by decide) (by first | omega | (dsimp only [mX10_set, gM.dp, gM.kc, gM.ks]; omega)) (by first | omega | (dsimp only [mX10_set, gM.dp, gM.kc, gM.ks]; omega)) (by first | exact Nat.le_of_ble_eq_true rfl | (simp [va_rf_cat]; done) | (simp [va_rf_cat, Value.category]; done)) rfl (fun _ _ h => h.elim) (fun v63 G63 hq => ?_)
      obtain ⟨a, rfl, rfl, hv⟩ := hq
      obtain ⟨kr, pq, hnd, -, -⟩ := hv.node
      have hnd : gL (im, ad, mc) a (.inl (8, _)) := Or.inl hnd
      refine GW.getf fl_X10_145 dX10_set_66 (by assumption) (by rfl) ?_
      refine GW.istore4 dX10_set_69 (g := ?_)
      refine GW.iload1 dX10_set_71 ?_
      refine GW.iconst (v := 1) dX10_set_72 (by decide) ?_
      refine GW.icmp_eq (tgt := 81) dX10_set_73 (by decide) (fun h73 => ?_) (fun h73 => ?_)
      · refine GW.iconst (v := 1) dX10_set_81 (by decide) ?_
        refine GW.goto (tgt := 86) dX10_set_82 (by decide) ?_
        refine GW.istore5 dX10_set_86 (g := ?_)
        exact at88 1 (Or.inl ⟨rfl, Or.inl ((mI_eq (b := 1) (by omega) (by omega)).mp h73)⟩)
      · refine GW.iload1 dX10_set_76 ?_
        refine GW.iconst (v := 2) dX10_set_77 (by decide) ?_
        refine GW.icmp_ne (tgt := 85) dX10_set_78 (by decide) (fun h78 => ?_) (fun h78 => ?_)
        · refine GW.iconst (v := 0) dX10_set_85 (by decide) ?_
          refine GW.istore5 dX10_set_86 (g := ?_)
          refine at88 0 (Or.inr ⟨rfl, fun q => ?_⟩)
          rcases q with q | q
          · exact h73 (by rw [q]; rfl)
          · exact h78 (by rw [q]; rfl)
        · refine GW.iconst (v := 1) dX10_set_81 (by decide) ?_
          refine GW.goto (tgt := 86) dX10_set_82 (by decide) ?_
          refine GW.istore5 dX10_set_86 (g := ?_)
          exact at88 1 (Or.inl ⟨rfl, Or.inr ((mI_eq (b := 2) (by omega) (by omega)).mp h78)⟩)
    · exact absurd rfl h49
  have nb2 : nb = 0 ∨ nb = 1 := by omega
  have at23 : GW (mX10_set 5 16 206) Q noX (im, ad, mc) 0 0 23 [some (.ref (ad 0)), some (.int (nI kd)), some (.int (nI nb)), none, none, none, none, none, none, none, none, none] [] := by
    refine GW.iload1 dX10_set_23 ?_
    refine GW.iconst (v := 2) dX10_set_24 (by decide) ?_
    refine GW.icmp_ne (tgt := 46) dX10_set_25 (by decide) (fun h25 => ?_) (fun h25 => ?_)
    · exact at46
    · refine GW.iload2 dX10_set_28 ?_
      refine GW.sipush (v := -9999) dX10_set_29 (by decide) ?_
      refine GW.icmp_lt (tgt := 42) dX10_set_32 (by decide) (fun h32 => ?_) (fun h32 => ?_)
      · rcases nb2 with rfl | rfl <;> exact absurd h32 (by decide)
      · refine GW.iload2 dX10_set_35 ?_
        refine GW.sipush (v := 9999) dX10_set_36 (by decide) ?_
        refine GW.icmp_le (tgt := 46) dX10_set_39 (by decide) (fun h39 => ?_) (fun h39 => ?_)
        · exact at46
        · rcases nb2 with rfl | rfl <;> exact absurd (by decide) h39
  refine GW.iload1 dX10_set_0 ?_
  refine GW.if_lt (tgt := 42) dX10_set_1 (by decide) (fun h1 => ?_) (fun h1 => ?_)
  · exact absurd h1 (mI_nonneg (by omega))
  · refine GW.iload1 dX10_set_4 ?_
    refine GW.iconst (v := 4) dX10_set_5 (by decide) ?_
    refine GW.icmp_gt (tgt := 42) dX10_set_6 (by decide) (fun h6 => ?_) (fun h6 => ?_)
    · exact absurd ((mI_lt (a := 4) (by omega) (by omega)).mp h6) (by omega)
    · refine GW.iload1 dX10_set_9 ?_
      refine GW.iconst (v := 1) dX10_set_10 (by decide) ?_
      refine GW.icmp_ne (tgt := 23) dX10_set_11 (by decide) (fun h11 => ?_) (fun h11 => ?_)
      · exact at23
      · refine GW.iload2 dX10_set_14 ?_
        refine GW.if_lt (tgt := 42) dX10_set_15 (by decide) (fun h15 => ?_) (fun h15 => ?_)
        · exact absurd h15 (mI_nonneg (by omega))
        · refine GW.iload2 dX10_set_18 ?_
          refine GW.iconst (v := 1) dX10_set_19 (by decide) ?_
          refine GW.icmp_gt (tgt := 42) dX10_set_20 (by decide) (fun h20 => ?_) (fun h20 => ?_)
          · exact absurd ((mI_lt (a := 1) (by omega) (by omega)).mp h20) (by omega)
          · exact at23
abbrev mX10_forget (d kc ks : Nat) : gM := (RX10, cX10_forget, 1, (some .int), [], "forget", d, kc, ks)
abbrev kX10_forget (d kc ks : Nat) (as : List Value) (G : gG) (Q : Option Value → gG → Prop) (X : String → gG → Prop) : Prop := Ctr yX10_forget cX10_forget 1 (some .int) d kc ks as G Q X
theorem oX10_forget {d kc ks : Nat} {as : List Value} {G : gG} {Q : Option Value → gG → Prop} {X : String → gG → Prop} {L : List (Option Value)} (hL : gEnt as = L) (hlen : (lg_sl as).length ≤ 1) (g : GW (mX10_forget d kc ks) Q X G 0 0 0 L []) : kX10_forget d kc ks as G Q X := Ctr.of (by decide +kernel) rfl rfl hL hlen g
theorem c_forget (hS : St G.1 G.2.1 G.2.2 ds cl at_ ss ps qs) :
    kX10_forget 6 1 6 [.ref (G.2.1 0)] G (fun v G' => (∃ w, v = some (.int w)) ∧ 0 < ps.length ∧ ∃ mc', (G.1, G.2.1, mc') = G' ∧ St G.1 G.2.1 mc' ds cl at_ ss (ps.take (ps.length - 1)) qs) (fun E G' => ps = [] ∧ E = xS ∧ G = G') := by
  obtain ⟨im, ad, mc⟩ := G
  obtain ⟨⟨⟨cla, a1, a2⟩, a3, a4, a5⟩, ⟨b1, b2, b3, b4⟩, ⟨c1, c2, c3⟩, ⟨d1, d2, d3, d4⟩, f9⟩ := id hS
  have a1 : mc 0 = some (.inl (10, [.ref (ad 1), .ref cla, .ref (ad 2), .ref (ad 4), .ref (ad 7), .int (nI ps.length), .ref (ad 8), .ref (ad 9), .ref (ad 13), .int 0, .ref (ad 19), .ref (ad 21), .int (nI qs.length), .ref (ad 14)])) := a1
  have l0 : gL (im, ad, mc) (ad 0) (.inl (10, _)) := Or.inr ⟨0, rfl, a1⟩
  refine oX10_forget (L := [some (.ref (ad 0)), none, none, none, none, none, none, none, none, none, none, none]) rfl (Nat.le_of_ble_eq_true rfl) ?_
  refine GW.aload0 dX10_forget_0 (g := ?_)
  refine GW.getf fl_X10_220 dX10_forget_1 (by assumption) (by rfl) ?_
  refine GW.if_ne (tgt := 17) dX10_forget_4 (by decide) (fun h4 => ?_) (fun h4 => ?_)
  · have h4 : 0 < ps.length := by
      rcases Nat.eq_zero_or_pos ps.length with q | q
      · rw [q] at h4; exact absurd rfl h4
      · exact q
    refine GW.aload0 dX10_forget_17 (g := ?_)
    refine GW.dup dX10_forget_18 (hv := by first | rfl | exact va_rf_cat _) (g := ?_)
    refine GW.getf fl_X10_220 dX10_forget_19 (by assumption) (by rfl) ?_
    refine GW.iconst (v := 1) dX10_forget_22 (by decide) ?_
    refine GW.isub dX10_forget_23 ?_
    rw [mI_pred h4]
    refine GW.putf (r := 0) fl_X10_220 dX10_forget_24 (by first | rfl | assumption) (Nat.le_of_ble_eq_true rfl) (by first | exact ⟨rfl, rfl⟩ | exact fitq _ _ rfl) (by first | exact Or.inl rfl | exact Or.inr ⟨rfl, rfl⟩) (by first | rfl | assumption) ?_
    obtain ⟨mc1, hm1⟩ : ∃ mc1, mc1 = (fun q => if q = 0 then some (Sum.inl (10, [.ref (ad 1), .ref cla, .ref (ad 2), .ref (ad 4), .ref (ad 7), .int (nI (ps.length - 1)), .ref (ad 8), .ref (ad 9), .ref (ad 13), .int 0, .ref (ad 19), .ref (ad 21), .int (nI qs.length), .ref (ad 14)])) else mc q : Nat → Option gC) := ⟨_, rfl⟩
    rw [show gS (im, ad, mc) 0 (.inl (10, [.ref (ad 1), .ref cla, .ref (ad 2), .ref (ad 4), .ref (ad 7), .int (nI ps.length), .ref (ad 8), .ref (ad 9), .ref (ad 13), .int 0, .ref (ad 19), .ref (ad 21), .int (nI qs.length), .ref (ad 14)].set 5 (.int (nI (ps.length - 1))))) = (im, ad, mc1) from by rw [hm1]; rfl]
    have k0 : msAt ad mc1 cla (ps.length - 1) qs.length := by rw [hm1]; rfl
    have ko : ∀ q, q ≠ 0 → mc1 q = mc q := fun q hq => by rw [hm1]; exact if_neg hq
    have l0 : gL (im, ad, mc1) (ad 0) (.inl (10, _)) := Or.inr ⟨0, rfl, k0⟩
    have hlen : (ps.take (ps.length - 1)).length = ps.length - 1 := by rw [List.length_take]; omega
    refine GW.aload0 dX10_forget_27 (g := ?_)
    refine GW.getf fl_X10_220 dX10_forget_28 (by assumption) (by rfl) ?_
    refine GW.ireturn dX10_forget_31 (Or.inl rfl) (by first | (dsimp only [mX10_forget, gM.dp, gM.kc, gM.ks]; omega) | exact Nat.le_of_ble_eq_true rfl | exact Nat.le_refl _ | omega) (by first | (dsimp only [mX10_forget, gM.dp, gM.kc, gM.ks]; omega) | exact Nat.le_of_ble_eq_true rfl | exact Nat.le_refl _ | omega) ?_
    refine ⟨⟨_, rfl⟩, h4, mc1, rfl, hS.pat (gLe.rf _) (fun q h0 _ => ko q h0) (by rw [hlen]; exact k0) a2 (by rw [hlen]; exact Nat.le_trans (Nat.sub_le _ _) b2) (fun i hi => ?_) fun i os h => ?_⟩
    · obtain ⟨os, h⟩ := b3 i hi
      exact ⟨os, h.mono (gLe.rf _) (ko _ (by omega)) (ko _ (by omega))⟩
    · have h : ps[i]? = some os := by
        rw [List.getElem?_take] at h
        split at h
        · exact h
        · cases h
      exact (b4 i os h).mono (gLe.rf _) (ko _ (by omega)) (ko _ (by omega))
  · have h4 : ps = [] := by
      have b2 : ps.length ≤ 8 := b2
      exact List.eq_nil_of_length_eq_zero ((mI_eq (b := 0) (by omega) (by omega)).mp h4)
    exact GW.throwL (cls := xS) (text := "there is no patch") rfl (by decide +kernel) kS nSx exS (by decide) dX10_forget_7 dX10_forget_10 dX10_forget_11 dX10_forget_13 dX10_forget_16 rfl (Nat.le_refl _) (Nat.le_refl _) (Nat.le_refl _) (Nat.le_of_ble_eq_true rfl) ⟨h4, rfl, rfl⟩
end CH
