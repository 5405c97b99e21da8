/-! MARLSTORE: public methods that change: point, into, up, copy, insert, drop, set, forget -/
section CH
variable {G : gG} {ds : Nat → Tr} {cl : Tr} {at_ : Nat} {ss : List Int32} {ps : List (List OpT)} {qs : List (List (Int32 × Int32))}
abbrev mX10_point (d kc ks : Nat) : gM := (RX10, cX10_point, 3, (some .int), [], "point", d, kc, ks)
abbrev kX10_point (d kc ks : Nat) (as : List Value) (G : gG) (Q : Option Value → gG → Prop) (X : String → gG → Prop) : Prop := Ctr yX10_point cX10_point 3 (some .int) d kc ks as G Q X
theorem oX10_point {d kc ks : Nat} {as : List Value} {G : gG} {Q : Option Value → gG → Prop} {X : String → gG → Prop} {L : List (Option Value)} (hL : gEnt as = L) (hlen : (lg_sl as).length ≤ 3) (g : GW (mX10_point d kc ks) Q X G 0 0 0 L []) : kX10_point d kc ks as G Q X := Ctr.of (by decide +kernel) rfl rfl hL hlen g
theorem c_point {d : Nat} (hS : St G.1 G.2.1 G.2.2 ds cl at_ ss ps qs) (hd : d < 6) :
    kX10_point 1 0 0 [.ref (G.2.1 0), .int (nI d)] G (fun v G' => (∃ w, v = some (.int w)) ∧ ∃ mc', (G.1, G.2.1, mc') = G' ∧ St G.1 G.2.1 mc' ds cl d [] ps qs) noX := by
  obtain ⟨im, ad, mc⟩ := G
  obtain ⟨⟨⟨cla, a1, a2⟩, a3, a4, a5⟩, ⟨b1, b2, b3, b4⟩, ⟨c1, c2, c3⟩, ⟨d1, d2, d3, d4⟩, f9⟩ := id hS
  have l0 : gL (im, ad, mc) (ad 0) (.inl (10, _)) := Or.inr ⟨0, rfl, a1⟩
  have l2 : gL (im, ad, mc) (ad 2) (.inl (5, _)) := Or.inr ⟨2, rfl, a4.2.1⟩
  refine oX10_point (L := [some (.ref (ad 0)), some (.int (nI d)), none, none, none, none, none, none, none, none, none, none]) rfl (Nat.le_of_ble_eq_true rfl) ?_
  refine GW.aload0 dX10_point_0 (g := ?_)
  refine GW.iload1 dX10_point_1 ?_
  refine GW.callV0 cv_X10_85 mt_X10_wholeOf (c_wholeOf (G := (im, ad, mc)) a1 a3 hd) dX10_point_2 (by assumption) rfl rfl rfl rfl (by first | (dsimp only [mX10_point, gM.dp, gM.kc, gM.ks]; omega) | exact Nat.le_of_ble_eq_true rfl | exact Nat.le_refl _ | omega) (by decide) (by first | (dsimp only [mX10_point, gM.dp, gM.kc, gM.ks]; omega) | exact Nat.le_of_ble_eq_true rfl | exact Nat.le_refl _ | omega) (by first | (dsimp only [mX10_point, gM.dp, gM.kc, gM.ks]; omega) | exact Nat.le_of_ble_eq_true rfl | exact Nat.le_refl _ | omega) (by first | exact Nat.le_of_ble_eq_true rfl | (simp [va_rf_cat]; done) | (simp [va_rf_cat, Value.category]; done)) rfl (fun _ _ h => h.elim) (fun v2 G2 hq => ?_)
  obtain ⟨a, rfl, rfl, hv⟩ := hq
  refine GW.astore2 dX10_point_5 (g := ?_)
  refine GW.aload0 dX10_point_6 (g := ?_)
  refine GW.getf fl_X10_25 dX10_point_7 (by assumption) (by rfl) ?_
  refine GW.iload1 dX10_point_10 ?_
  refine GW.callV0 cv_X10_89 mt_X5_goToWhole (c_goToWhole (G := (im, ad, mc)) (d := d) a4) dX10_point_11 (by assumption) rfl rfl rfl rfl (by first | (dsimp only [mX10_point, gM.dp, gM.kc, gM.ks]; omega) | exact Nat.le_of_ble_eq_true rfl | exact Nat.le_refl _ | omega) (by decide) (by first | (dsimp only [mX10_point, gM.dp, gM.kc, gM.ks]; omega) | exact Nat.le_of_ble_eq_true rfl | exact Nat.le_refl _ | omega) (by first | (dsimp only [mX10_point, gM.dp, gM.kc, gM.ks]; omega) | exact Nat.le_of_ble_eq_true rfl | exact Nat.le_refl _ | omega) (by first | exact Nat.le_of_ble_eq_true rfl | (simp [va_rf_cat]; done) | (simp [va_rf_cat, Value.category]; done)) rfl (fun _ _ h => h.elim) (fun v11 G11 hq => ?_)
  obtain ⟨rfl, mc', rfl, ho, hp⟩ := hq
  obtain ⟨kr, pq, hnd, -, -⟩ := hv.node
  have hnd : gL (im, ad, mc') a (.inl (8, _)) := Or.inl hnd
  refine GW.aload2 dX10_point_14 (g := ?_)
  refine GW.getf fl_X10_93 dX10_point_15 (by assumption) (by rfl) ?_
  refine GW.ireturn dX10_point_18 (Or.inl rfl) (by first | (dsimp only [mX10_point, gM.dp, gM.kc, gM.ks]; omega) | exact Nat.le_of_ble_eq_true rfl | exact Nat.le_refl _ | omega) (by first | (dsimp only [mX10_point, gM.dp, gM.kc, gM.ks]; omega) | exact Nat.le_of_ble_eq_true rfl | exact Nat.le_refl _ | omega) ?_
  exact ⟨⟨_, rfl⟩, mc', rfl, hS.doc (fun q _ h2 _ => ho q h2) (a3.mono (gLe.rf _) (ho 1 (by decide))) hp hd⟩
abbrev mX10_into (d kc ks : Nat) : gM := (RX10, cX10_into, 4, (some .int), [], "into", d, kc, ks)
abbrev kX10_into (d kc ks : Nat) (as : List Value) (G : gG) (Q : Option Value → gG → Prop) (X : String → gG → Prop) : Prop := Ctr yX10_into cX10_into 4 (some .int) d kc ks as G Q X
theorem oX10_into {d kc ks : Nat} {as : List Value} {G : gG} {Q : Option Value → gG → Prop} {X : String → gG → Prop} {L : List (Option Value)} (hL : gEnt as = L) (hlen : (lg_sl as).length ≤ 4) (g : GW (mX10_into d kc ks) Q X G 0 0 0 L []) : kX10_into d kc ks as G Q X := Ctr.of (by decide +kernel) rfl rfl hL hlen g
theorem c_into {s : Int32} {c : Tr} (hS : St G.1 G.2.1 G.2.2 ds cl at_ ss ps qs) (hs : sml (ds at_)) (hp : sml (pT (ds at_) ss)) (hc : stp (pT (ds at_) ss) s = some c) (hl : ss.length < 6) :
    kX10_into 3 0 0 [.ref (G.2.1 0), .int s] G (fun v G' => v = some (.int c.1) ∧ ∃ mc', (G.1, G.2.1, mc') = G' ∧ St G.1 G.2.1 mc' ds cl at_ (ss ++ [s]) ps qs) noX := by
  obtain ⟨im, ad, mc⟩ := G
  obtain ⟨⟨⟨cla, a1, a2⟩, a3, a4, a5⟩, ⟨b1, b2, b3, b4⟩, ⟨c1, c2, c3⟩, ⟨d1, d2, d3, d4⟩, f9⟩ := id hS
  have l0 : gL (im, ad, mc) (ad 0) (.inl (10, _)) := Or.inr ⟨0, rfl, a1⟩
  have l2 : gL (im, ad, mc) (ad 2) (.inl (5, _)) := Or.inr ⟨2, rfl, a4.2.1⟩
  refine oX10_into (L := [some (.ref (ad 0)), some (.int s), none, none, none, none, none, none, none, none, none, none]) rfl (Nat.le_of_ble_eq_true rfl) ?_
  refine GW.aload0 dX10_into_0 (g := ?_)
  refine GW.callV0 cv_X10_97 mt_X10_pointed (c_pointed (G := (im, ad, mc)) a1 a3 a4 a5 hs) dX10_into_1 (by assumption) rfl rfl rfl rfl (by first | (dsimp only [mX10_into, gM.dp, gM.kc, gM.ks]; omega) | exact Nat.le_of_ble_eq_true rfl | exact Nat.le_refl _ | omega) (by decide) (by first | (dsimp only [mX10_into, gM.dp, gM.kc, gM.ks]; omega) | exact Nat.le_of_ble_eq_true rfl | exact Nat.le_refl _ | omega) (by first | (dsimp only [mX10_into, gM.dp, gM.kc, gM.ks]; omega) | exact Nat.le_of_ble_eq_true rfl | exact Nat.le_refl _ | omega) (by first | exact Nat.le_of_ble_eq_true rfl | (simp [va_rf_cat]; done) | (simp [va_rf_cat, Value.category]; done)) rfl (fun _ _ h => h.elim) (fun v1 G1 hq => ?_)
  obtain ⟨a, rfl, rfl, hv⟩ := hq
  obtain ⟨kr, pq, hnd, -, -⟩ := hv.node
  have hnd : gL (im, ad, mc) a (.inl (8, _)) := Or.inl hnd
  refine GW.astore2 dX10_into_4 (g := ?_)
  refine GW.aload2 dX10_into_5 (g := ?_)
  refine GW.aload2 dX10_into_6 (g := ?_)
  refine GW.iload1 dX10_into_7 ?_
  refine GW.callV0 cv_X10_101 mt_X8_placeOf (c_placeOf (G := (im, ad, mc)) hv hp s) dX10_into_8 (by assumption) rfl rfl rfl rfl (by first | (dsimp only [mX10_into, gM.dp, gM.kc, gM.ks]; omega) | exact Nat.le_of_ble_eq_true rfl | exact Nat.le_refl _ | omega) (by decide) (by first | (dsimp only [mX10_into, gM.dp, gM.kc, gM.ks]; omega) | exact Nat.le_of_ble_eq_true rfl | exact Nat.le_refl _ | omega) (by first | (dsimp only [mX10_into, gM.dp, gM.kc, gM.ks]; omega) | exact Nat.le_of_ble_eq_true rfl | exact Nat.le_refl _ | omega) (by first | exact Nat.le_of_ble_eq_true rfl | (simp [va_rf_cat]; done) | (simp [va_rf_cat, Value.category]; done)) rfl (fun _ _ h => h.elim) (fun v8 G8 hq => ?_)
  obtain ⟨z, rfl, rfl, rfl⟩ := hq
  refine GW.callV0 cv_X10_105 mt_X8_partAt (c_partAt (G := (im, ad, mc)) hv hp (oI (placeT (pT (ds at_) ss) s))) dX10_into_11 (by assumption) rfl rfl rfl rfl (by first | (dsimp only [mX10_into, gM.dp, gM.kc, gM.ks]; omega) | exact Nat.le_of_ble_eq_true rfl | exact Nat.le_refl _ | omega) (by decide) (by first | (dsimp only [mX10_into, gM.dp, gM.kc, gM.ks]; omega) | exact Nat.le_of_ble_eq_true rfl | exact Nat.le_refl _ | omega) (by first | (dsimp only [mX10_into, gM.dp, gM.kc, gM.ks]; omega) | exact Nat.le_of_ble_eq_true rfl | exact Nat.le_refl _ | omega) (by first | exact Nat.le_of_ble_eq_true rfl | (simp [va_rf_cat]; done) | (simp [va_rf_cat, Value.category]; done)) rfl (fun _ _ h => h.elim) (fun v11 G11 hq => ?_)
  obtain ⟨r, rfl, rfl, hr⟩ := hq
  rw [partT_placeT hp, hc] at hr
  cases r with
  | none => exact hr.elim
  | some b =>
    have hr : isV im b c := hr
    refine GW.astore3 dX10_into_14 (g := ?_)
    refine GW.aload3 dX10_into_15 (g := ?_)
    refine GW.ifnull (tgt := 30) dX10_into_16 (by decide) (fun h16 => ?_) (fun r16 h16 => ?_)
    · cases h16
    · cases h16
      refine GW.aload0 dX10_into_19 (g := ?_)
      refine GW.getf fl_X10_25 dX10_into_20 (by assumption) (by rfl) ?_
      refine GW.iload1 dX10_into_23 ?_
      refine GW.callV0 cv_X10_108 mt_X5_goDown (c_goDown (G := (im, ad, mc)) (s := s) a4 hl) dX10_into_24 (by assumption) rfl rfl rfl rfl (by first | (dsimp only [mX10_into, gM.dp, gM.kc, gM.ks]; omega) | exact Nat.le_of_ble_eq_true rfl | exact Nat.le_refl _ | omega) (by decide) (by first | (dsimp only [mX10_into, gM.dp, gM.kc, gM.ks]; omega) | exact Nat.le_of_ble_eq_true rfl | exact Nat.le_refl _ | omega) (by first | (dsimp only [mX10_into, gM.dp, gM.kc, gM.ks]; omega) | exact Nat.le_of_ble_eq_true rfl | exact Nat.le_refl _ | omega) (by first | exact Nat.le_of_ble_eq_true rfl | (simp [va_rf_cat]; done) | (simp [va_rf_cat, Value.category]; done)) rfl (fun _ _ h => h.elim) (fun v24 G24 hq => ?_)
      obtain ⟨rfl, mc', rfl, ho, hpt⟩ := hq
      refine GW.if_ne (tgt := 40) dX10_into_27 (by decide) (fun h27 => ?_) (fun h27 => ?_)
      · obtain ⟨kr2, pq2, hnd2, -, -⟩ := hr.node
        have hnd2 : gL (im, ad, mc') b (.inl (8, _)) := Or.inl hnd2
        refine GW.aload3 dX10_into_40 (g := ?_)
        refine GW.getf fl_X10_93 dX10_into_41 (by assumption) (by rfl) ?_
        refine GW.ireturn dX10_into_44 (Or.inl rfl) (by first | (dsimp only [mX10_into, gM.dp, gM.kc, gM.ks]; omega) | exact Nat.le_of_ble_eq_true rfl | exact Nat.le_refl _ | omega) (by first | (dsimp only [mX10_into, gM.dp, gM.kc, gM.ks]; omega) | exact Nat.le_of_ble_eq_true rfl | exact Nat.le_refl _ | omega) ?_
        exact ⟨rfl, mc', rfl, hS.doc (fun q _ h2 h3 => ho q h2 h3) (a3.mono (gLe.rf _) (ho 1 (by decide) (by decide))) hpt a5⟩
      · exact absurd h27 (by decide)
abbrev mX10_up (d kc ks : Nat) : gM := (RX10, cX10_up, 1, (some .int), [], "up", d, kc, ks)
abbrev kX10_up (d kc ks : Nat) (as : List Value) (G : gG) (Q : Option Value → gG → Prop) (X : String → gG → Prop) : Prop := Ctr yX10_up cX10_up 1 (some .int) d kc ks as G Q X
theorem oX10_up {d kc ks : Nat} {as : List Value} {G : gG} {Q : Option Value → gG → Prop} {X : String → gG → Prop} {L : List (Option Value)} (hL : gEnt as = L) (hlen : (lg_sl as).length ≤ 1) (g : GW (mX10_up d kc ks) Q X G 0 0 0 L []) : kX10_up d kc ks as G Q X := Ctr.of (by decide +kernel) rfl rfl hL hlen g
theorem c_up (hS : St G.1 G.2.1 G.2.2 ds cl at_ ss ps qs) :
    kX10_up 6 1 6 [.ref (G.2.1 0)] G (fun v G' => (∃ w, v = some (.int w)) ∧ ∃ mc', (G.1, G.2.1, mc') = G' ∧ St G.1 G.2.1 mc' ds cl at_ (ss.take (ss.length - 1)) ps qs) (fun E G' => E = xS ∧ G = G') := by
  obtain ⟨im, ad, mc⟩ := G
  obtain ⟨⟨⟨cla, a1, a2⟩, a3, a4, a5⟩, ⟨b1, b2, b3, b4⟩, ⟨c1, c2, c3⟩, ⟨d1, d2, d3, d4⟩, f9⟩ := id hS
  have l0 : gL (im, ad, mc) (ad 0) (.inl (10, _)) := Or.inr ⟨0, rfl, a1⟩
  have l2 : gL (im, ad, mc) (ad 2) (.inl (5, _)) := Or.inr ⟨2, rfl, a4.2.1⟩
  refine oX10_up (L := [some (.ref (ad 0)), none, none, none, none, none, none, none, none, none, none, none]) rfl (Nat.le_of_ble_eq_true rfl) ?_
  refine GW.aload0 dX10_up_0 (g := ?_)
  refine GW.getf fl_X10_25 dX10_up_1 (by assumption) (by rfl) ?_
  refine GW.callV cv_X10_119 mt_X5_goUp (c_goUp (G := (im, ad, mc)) a4) dX10_up_4 (by assumption) rfl rfl rfl rfl (by first | (dsimp only [mX10_up, gM.dp, gM.kc, gM.ks]; omega) | exact Nat.le_of_ble_eq_true rfl | exact Nat.le_refl _ | omega) (by decide) (by first | omega | (dsimp only [mX10_up, gM.dp, gM.kc, gM.ks]; omega)) (by first | omega | (dsimp only [mX10_up, gM.dp, gM.kc, gM.ks]; omega)) (by first | exact Nat.le_of_ble_eq_true rfl | (simp [va_rf_cat]; done) | (simp [va_rf_cat, Value.category]; done)) rfl (fun _ _ h => h.elim) (fun v4 G4 hq => ?_)
  rcases hq with ⟨-, rfl, rfl⟩ | ⟨-, rfl, mc', rfl, ho, hpt⟩
  · refine GW.if_ne (tgt := 20) dX10_up_7 (by decide) (fun h7 => ?_) (fun h7 => ?_)
    · exact absurd rfl h7
    · exact GW.throwL (cls := xS) (text := "the path has no steps") rfl (by decide +kernel) kS nSx exS (by decide) dX10_up_10 dX10_up_13 dX10_up_14 dX10_up_16 dX10_up_19 rfl (Nat.le_refl _) (Nat.le_refl _) (Nat.le_refl _) (Nat.le_of_ble_eq_true rfl) ⟨rfl, rfl⟩
  · have l0 : gL (im, ad, mc') (ad 0) (.inl (10, _)) := Or.inr ⟨0, rfl, (ho 0 (by decide)).trans a1⟩
    have l2 : gL (im, ad, mc') (ad 2) (.inl (5, _)) := Or.inr ⟨2, rfl, hpt.2.1⟩
    refine GW.if_ne (tgt := 20) dX10_up_7 (by decide) (fun h7 => ?_) (fun h7 => ?_)
    · refine GW.aload0 dX10_up_20 (g := ?_)
      refine GW.getf fl_X10_25 dX10_up_21 (by assumption) (by rfl) ?_
      refine GW.getf fl_X10_128 dX10_up_24 (by assumption) (by rfl) ?_
      refine GW.ireturn dX10_up_27 (Or.inl rfl) (by first | (dsimp only [mX10_up, gM.dp, gM.kc, gM.ks]; omega) | exact Nat.le_of_ble_eq_true rfl | exact Nat.le_refl _ | omega) (by first | (dsimp only [mX10_up, gM.dp, gM.kc, gM.ks]; omega) | exact Nat.le_of_ble_eq_true rfl | exact Nat.le_refl _ | omega) ?_
      exact ⟨⟨_, rfl⟩, mc', rfl, hS.doc (fun q _ h2 _ => ho q h2) (a3.mono (gLe.rf _) (ho 1 (by decide))) hpt a5⟩
    · exact absurd h7 (by decide)
abbrev mX10_copy (d kc ks : Nat) : gM := (RX10, cX10_copy, 1, (some .int), [], "copy", d, kc, ks)
abbrev kX10_copy (d kc ks : Nat) (as : List Value) (G : gG) (Q : Option Value → gG → Prop) (X : String → gG → Prop) : Prop := Ctr yX10_copy cX10_copy 1 (some .int) d kc ks as G Q X
theorem oX10_copy {d kc ks : Nat} {as : List Value} {G : gG} {Q : Option Value → gG → Prop} {X : String → gG → Prop} {L : List (Option Value)} (hL : gEnt as = L) (hlen : (lg_sl as).length ≤ 1) (g : GW (mX10_copy d kc ks) Q X G 0 0 0 L []) : kX10_copy d kc ks as G Q X := Ctr.of (by decide +kernel) rfl rfl hL hlen g
theorem c_copy (hS : St G.1 G.2.1 G.2.2 ds cl at_ ss ps qs) (hs : sml (ds at_)) :
    kX10_copy 3 0 0 [.ref (G.2.1 0)] G (fun v G' => (∃ w, v = some (.int w)) ∧ ∃ mc', (G.1, G.2.1, mc') = G' ∧ St G.1 G.2.1 mc' ds (pT (ds at_) ss) at_ ss ps qs) noX := by
  obtain ⟨im, ad, mc⟩ := G
  obtain ⟨⟨⟨cla, a1, a2⟩, a3, a4, a5⟩, ⟨b1, b2, b3, b4⟩, ⟨c1, c2, c3⟩, ⟨d1, d2, d3, d4⟩, f9⟩ := id hS
  have a1 : mc 0 = some (.inl (10, [.ref (ad 1), .ref cla, .ref (ad 2), .ref (ad 4), .ref (ad 7), .int (nI ps.length), .ref (ad 8), .ref (ad 9), .ref (ad 13), .int 0, .ref (ad 19), .ref (ad 21), .int (nI qs.length), .ref (ad 14)])) := a1
  have l0 : gL (im, ad, mc) (ad 0) (.inl (10, _)) := Or.inr ⟨0, rfl, a1⟩
  refine oX10_copy (L := [some (.ref (ad 0)), none, none, none, none, none, none, none, none, none, none, none]) rfl (Nat.le_of_ble_eq_true rfl) ?_
  refine GW.aload0 dX10_copy_0 (g := ?_)
  refine GW.aload0 dX10_copy_1 (g := ?_)
  refine GW.callV0 cv_X10_97 mt_X10_pointed (c_pointed (G := (im, ad, mc)) a1 a3 a4 a5 hs) dX10_copy_2 (by assumption) rfl rfl rfl rfl (by first | (dsimp only [mX10_copy, gM.dp, gM.kc, gM.ks]; omega) | exact Nat.le_of_ble_eq_true rfl | exact Nat.le_refl _ | omega) (by decide) (by first | (dsimp only [mX10_copy, gM.dp, gM.kc, gM.ks]; omega) | exact Nat.le_of_ble_eq_true rfl | exact Nat.le_refl _ | omega) (by first | (dsimp only [mX10_copy, gM.dp, gM.kc, gM.ks]; omega) | exact Nat.le_of_ble_eq_true rfl | exact Nat.le_refl _ | omega) (by first | exact Nat.le_of_ble_eq_true rfl | (simp [va_rf_cat]; done) | (simp [va_rf_cat, Value.category]; done)) rfl (fun _ _ h => h.elim) (fun v2 G2 hq => ?_)
  obtain ⟨a, rfl, rfl, hv⟩ := hq
  refine GW.putf (r := 0) fl_X10_18 dX10_copy_5 (by first | rfl | assumption) (Nat.le_of_ble_eq_true rfl) (by first | exact ⟨rfl, rfl⟩ | exact fitq _ _ rfl) (by first | exact Or.inl rfl | exact Or.inr ⟨rfl, rfl⟩) (by first | rfl | assumption) ?_
  obtain ⟨kr, pq, hnd, -, -⟩ := hv.node
  have hnd : ∀ mc', gL (im, ad, mc') a (.inl (8, _)) := fun _ => Or.inl hnd
  obtain ⟨mc1, hm1⟩ : ∃ mc1, mc1 = (fun q => if q = 0 then some (Sum.inl (10, [.ref (ad 1), .ref a, .ref (ad 2), .ref (ad 4), .ref (ad 7), .int (nI ps.length), .ref (ad 8), .ref (ad 9), .ref (ad 13), .int 0, .ref (ad 19), .ref (ad 21), .int (nI qs.length), .ref (ad 14)])) else mc q : Nat → Option gC) := ⟨_, rfl⟩
  rw [show gS (im, ad, mc) 0 (.inl (10, [.ref (ad 1), .ref cla, .ref (ad 2), .ref (ad 4), .ref (ad 7), .int (nI ps.length), .ref (ad 8), .ref (ad 9), .ref (ad 13), .int 0, .ref (ad 19), .ref (ad 21), .int (nI qs.length), .ref (ad 14)].set 1 (.ref a))) = (im, ad, mc1) from by rw [hm1]; rfl]
  have k0 : msAt ad mc1 a ps.length qs.length := by rw [hm1]; rfl
  have ko : ∀ q, q ≠ 0 → mc1 q = mc q := fun q hq => by rw [hm1]; exact if_neg hq
  have l0 : gL (im, ad, mc1) (ad 0) (.inl (10, _)) := Or.inr ⟨0, rfl, k0⟩
  have hnd := hnd mc1
  refine GW.aload0 dX10_copy_8 (g := ?_)
  refine GW.getf fl_X10_18 dX10_copy_9 (by assumption) (by rfl) ?_
  refine GW.getf fl_X10_145 dX10_copy_12 (by assumption) (by rfl) ?_
  refine GW.ireturn dX10_copy_15 (Or.inl rfl) (by first | (dsimp only [mX10_copy, gM.dp, gM.kc, gM.ks]; omega) | exact Nat.le_of_ble_eq_true rfl | exact Nat.le_refl _ | omega) (by first | (dsimp only [mX10_copy, gM.dp, gM.kc, gM.ks]; omega) | exact Nat.le_of_ble_eq_true rfl | exact Nat.le_refl _ | omega) ?_
  refine ⟨⟨_, rfl⟩, mc1, rfl, hS.pat (gLe.rf _) (fun q h0 _ => ko q h0) k0 hv b2 (fun i hi => ?_) fun i os h => (b4 i os h).mono (gLe.rf _) (ko _ (by omega)) (ko _ (by omega))⟩
  obtain ⟨os, h⟩ := b3 i hi
  exact ⟨os, h.mono (gLe.rf _) (ko _ (by omega)) (ko _ (by omega))⟩
/-- what finish leaves of a change o at the POINTER -/
def finD (ds : Nat → Tr) (at_ : Nat) (o : Option Tr) : Nat → Tr := match o with
  | none => ds
  | some t => if szT t ≤ 50 ∧ dpT t ≤ 7 then updD ds at_ t else ds
def finS (ss : List Int32) (o : Option Tr) : List Int32 := match o with
  | none => ss
  | some t => if szT t ≤ 50 ∧ dpT t ≤ 7 then ss.take (stl t ss) else ss
def finV (o : Option Tr) : Int32 := match o with
  | none => -1
  | some t => if szT t ≤ 50 ∧ dpT t ≤ 7 then nI (szT t) else -1
theorem St.edit {im im' : gIm} {ad : Nat → Nat} {mc mc' : Nat → Option gC} (h : St im ad mc ds cl at_ ss ps qs) (hle : gLe im im') (ho : ∀ q, q ≠ 4 → q ≠ 5 → q ≠ 6 → mc' q = mc q) (he : edAny ad mc') : St im' ad mc' ds cl at_ ss ps qs := by
  obtain ⟨-, -, -, ⟨d1, d2, d3, d4⟩, -⟩ := id h
  exact h.scr hle (fun q hq => by unfold _root_.Jvm.Pilot.CMarlStoreLaw_law_r1597_55c78a.scr at hq; exact ho q (by omega) (by omega) (by omega)) he (d2.mono (ho 8 (by omega) (by omega) (by omega))) (d3.mono (ho 9 (by omega) (by omega) (by omega)) (ho 10 (by omega) (by omega) (by omega)) (ho 11 (by omega) (by omega) (by omega)) (ho 12 (by omega) (by omega) (by omega))) (d4.mono fun q h1 h2 => ho q (by omega) (by omega) (by omega))
/-- a change is ended -/
theorem c_fin {G : gG} {w : Nat} {t : Tr} {o : Option Tr} {tk : Option Nat} {len : Int32} {pr : Nat → Option Nat} {pl : Nat → Int32} (hS : St G.1 G.2.1 G.2.2 ds cl at_ ss ps qs) (he : edAt G.2.1 G.2.2 (some w) tk len pr pl) (hv : isV G.1 w (o.getD t)) (hs : sml (o.getD t)) :
    kX10_finish 3 0 0 [.ref (G.2.1 0), .int (if o.isSome then 1 else 0)] G (fun v G' => v = some (.int (finV o)) ∧ ∃ mc', (G.1, G.2.1, mc') = G' ∧ St G.1 G.2.1 mc' (finD ds at_ o) cl at_ (finS ss o) ps qs) noX := by
  obtain ⟨⟨⟨cla, a1, a2⟩, a3, a4, a5⟩, -⟩ := id hS
  refine (c_finish a1 a3 a4 a5 he hv hs).post ?_ (fun _ _ h => h)
  intro v G' h
  cases o with
  | none =>
    rcases h with ⟨-, rfl, rfl⟩ | ⟨⟨h, -⟩, -⟩
    · exact ⟨rfl, G.2.2, rfl, hS⟩
    · exact absurd rfl h
  | some t' =>
    rcases h with ⟨hno, rfl, rfl⟩ | ⟨hyes, rfl, mc', rfl, ho, hd, hp⟩
    · have hno : ¬ (szT t' ≤ 50 ∧ dpT t' ≤ 7) := fun h => hno ⟨by show ¬ ((1 : Int32) = 0); decide, h⟩
      refine ⟨by unfold finV; simp only [if_neg hno], G.2.2, rfl, ?_⟩
      unfold finD finS
      simp only [if_neg hno]
      exact hS
    · have hy : szT t' ≤ 50 ∧ dpT t' ≤ 7 := hyes.2
      refine ⟨by unfold finV; simp only [if_pos hy]; rfl, mc', rfl, ?_⟩
      unfold finD finS
      simp only [if_pos hy]
      exact hS.doc (fun q h1 h2 _ => ho q h1 h2) hd hp a5
end CH
