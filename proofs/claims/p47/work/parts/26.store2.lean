/-! MARLSTORE: pointed, changeTo, finish -/
def pT (d : Tr) (ss : List Int32) : Tr := (belT d ss).getD d
abbrev mX10_pointed (d kc ks : Nat) : gM := (RX10, cX10_pointed, 3, (some (.object "MarlStore$Value")), [], "pointed", d, kc, ks)
abbrev kX10_pointed (d kc ks : Nat) (as : List Value) (G : gG) (Q : Option Value → gG → Prop) (X : String → gG → Prop) : Prop := Ctr yX10_pointed cX10_pointed 3 (some (.object "MarlStore$Value")) d kc ks as G Q X
theorem oX10_pointed {d kc ks : Nat} {as : List Value} {G : gG} {Q : Option Value → gG → Prop} {X : String → gG → Prop} {L : List (Option Value)} (hL : gEnt as = L) (hlen : (lg_sl as).length ≤ 3) (g : GW (mX10_pointed d kc ks) Q X G 0 0 0 L []) : kX10_pointed d kc ks as G Q X := Ctr.of (by decide +kernel) rfl rfl hL hlen g
theorem c_pointed {G : gG} {cl pc qc at_ : Nat} {ds : Nat → Tr} {ss : List Int32} (h0 : msAt G.2.1 G.2.2 cl pc qc) (h1 : dcAt G.1 G.2.2 ds) (h2 : ptrAt G.2.1 G.2.2 at_ ss) (ha : at_ < 6) (hs : sml (ds at_)) :
    kX10_pointed 2 0 0 [.ref (G.2.1 0)] G (fun v G' => ∃ a, v = some (.ref a) ∧ G = G' ∧ isV G.1 a (pT (ds at_) ss)) noX := by
  obtain ⟨hl6, h2a, f, h3, hss⟩ := id h2
  have l0 : gL G (G.2.1 0) (.inl (10, _)) := Or.inr ⟨0, rfl, h0⟩
  have l2 : gL G (G.2.1 2) (.inl (5, _)) := Or.inr ⟨2, rfl, h2a⟩
  have l3 : gL G (G.2.1 3) (.inr (0, 6, .inl f)) := Or.inr ⟨3, rfl, h3⟩
  refine oX10_pointed (L := [some (.ref (G.2.1 0)), none, none, none, none, none, none, none, none, none, none, none]) rfl (Nat.le_of_ble_eq_true rfl) ?_
  generalize hQ : (fun (v : Option Value) (G' : gG) => ∃ a, v = some (.ref a) ∧ G = G' ∧ isV G.1 a (pT (ds at_) ss)) = Q
  refine GW.aload0 dX10_pointed_0 (g := ?_)
  refine GW.aload0 dX10_pointed_1 (g := ?_)
  refine GW.getf fl_X10_25 dX10_pointed_2 (by assumption) (by rfl) ?_
  refine GW.getf fl_X10_131 dX10_pointed_5 (by assumption) (by rfl) ?_
  refine GW.callV0 cv_X10_85 mt_X10_wholeOf (c_wholeOf h0 h1 ha) dX10_pointed_8 (by assumption) rfl rfl rfl rfl (by first | (dsimp only [mX10_pointed, gM.dp, gM.kc, gM.ks]; omega) | exact Nat.le_of_ble_eq_true rfl | exact Nat.le_refl _ | omega) (by decide) (by first | (dsimp only [mX10_pointed, gM.dp, gM.kc, gM.ks]; omega) | exact Nat.le_of_ble_eq_true rfl | exact Nat.le_refl _ | omega) (by first | (dsimp only [mX10_pointed, gM.dp, gM.kc, gM.ks]; omega) | exact Nat.le_of_ble_eq_true rfl | exact Nat.le_refl _ | omega) (by first | exact Nat.le_of_ble_eq_true rfl | (simp [va_rf_cat]; done) | (simp [va_rf_cat, Value.category]; done)) rfl (fun _ _ h => h.elim) (fun v8 G8 hq => ?_)
  obtain ⟨a, rfl, rfl, hv⟩ := hq
  obtain ⟨kr, pq, hnd, -, -⟩ := hv.node
  have hnd : gL G a (.inl (8, _)) := Or.inl hnd
  refine GW.astore1 dX10_pointed_11 (g := ?_)
  refine GW.aload1 dX10_pointed_12 (g := ?_)
  refine GW.aload0 dX10_pointed_13 (g := ?_)
  refine GW.getf fl_X10_25 dX10_pointed_14 (by assumption) (by rfl) ?_
  refine GW.getf fl_X10_134 dX10_pointed_17 (by assumption) (by rfl) ?_
  refine GW.aload0 dX10_pointed_20 (g := ?_)
  refine GW.getf fl_X10_25 dX10_pointed_21 (by assumption) (by rfl) ?_
  refine GW.getf fl_X10_128 dX10_pointed_24 (by assumption) (by rfl) ?_
  refine GW.callV0 cv_X10_404 mt_X8_below (c_below hv hs l3 hl6 (by decide)) dX10_pointed_27 (by assumption) rfl rfl rfl rfl (by first | (dsimp only [mX10_pointed, gM.dp, gM.kc, gM.ks]; omega) | exact Nat.le_of_ble_eq_true rfl | exact Nat.le_refl _ | omega) (by decide) (by first | (dsimp only [mX10_pointed, gM.dp, gM.kc, gM.ks]; omega) | exact Nat.le_of_ble_eq_true rfl | exact Nat.le_refl _ | omega) (by first | (dsimp only [mX10_pointed, gM.dp, gM.kc, gM.ks]; omega) | exact Nat.le_of_ble_eq_true rfl | exact Nat.le_refl _ | omega) (by first | exact Nat.le_of_ble_eq_true rfl | (simp [va_rf_cat]; done) | (simp [va_rf_cat, Value.category]; done)) rfl (fun _ _ h => h.elim) (fun v27 G27 hq => ?_)
  obtain ⟨r, rfl, rfl, hr⟩ := hq
  rw [← hss] at hr
  refine GW.astore2 dX10_pointed_30 (g := ?_)
  refine GW.aload2 dX10_pointed_31 (g := ?_)
  refine GW.ifnonnull (tgt := 39) dX10_pointed_32 (by decide) (fun r32 h32 => ?_) (fun h32 => ?_)
  · subst h32
    refine GW.aload2 dX10_pointed_39 (g := ?_)
    refine GW.areturn dX10_pointed_40 (Or.inl ⟨_, rfl⟩) (by first | (dsimp only [mX10_pointed, gM.dp, gM.kc, gM.ks]; omega) | exact Nat.le_of_ble_eq_true rfl | exact Nat.le_refl _ | omega) (by first | (dsimp only [mX10_pointed, gM.dp, gM.kc, gM.ks]; omega) | exact Nat.le_of_ble_eq_true rfl | exact Nat.le_refl _ | omega) ?_
    subst hQ
    refine ⟨r32, rfl, rfl, ?_⟩
    unfold pT
    cases hb : belT (ds at_) ss with
    | none => rw [hb] at hr; exact hr.elim
    | some u => rw [hb] at hr; exact hr
  · subst h32
    refine GW.aload1 dX10_pointed_35 (g := ?_)
    refine GW.goto (tgt := 40) dX10_pointed_36 (by decide) ?_
    refine GW.areturn dX10_pointed_40 (Or.inl ⟨_, rfl⟩) (by first | (dsimp only [mX10_pointed, gM.dp, gM.kc, gM.ks]; omega) | exact Nat.le_of_ble_eq_true rfl | exact Nat.le_refl _ | omega) (by first | (dsimp only [mX10_pointed, gM.dp, gM.kc, gM.ks]; omega) | exact Nat.le_of_ble_eq_true rfl | exact Nat.le_refl _ | omega) ?_
    subst hQ
    refine ⟨a, rfl, rfl, ?_⟩
    unfold pT
    cases hb : belT (ds at_) ss with
    | none => exact hv
    | some u => rw [hb] at hr; exact hr.elim
def updD (ds : Nat → Tr) (d : Nat) (t : Tr) : Nat → Tr := fun i => if i = d then t else ds i
abbrev mX10_changeTo (d kc ks : Nat) : gM := (RX10, cX10_changeTo, 3, none, [], "changeTo", d, kc, ks)
abbrev kX10_changeTo (d kc ks : Nat) (as : List Value) (G : gG) (Q : Option Value → gG → Prop) (X : String → gG → Prop) : Prop := Ctr yX10_changeTo cX10_changeTo 3 none d kc ks as G Q X
theorem oX10_changeTo {d kc ks : Nat} {as : List Value} {G : gG} {Q : Option Value → gG → Prop} {X : String → gG → Prop} {L : List (Option Value)} (hL : gEnt as = L) (hlen : (lg_sl as).length ≤ 3) (g : GW (mX10_changeTo d kc ks) Q X G 0 0 0 L []) : kX10_changeTo d kc ks as G Q X := Ctr.of (by decide +kernel) rfl rfl hL hlen g
theorem c_changeTo {G : gG} {cl pc qc at_ d b : Nat} {ds : Nat → Tr} {t : Tr} {ss : List Int32} (h0 : msAt G.2.1 G.2.2 cl pc qc) (h1 : dcAt G.1 G.2.2 ds) (h2 : ptrAt G.2.1 G.2.2 at_ ss) (ha : at_ < 6) (hd : d < 6) (hv : isV G.1 b t) (hs : sml t) :
    kX10_changeTo 2 0 0 [.ref (G.2.1 0), .int (nI d), .ref b] G (fun v G' => v = none ∧ ∃ mc', (G.1, G.2.1, mc') = G' ∧ (∀ q, q ≠ 1 → q ≠ 2 → mc' q = G.2.2 q) ∧ dcAt G.1 mc' (updD ds d t) ∧ ptrAt G.2.1 mc' at_ (if at_ = d then ss.take (stl t ss) else ss)) noX := by
  obtain ⟨im, ad, mc⟩ := G
  have hv : isV im b t := hv
  obtain ⟨dr, h1a, h1b⟩ := h1
  have h1a : mc 1 = some (.inr (1, 6, .inr dr)) := h1a
  have h1b : ∀ i, i < 6 → ∃ a, dr i = some a ∧ isV im a (ds i) := h1b
  obtain ⟨hl6, h2a, f, h3, hss⟩ := id h2
  have h2a : mc 2 = some (.inl (5, [.int (nI at_), .int (nI ss.length), .ref (ad 3)])) := h2a
  have l0 : gL (im, ad, mc) (ad 0) (.inl (10, _)) := Or.inr ⟨0, rfl, h0⟩
  have l1 : gL (im, ad, mc) (ad 1) (.inr (1, 6, .inr dr)) := Or.inr ⟨1, rfl, h1a⟩
  have hix : gIx (nI d) d 6 := mI_ix hd (by omega)
  refine oX10_changeTo (L := [some (.ref (ad 0)), some (.int (nI d)), some (.ref b), none, none, none, none, none, none, none, none, none]) rfl (Nat.le_of_ble_eq_true rfl) ?_
  generalize hQ : (fun (v : Option Value) (G' : gG) => v = none ∧ ∃ mc', ((im, ad, mc).1, (im, ad, mc).2.1, mc') = G' ∧ (∀ q, q ≠ 1 → q ≠ 2 → mc' q = (im, ad, mc).2.2 q) ∧ dcAt (im, ad, mc).1 mc' (updD ds d t) ∧ ptrAt (im, ad, mc).2.1 mc' at_ (if at_ = d then ss.take (stl t ss) else ss)) = Q
  refine GW.iload1 dX10_changeTo_0 ?_
  refine GW.if_lt (tgt := 20) dX10_changeTo_1 (by decide) (fun h1 => ?_) (fun h1 => ?_)
  · exact absurd h1 (mI_nonneg (by omega))
  · refine GW.iload1 dX10_changeTo_4 ?_
    refine GW.aload0 dX10_changeTo_5 (g := ?_)
    refine GW.getf fl_X10_14 dX10_changeTo_6 (by assumption) (by rfl) ?_
    refine GW.alen dX10_changeTo_9 (by assumption) (by decide) rfl ?_
    refine GW.icmp_ge (tgt := 20) dX10_changeTo_10 (by decide) (fun h10 => ?_) (fun h10 => ?_)
    · exact absurd ((mI_le (a := 6) (by omega) (by omega)).mp h10) (by omega)
    · refine GW.aload0 dX10_changeTo_13 (g := ?_)
      refine GW.getf fl_X10_14 dX10_changeTo_14 (by assumption) (by rfl) ?_
      refine GW.iload1 dX10_changeTo_17 ?_
      refine GW.aload2 dX10_changeTo_18 (g := ?_)
      refine GW.aast (v := some b) (r := 1) dX10_changeTo_19 h1a hix (by decide) rfl (fun w hw => by cases hw; obtain ⟨_, _, h, _⟩ := hv.node; exact ⟨_, Or.inl h⟩) ?_
      obtain ⟨mc1, hm1⟩ : ∃ mc1, mc1 = (fun q => if q = 1 then some (Sum.inr (1, 6, Sum.inr (va_up dr d (some b)))) else mc q : Nat → Option gC) := ⟨_, rfl⟩
      rw [show gS (im, ad, mc) 1 (.inr (1, 6, .inr (va_up dr d (some b)))) = (im, ad, mc1) from by rw [hm1]; rfl]
      have ko : ∀ q, q ≠ 1 → mc1 q = mc q := fun q hq => by rw [hm1]; exact if_neg hq
      have k1 : dcAt im mc1 (updD ds d t) := by
        refine ⟨va_up dr d (some b), by rw [hm1]; rfl, fun i hi => ?_⟩
        by_cases e : i = d
        · subst e
          exact ⟨b, by simp [va_up], by unfold updD; rw [if_pos rfl]; exact hv⟩
        · obtain ⟨a, w1, w2⟩ := h1b i hi
          exact ⟨a, by simp [va_up, e, w1], by unfold updD; rw [if_neg e]; exact w2⟩
      have k2 : ptrAt ad mc1 at_ ss := ⟨hl6, (ko 2 (by decide)).trans h2a, f, (ko 3 (by decide)).trans h3, hss⟩
      have l0 : gL (im, ad, mc1) (ad 0) (.inl (10, _)) := Or.inr ⟨0, rfl, (ko 0 (by decide)).trans h0⟩
      have l2 : gL (im, ad, mc1) (ad 2) (.inl (5, [.int (nI at_), .int (nI ss.length), .ref (ad 3)])) := Or.inr ⟨2, rfl, (ko 2 (by decide)).trans h2a⟩
      refine GW.aload0 dX10_changeTo_20 (g := ?_)
      refine GW.getf fl_X10_25 dX10_changeTo_21 (by assumption) (by rfl) ?_
      refine GW.getf fl_X10_131 dX10_changeTo_24 (by assumption) (by rfl) ?_
      refine GW.iload1 dX10_changeTo_27 ?_
      refine GW.icmp_ne (tgt := 39) dX10_changeTo_28 (by decide) (fun h28 => ?_) (fun h28 => ?_)
      · have hne : at_ ≠ d := fun e => h28 (by rw [e])
        refine GW.vreturn dX10_changeTo_39 rfl (by first | (dsimp only [mX10_changeTo, gM.dp, gM.kc, gM.ks]; omega) | exact Nat.le_of_ble_eq_true rfl | exact Nat.le_refl _ | omega) (by first | (dsimp only [mX10_changeTo, gM.dp, gM.kc, gM.ks]; omega) | exact Nat.le_of_ble_eq_true rfl | exact Nat.le_refl _ | omega) ?_
        subst hQ
        exact ⟨rfl, mc1, rfl, fun q q1 q2 => ko q q1, k1, by rw [if_neg hne]; exact k2⟩
      · have he : at_ = d := (mI_eq (by omega) (by omega)).mp h28
        refine GW.aload0 dX10_changeTo_31 (g := ?_)
        refine GW.getf fl_X10_25 dX10_changeTo_32 (by assumption) (by rfl) ?_
        refine GW.aload2 dX10_changeTo_35 (g := ?_)
        refine GW.callV cv_X10_408 mt_X5_settle (c_settle (G := (im, ad, mc1)) k2 hv hs) dX10_changeTo_36 (by assumption) rfl rfl rfl rfl (by first | (dsimp only [mX10_changeTo, gM.dp, gM.kc, gM.ks]; omega) | exact Nat.le_of_ble_eq_true rfl | exact Nat.le_refl _ | omega) (by decide) (by first | omega | (dsimp only [mX10_changeTo, gM.dp, gM.kc, gM.ks]; omega)) (by first | omega | (dsimp only [mX10_changeTo, gM.dp, gM.kc, gM.ks]; omega)) (by first | exact Nat.le_of_ble_eq_true rfl | (simp [va_rf_cat]; done) | (simp [va_rf_cat, Value.category]; done)) rfl (fun _ _ h => h.elim) (fun v36 G36 hq => ?_)
        obtain ⟨rfl, mc2, rfl, ho, hp⟩ := hq
        refine GW.vreturn dX10_changeTo_39 rfl (by first | (dsimp only [mX10_changeTo, gM.dp, gM.kc, gM.ks]; omega) | exact Nat.le_of_ble_eq_true rfl | exact Nat.le_refl _ | omega) (by first | (dsimp only [mX10_changeTo, gM.dp, gM.kc, gM.ks]; omega) | exact Nat.le_of_ble_eq_true rfl | exact Nat.le_refl _ | omega) ?_
        subst hQ
        refine ⟨rfl, mc2, rfl, fun q q1 q2 => (ho q q2).trans (ko q q1), ?_, by rw [if_pos he]; exact hp⟩
        obtain ⟨dr2, w1, w2⟩ := k1
        exact ⟨dr2, (ho 1 (by decide)).trans w1, w2⟩
abbrev mX10_finish (d kc ks : Nat) : gM := (RX10, cX10_finish, 2, (some .int), [], "finish", d, kc, ks)
abbrev kX10_finish (d kc ks : Nat) (as : List Value) (G : gG) (Q : Option Value → gG → Prop) (X : String → gG → Prop) : Prop := Ctr yX10_finish cX10_finish 2 (some .int) d kc ks as G Q X
theorem oX10_finish {d kc ks : Nat} {as : List Value} {G : gG} {Q : Option Value → gG → Prop} {X : String → gG → Prop} {L : List (Option Value)} (hL : gEnt as = L) (hlen : (lg_sl as).length ≤ 2) (g : GW (mX10_finish d kc ks) Q X G 0 0 0 L []) : kX10_finish d kc ks as G Q X := Ctr.of (by decide +kernel) rfl rfl hL hlen g
theorem c_finish {G : gG} {cl pc qc at_ w : Nat} {ds : Nat → Tr} {t : Tr} {ss : List Int32} {dn : Int32} {tk : Option Nat} {len : Int32} {pr : Nat → Option Nat} {pl : Nat → Int32} (h0 : msAt G.2.1 G.2.2 cl pc qc) (h1 : dcAt G.1 G.2.2 ds) (h2 : ptrAt G.2.1 G.2.2 at_ ss) (ha : at_ < 6) (he : edAt G.2.1 G.2.2 (some w) tk len pr pl) (hv : isV G.1 w t) (hs : sml t) :
    kX10_finish 3 0 0 [.ref (G.2.1 0), .int dn] G (fun v G' =>
      (¬ (dn ≠ 0 ∧ szT t ≤ 50 ∧ dpT t ≤ 7) ∧ v = some (.int (-1)) ∧ G = G') ∨
      ((dn ≠ 0 ∧ szT t ≤ 50 ∧ dpT t ≤ 7) ∧ v = some (.int (nI (szT t))) ∧ ∃ mc', (G.1, G.2.1, mc') = G' ∧ (∀ q, q ≠ 1 → q ≠ 2 → mc' q = G.2.2 q) ∧ dcAt G.1 mc' (updD ds at_ t) ∧ ptrAt G.2.1 mc' at_ (ss.take (stl t ss)))) noX := by
  obtain ⟨im, ad, mc⟩ := G
  have hdc := h1
  have hv : isV im w t := hv
  obtain ⟨hl6, h2a, f, h3, hss⟩ := id h2
  have h0' : mc 0 = some (.inl (10, [.ref (ad 1), .ref cl, .ref (ad 2), .ref (ad 4), .ref (ad 7), .int (nI pc), .ref (ad 8), .ref (ad 9), .ref (ad 13), .int 0, .ref (ad 19), .ref (ad 21), .int (nI qc), .ref (ad 14)])) := h0
  have h4 : mc 4 = some (.inl (2, [va_rf (some w), va_rf tk, .int len, .ref (ad 5), .ref (ad 6)])) := he.1
  have h2a : mc 2 = some (.inl (5, [.int (nI at_), .int (nI ss.length), .ref (ad 3)])) := h2a
  have l0 : gL (im, ad, mc) (ad 0) (.inl (10, _)) := Or.inr ⟨0, rfl, h0⟩
  have l2 : gL (im, ad, mc) (ad 2) (.inl (5, _)) := Or.inr ⟨2, rfl, h2a⟩
  have l4 : gL (im, ad, mc) (ad 4) (.inl (2, _)) := Or.inr ⟨4, rfl, h4⟩
  refine oX10_finish (L := [some (.ref (ad 0)), some (.int dn), none, none, none, none, none, none, none, none, none, none]) rfl (Nat.le_of_ble_eq_true rfl) ?_
  refine GW.iload1 dX10_finish_0 ?_
  refine GW.if_eq (tgt := 14) dX10_finish_1 (by decide) (fun h1 => ?_) (fun h1 => ?_)
  · refine GW.iconst (v := -1) dX10_finish_14 (by decide) ?_
    refine GW.ireturn dX10_finish_15 (Or.inl rfl) (by first | (dsimp only [mX10_finish, gM.dp, gM.kc, gM.ks]; omega) | exact Nat.le_of_ble_eq_true rfl | exact Nat.le_refl _ | omega) (by first | (dsimp only [mX10_finish, gM.dp, gM.kc, gM.ks]; omega) | exact Nat.le_of_ble_eq_true rfl | exact Nat.le_refl _ | omega) ?_
    exact Or.inl ⟨fun h => h.1 h1, rfl, rfl⟩
  · refine GW.aload0 dX10_finish_4 (g := ?_)
    refine GW.getf fl_X10_34 dX10_finish_5 (by assumption) (by rfl) ?_
    refine GW.callV0 cv_X10_411 mt_X2_isAllowed (c_isAllowed (G := (im, ad, mc)) he hv hs) dX10_finish_8 (by assumption) rfl rfl rfl rfl (by first | (dsimp only [mX10_finish, gM.dp, gM.kc, gM.ks]; omega) | exact Nat.le_of_ble_eq_true rfl | exact Nat.le_refl _ | omega) (by decide) (by first | (dsimp only [mX10_finish, gM.dp, gM.kc, gM.ks]; omega) | exact Nat.le_of_ble_eq_true rfl | exact Nat.le_refl _ | omega) (by first | (dsimp only [mX10_finish, gM.dp, gM.kc, gM.ks]; omega) | exact Nat.le_of_ble_eq_true rfl | exact Nat.le_refl _ | omega) (by first | exact Nat.le_of_ble_eq_true rfl | (simp [va_rf_cat]; done) | (simp [va_rf_cat, Value.category]; done)) rfl (fun _ _ h => h.elim) (fun v8 G8 hq => ?_)
    obtain ⟨z, rfl, rfl, rfl⟩ := hq
    refine GW.if_ne (tgt := 16) dX10_finish_11 (by decide) (fun h11 => ?_) (fun h11 => ?_)
    · have hok : szT t ≤ 50 ∧ dpT t ≤ 7 := by
        by_cases h : szT t ≤ 50 ∧ dpT t ≤ 7
        · exact h
        · exact absurd (bI_f h) h11
      refine GW.aload0 dX10_finish_16 (g := ?_)
      refine GW.aload0 dX10_finish_17 (g := ?_)
      refine GW.getf fl_X10_25 dX10_finish_18 (by assumption) (by rfl) ?_
      refine GW.getf fl_X10_131 dX10_finish_21 (by assumption) (by rfl) ?_
      refine GW.aload0 dX10_finish_24 (g := ?_)
      refine GW.getf fl_X10_34 dX10_finish_25 (by assumption) (by rfl) ?_
      refine GW.getf fl_X10_213 dX10_finish_28 (by assumption) (by rfl) ?_
      refine GW.callV0 cv_X10_216 mt_X10_changeTo (c_changeTo (G := (im, ad, mc)) h0 hdc h2 ha ha hv hs) dX10_finish_31 (by assumption) rfl rfl rfl rfl (by first | (dsimp only [mX10_finish, gM.dp, gM.kc, gM.ks]; omega) | exact Nat.le_of_ble_eq_true rfl | exact Nat.le_refl _ | omega) (by decide) (by first | (dsimp only [mX10_finish, gM.dp, gM.kc, gM.ks]; omega) | exact Nat.le_of_ble_eq_true rfl | exact Nat.le_refl _ | omega) (by first | (dsimp only [mX10_finish, gM.dp, gM.kc, gM.ks]; omega) | exact Nat.le_of_ble_eq_true rfl | exact Nat.le_refl _ | omega) (by first | exact Nat.le_of_ble_eq_true rfl | (simp [va_rf_cat]; done) | (simp [va_rf_cat, Value.category]; done)) rfl (fun _ _ h => h.elim) (fun v31 G31 hq => ?_)
      obtain ⟨rfl, mc1, rfl, ho, hd, hp⟩ := hq
      rw [if_pos rfl] at hp
      have l0 : gL (im, ad, mc1) (ad 0) (.inl (10, _)) := Or.inr ⟨0, rfl, (ho 0 (by decide) (by decide)).trans h0'⟩
      have l4 : gL (im, ad, mc1) (ad 4) (.inl (2, _)) := Or.inr ⟨4, rfl, (ho 4 (by decide) (by decide)).trans h4⟩
      obtain ⟨kr, pq, hnd, -, -⟩ := hv.node
      have hnd : gL (im, ad, mc1) w (.inl (8, _)) := Or.inl hnd
      refine GW.aload0 dX10_finish_34 (g := ?_)
      refine GW.getf fl_X10_34 dX10_finish_35 (by assumption) (by rfl) ?_
      refine GW.getf fl_X10_213 dX10_finish_38 (by assumption) (by rfl) ?_
      refine GW.getf fl_X10_145 dX10_finish_41 (by assumption) (by rfl) ?_
      refine GW.ireturn dX10_finish_44 (Or.inl rfl) (by first | (dsimp only [mX10_finish, gM.dp, gM.kc, gM.ks]; omega) | exact Nat.le_of_ble_eq_true rfl | exact Nat.le_refl _ | omega) (by first | (dsimp only [mX10_finish, gM.dp, gM.kc, gM.ks]; omega) | exact Nat.le_of_ble_eq_true rfl | exact Nat.le_refl _ | omega) ?_
      exact Or.inr ⟨⟨h1, hok⟩, rfl, mc1, rfl, ho, hd, hp⟩
    · have hno : ¬ (szT t ≤ 50 ∧ dpT t ≤ 7) := fun h => by
        have h11 : bI (szT t ≤ 50 ∧ dpT t ≤ 7) = 0 := h11
        rw [bI_t h] at h11
        exact absurd h11 (by decide)
      refine GW.iconst (v := -1) dX10_finish_14 (by decide) ?_
      refine GW.ireturn dX10_finish_15 (Or.inl rfl) (by first | (dsimp only [mX10_finish, gM.dp, gM.kc, gM.ks]; omega) | exact Nat.le_of_ble_eq_true rfl | exact Nat.le_refl _ | omega) (by first | (dsimp only [mX10_finish, gM.dp, gM.kc, gM.ks]; omega) | exact Nat.le_of_ble_eq_true rfl | exact Nat.le_refl _ | omega) ?_
      exact Or.inl ⟨fun h => hno h.2, rfl, rfl⟩
