/-! MARLSTORE: what lies where (roles), and what its own private methods do -/
abbrev xI : String := "java/lang/IndexOutOfBoundsException"
abbrev xS : String := "java/lang/IllegalStateException"
/-- the object itself: its CLIP, how many PATCHES, how many QUERIES -/
def msAt (ad : Nat → Nat) (mc : Nat → Option gC) (cl pc qc : Nat) : Prop :=
  mc 0 = some (.inl (10, [.ref (ad 1), .ref cl, .ref (ad 2), .ref (ad 4), .ref (ad 7), .int (nI pc), .ref (ad 8), .ref (ad 9), .ref (ad 13), .int 0, .ref (ad 19), .ref (ad 21), .int (nI qc), .ref (ad 14)]))
def dcAt (im : gIm) (mc : Nat → Option gC) (ds : Nat → Tr) : Prop := ∃ dr, mc 1 = some (.inr (1, 6, .inr dr)) ∧ ∀ i, i < 6 → ∃ a, dr i = some a ∧ isV im a (ds i)
def ppAt (ad : Nat → Nat) (mc : Nat → Option gC) : Prop := ∃ pr, mc 7 = some (.inr (3, 8, .inr pr)) ∧ ∀ i, i < 8 → pr i = some (ad (30 + i))
def qqAt (ad : Nat → Nat) (mc : Nat → Option gC) : Prop := ∃ pr, mc 21 = some (.inr (4, 6, .inr pr)) ∧ ∀ i, i < 6 → pr i = some (ad (50 + i))
abbrev mX10_wholeOf (d kc ks : Nat) : gM := (RX10, cX10_wholeOf, 2, (some (.object "MarlStore$Value")), [], "wholeOf", d, kc, ks)
abbrev kX10_wholeOf (d kc ks : Nat) (as : List Value) (G : gG) (Q : Option Value → gG → Prop) (X : String → gG → Prop) : Prop := Ctr yX10_wholeOf cX10_wholeOf 2 (some (.object "MarlStore$Value")) d kc ks as G Q X
theorem oX10_wholeOf {d kc ks : Nat} {as : List Value} {G : gG} {Q : Option Value → gG → Prop} {X : String → gG → Prop} {L : List (Option Value)} (hL : gEnt as = L) (hlen : (lg_sl as).length ≤ 2) (g : GW (mX10_wholeOf d kc ks) Q X G 0 0 0 L []) : kX10_wholeOf d kc ks as G Q X := Ctr.of (by decide +kernel) rfl rfl hL hlen g
theorem c_wholeOf {G : gG} {cl pc qc i : Nat} {ds : Nat → Tr} (h0 : msAt G.2.1 G.2.2 cl pc qc) (h1 : dcAt G.1 G.2.2 ds) (hi : i < 6) :
    kX10_wholeOf 0 0 0 [.ref (G.2.1 0), .int (nI i)] G (fun v G' => ∃ a, v = some (va_rf (some a)) ∧ G = G' ∧ isV G.1 a (ds i)) noX := by
  obtain ⟨dr, h1, h2⟩ := h1
  have l0 : gL G (G.2.1 0) (.inl (10, _)) := Or.inr ⟨0, rfl, h0⟩
  have l1 : gL G (G.2.1 1) (.inr (1, 6, .inr dr)) := Or.inr ⟨1, rfl, h1⟩
  have hix : gIx (nI i) i 6 := mI_ix hi (by omega)
  obtain ⟨a, w1, w2⟩ := h2 i hi
  refine oX10_wholeOf (L := [some (.ref (G.2.1 0)), some (.int (nI i)), none, none, none, none, none, none, none, none, none, none]) rfl (Nat.le_of_ble_eq_true rfl) ?_
  refine GW.iload1 dX10_wholeOf_0 ?_
  refine GW.if_lt (tgt := 13) dX10_wholeOf_1 (by decide) (fun h1 => ?_) (fun h1 => ?_)
  · exact absurd h1 (mI_nonneg (by omega))
  · refine GW.iload1 dX10_wholeOf_4 ?_
    refine GW.aload0 dX10_wholeOf_5 (g := ?_)
    refine GW.getf fl_X10_14 dX10_wholeOf_6 (by assumption) (by rfl) ?_
    refine GW.alen dX10_wholeOf_9 (by assumption) (by decide) rfl ?_
    refine GW.icmp_lt (tgt := 24) dX10_wholeOf_10 (by decide) (fun h10 => ?_) (fun h10 => ?_)
    · refine GW.aload0 dX10_wholeOf_24 (g := ?_)
      refine GW.getf fl_X10_14 dX10_wholeOf_25 (by assumption) (by rfl) ?_
      refine GW.iload1 dX10_wholeOf_28 ?_
      refine GW.aald dX10_wholeOf_29 (by assumption) (by assumption) (by decide) ?_
      rw [w1]
      refine GW.areturn dX10_wholeOf_30 (Or.inl ⟨_, rfl⟩) (by first | (dsimp only [mX10_wholeOf, gM.dp, gM.kc, gM.ks]; omega) | exact Nat.le_of_ble_eq_true rfl | exact Nat.le_refl _ | omega) (by first | (dsimp only [mX10_wholeOf, gM.dp, gM.kc, gM.ks]; omega) | exact Nat.le_of_ble_eq_true rfl | exact Nat.le_refl _ | omega) ?_
      exact ⟨a, rfl, rfl, w2⟩
    · exact absurd ((mI_lt (b := 6) (by omega) (by omega)).mpr hi) h10
abbrev mX10_patchOf (d kc ks : Nat) : gM := (RX10, cX10_patchOf, 2, (some (.object "MarlStore$Patch")), [], "patchOf", d, kc, ks)
abbrev kX10_patchOf (d kc ks : Nat) (as : List Value) (G : gG) (Q : Option Value → gG → Prop) (X : String → gG → Prop) : Prop := Ctr yX10_patchOf cX10_patchOf 2 (some (.object "MarlStore$Patch")) d kc ks as G Q X
theorem oX10_patchOf {d kc ks : Nat} {as : List Value} {G : gG} {Q : Option Value → gG → Prop} {X : String → gG → Prop} {L : List (Option Value)} (hL : gEnt as = L) (hlen : (lg_sl as).length ≤ 2) (g : GW (mX10_patchOf d kc ks) Q X G 0 0 0 L []) : kX10_patchOf d kc ks as G Q X := Ctr.of (by decide +kernel) rfl rfl hL hlen g
theorem c_patchOf {G : gG} {cl pc qc i : Nat} (h0 : msAt G.2.1 G.2.2 cl pc qc) (h1 : ppAt G.2.1 G.2.2) (hi : i < pc) (hp : pc ≤ 8) :
    kX10_patchOf 0 0 0 [.ref (G.2.1 0), .int (nI i)] G (fun v G' => v = some (va_rf (some (G.2.1 (30 + i)))) ∧ G = G') noX := by
  obtain ⟨pr, h1, h2⟩ := h1
  have l0 : gL G (G.2.1 0) (.inl (10, _)) := Or.inr ⟨0, rfl, h0⟩
  have l1 : gL G (G.2.1 7) (.inr (3, 8, .inr pr)) := Or.inr ⟨7, rfl, h1⟩
  have hix : gIx (nI i) i 8 := mI_ix (by omega) (by omega)
  refine oX10_patchOf (L := [some (.ref (G.2.1 0)), some (.int (nI i)), none, none, none, none, none, none, none, none, none, none]) rfl (Nat.le_of_ble_eq_true rfl) ?_
  refine GW.iload1 dX10_patchOf_0 ?_
  refine GW.if_lt (tgt := 21) dX10_patchOf_1 (by decide) (fun h1 => ?_) (fun h1 => ?_)
  · exact absurd h1 (mI_nonneg (by omega))
  · refine GW.iload1 dX10_patchOf_4 ?_
    refine GW.aload0 dX10_patchOf_5 (g := ?_)
    refine GW.getf fl_X10_220 dX10_patchOf_6 (by assumption) (by rfl) ?_
    refine GW.icmp_ge (tgt := 21) dX10_patchOf_9 (by decide) (fun h9 => ?_) (fun h9 => ?_)
    · exact absurd ((mI_le (by omega) (by omega)).mp h9) (by omega)
    · refine GW.iload1 dX10_patchOf_12 ?_
      refine GW.aload0 dX10_patchOf_13 (g := ?_)
      refine GW.getf fl_X10_40 dX10_patchOf_14 (by assumption) (by rfl) ?_
      refine GW.alen dX10_patchOf_17 (by assumption) (by decide) rfl ?_
      refine GW.icmp_lt (tgt := 32) dX10_patchOf_18 (by decide) (fun h18 => ?_) (fun h18 => ?_)
      · refine GW.aload0 dX10_patchOf_32 (g := ?_)
        refine GW.getf fl_X10_40 dX10_patchOf_33 (by assumption) (by rfl) ?_
        refine GW.iload1 dX10_patchOf_36 ?_
        refine GW.aald dX10_patchOf_37 (by assumption) (by assumption) (by decide) ?_
        rw [h2 i (by omega)]
        refine GW.areturn dX10_patchOf_38 (Or.inl ⟨_, rfl⟩) (by first | (dsimp only [mX10_patchOf, gM.dp, gM.kc, gM.ks]; omega) | exact Nat.le_of_ble_eq_true rfl | exact Nat.le_refl _ | omega) (by first | (dsimp only [mX10_patchOf, gM.dp, gM.kc, gM.ks]; omega) | exact Nat.le_of_ble_eq_true rfl | exact Nat.le_refl _ | omega) ?_
        exact ⟨rfl, rfl⟩
      · exact absurd ((mI_lt (b := 8) (by omega) (by omega)).mpr (by omega)) h18
abbrev mX10_queryOf (d kc ks : Nat) : gM := (RX10, cX10_queryOf, 2, (some (.object "MarlStore$Query")), [], "queryOf", d, kc, ks)
abbrev kX10_queryOf (d kc ks : Nat) (as : List Value) (G : gG) (Q : Option Value → gG → Prop) (X : String → gG → Prop) : Prop := Ctr yX10_queryOf cX10_queryOf 2 (some (.object "MarlStore$Query")) d kc ks as G Q X
theorem oX10_queryOf {d kc ks : Nat} {as : List Value} {G : gG} {Q : Option Value → gG → Prop} {X : String → gG → Prop} {L : List (Option Value)} (hL : gEnt as = L) (hlen : (lg_sl as).length ≤ 2) (g : GW (mX10_queryOf d kc ks) Q X G 0 0 0 L []) : kX10_queryOf d kc ks as G Q X := Ctr.of (by decide +kernel) rfl rfl hL hlen g
theorem c_queryOf {G : gG} {cl pc qc i : Nat} (h0 : msAt G.2.1 G.2.2 cl pc qc) (h1 : qqAt G.2.1 G.2.2) (hi6 : i < 6) (hp : qc ≤ 6) :
    kX10_queryOf 6 1 6 [.ref (G.2.1 0), .int (nI i)] G (fun v G' => i < qc ∧ v = some (va_rf (some (G.2.1 (50 + i)))) ∧ G = G') (fun E G' => qc ≤ i ∧ E = xI ∧ G = G') := by
  obtain ⟨pr, h1, h2⟩ := h1
  have l0 : gL G (G.2.1 0) (.inl (10, _)) := Or.inr ⟨0, rfl, h0⟩
  have l1 : gL G (G.2.1 21) (.inr (4, 6, .inr pr)) := Or.inr ⟨21, rfl, h1⟩
  have hix : gIx (nI i) i 6 := mI_ix (by omega) (by omega)
  refine oX10_queryOf (L := [some (.ref (G.2.1 0)), some (.int (nI i)), none, none, none, none, none, none, none, none, none, none]) rfl (Nat.le_of_ble_eq_true rfl) ?_
  refine GW.iload1 dX10_queryOf_0 ?_
  refine GW.if_lt (tgt := 21) dX10_queryOf_1 (by decide) (fun h1 => ?_) (fun h1 => ?_)
  · exact absurd h1 (mI_nonneg (by omega))
  · refine GW.iload1 dX10_queryOf_4 ?_
    refine GW.aload0 dX10_queryOf_5 (g := ?_)
    refine GW.getf fl_X10_311 dX10_queryOf_6 (by assumption) (by rfl) ?_
    refine GW.icmp_ge (tgt := 21) dX10_queryOf_9 (by decide) (fun h9 => ?_) (fun h9 => ?_)
    · have h9 := (mI_le (by omega) (by omega)).mp h9
      exact GW.throwW (cls := xI) (text := "there is no such query") rfl (by decide +kernel) kI nIx exI (by decide) dX10_queryOf_21 dX10_queryOf_24 dX10_queryOf_25 dX10_queryOf_28 dX10_queryOf_31 rfl (Nat.le_refl _) (Nat.le_refl _) (Nat.le_refl _) (Nat.le_of_ble_eq_true rfl) ⟨h9, rfl, rfl⟩
    · have h9 : i < qc := by
        rcases Nat.lt_or_ge i qc with q | q
        · exact q
        · exact absurd ((mI_le (by omega) (by omega)).mpr q) h9
      refine GW.iload1 dX10_queryOf_12 ?_
      refine GW.aload0 dX10_queryOf_13 (g := ?_)
      refine GW.getf fl_X10_80 dX10_queryOf_14 (by assumption) (by rfl) ?_
      refine GW.alen dX10_queryOf_17 (by assumption) (by decide) rfl ?_
      refine GW.icmp_lt (tgt := 32) dX10_queryOf_18 (by decide) (fun h18 => ?_) (fun h18 => ?_)
      · refine GW.aload0 dX10_queryOf_32 (g := ?_)
        refine GW.getf fl_X10_80 dX10_queryOf_33 (by assumption) (by rfl) ?_
        refine GW.iload1 dX10_queryOf_36 ?_
        refine GW.aald dX10_queryOf_37 (by assumption) (by assumption) (by decide) ?_
        rw [h2 i (by omega)]
        refine GW.areturn dX10_queryOf_38 (Or.inl ⟨_, rfl⟩) (by first | (dsimp only [mX10_queryOf, gM.dp, gM.kc, gM.ks]; omega) | exact Nat.le_of_ble_eq_true rfl | exact Nat.le_refl _ | omega) (by first | (dsimp only [mX10_queryOf, gM.dp, gM.kc, gM.ks]; omega) | exact Nat.le_of_ble_eq_true rfl | exact Nat.le_refl _ | omega) ?_
        exact ⟨h9, rfl, rfl⟩
      · exact absurd ((mI_lt (b := 6) (by omega) (by omega)).mpr (by omega)) h18
abbrev mX10_beginPatch (d kc ks : Nat) : gM := (RX10, cX10_beginPatch, 1, (some .int), [], "beginPatch", d, kc, ks)
abbrev kX10_beginPatch (d kc ks : Nat) (as : List Value) (G : gG) (Q : Option Value → gG → Prop) (X : String → gG → Prop) : Prop := Ctr yX10_beginPatch cX10_beginPatch 1 (some .int) d kc ks as G Q X
theorem oX10_beginPatch {d kc ks : Nat} {as : List Value} {G : gG} {Q : Option Value → gG → Prop} {X : String → gG → Prop} {L : List (Option Value)} (hL : gEnt as = L) (hlen : (lg_sl as).length ≤ 1) (g : GW (mX10_beginPatch d kc ks) Q X G 0 0 0 L []) : kX10_beginPatch d kc ks as G Q X := Ctr.of (by decide +kernel) rfl rfl hL hlen g
theorem c_beginPatch {G : gG} {cl pc qc : Nat} (h0 : msAt G.2.1 G.2.2 cl pc qc) (h1 : ppAt G.2.1 G.2.2) (hp : pc ≤ 8) (hpt : ∀ i, i < 8 → ∃ os, ptAt G.1 G.2.1 G.2.2 i os) :
    kX10_beginPatch 6 1 6 [.ref (G.2.1 0)] G (fun v G' => pc < 8 ∧ v = some (.int (nI pc)) ∧ ∃ mc', (G.1, G.2.1, mc') = G' ∧ (∀ q, q ≠ 0 → q ≠ 30 + pc → mc' q = G.2.2 q) ∧ msAt G.2.1 mc' cl (pc + 1) qc ∧ ptAt G.1 G.2.1 mc' pc []) (fun E G' => pc = 8 ∧ E = xS ∧ G = G') := by
  obtain ⟨im, ad, mc⟩ := G
  have h0' : mc 0 = some (.inl (10, [.ref (ad 1), .ref cl, .ref (ad 2), .ref (ad 4), .ref (ad 7), .int (nI pc), .ref (ad 8), .ref (ad 9), .ref (ad 13), .int 0, .ref (ad 19), .ref (ad 21), .int (nI qc), .ref (ad 14)])) := h0
  have l0 : gL (im, ad, mc) (ad 0) (.inl (10, [.ref (ad 1), .ref cl, .ref (ad 2), .ref (ad 4), .ref (ad 7), .int (nI pc), .ref (ad 8), .ref (ad 9), .ref (ad 13), .int 0, .ref (ad 19), .ref (ad 21), .int (nI qc), .ref (ad 14)])) := Or.inr ⟨0, rfl, h0⟩
  refine oX10_beginPatch (L := [some (.ref (ad 0)), none, none, none, none, none, none, none, none, none, none, none]) rfl (Nat.le_of_ble_eq_true rfl) ?_
  refine GW.aload0 dX10_beginPatch_0 (g := ?_)
  refine GW.getf fl_X10_220 dX10_beginPatch_1 (by assumption) (by rfl) ?_
  refine GW.bipush (v := 8) dX10_beginPatch_4 (by decide) ?_
  refine GW.icmp_lt (tgt := 20) dX10_beginPatch_6 (by decide) (fun h6 => ?_) (fun h6 => ?_)
  · have h6 : pc < 8 := (mI_lt (b := 8) (by omega) (by omega)).mp h6
    obtain ⟨os, hos0, hos1, hd, hos2, hos3⟩ := hpt pc h6
    have hos1 : mc (30 + pc) = some (.inl (4, [.int (nI os.length), .ref (ad (40 + pc))])) := hos1
    have hos2 : mc (40 + pc) = some (.inr (2, 20, .inr hd)) := hos2
    refine GW.aload0 dX10_beginPatch_20 (g := ?_)
    refine GW.dup dX10_beginPatch_21 (hv := by first | rfl | exact va_rf_cat _) (g := ?_)
    refine GW.getf fl_X10_220 dX10_beginPatch_22 (by assumption) (by rfl) ?_
    refine GW.iconst (v := 1) dX10_beginPatch_25 (by decide) ?_
    refine GW.iadd dX10_beginPatch_26 ?_
    rw [mI_succ]
    refine GW.putf (r := 0) fl_X10_220 dX10_beginPatch_27 (by first | rfl | assumption) (Nat.le_of_ble_eq_true rfl) (by first | exact ⟨rfl, rfl⟩ | exact fitq _ _ rfl) (by first | exact Or.inl rfl | exact Or.inr ⟨rfl, rfl⟩) (by first | rfl | assumption) ?_
    obtain ⟨mc1, hm1⟩ : ∃ mc1, mc1 = (fun q => if q = 0 then some (Sum.inl (10, [.ref (ad 1), .ref cl, .ref (ad 2), .ref (ad 4), .ref (ad 7), .int (nI (pc + 1)), .ref (ad 8), .ref (ad 9), .ref (ad 13), .int 0, .ref (ad 19), .ref (ad 21), .int (nI qc), .ref (ad 14)])) else mc q : Nat → Option gC) := ⟨_, rfl⟩
    rw [show gS (im, ad, mc) 0 (.inl (10, [.ref (ad 1), .ref cl, .ref (ad 2), .ref (ad 4), .ref (ad 7), .int (nI pc), .ref (ad 8), .ref (ad 9), .ref (ad 13), .int 0, .ref (ad 19), .ref (ad 21), .int (nI qc), .ref (ad 14)].set 5 (.int (nI (pc + 1))))) = (im, ad, mc1) from by rw [hm1]; rfl]
    have k0 : msAt ad mc1 cl (pc + 1) qc := by rw [hm1]; rfl
    have ko : ∀ q, q ≠ 0 → mc1 q = mc q := fun q hq => by rw [hm1]; exact if_neg hq
    have l01 : gL (im, ad, mc1) (ad 0) (.inl (10, _)) := Or.inr ⟨0, rfl, k0⟩
    refine GW.aload0 dX10_beginPatch_30 (g := ?_)
    refine GW.aload0 dX10_beginPatch_31 (g := ?_)
    refine GW.getf fl_X10_220 dX10_beginPatch_32 (by assumption) (by rfl) ?_
    refine GW.iconst (v := 1) dX10_beginPatch_35 (by decide) ?_
    refine GW.isub dX10_beginPatch_36 ?_
    rw [mI_pred (by omega), Nat.add_sub_cancel]
    have k7 : ppAt ad mc1 := by
      obtain ⟨pr, w1, w2⟩ := h1
      exact ⟨pr, (ko 7 (by decide)).trans w1, w2⟩
    refine GW.callV cv_X10_185 mt_X10_patchOf (c_patchOf (G := (im, ad, mc1)) k0 k7 (by omega) (by omega)) dX10_beginPatch_37 (by assumption) rfl rfl rfl rfl (by first | (dsimp only [mX10_beginPatch, gM.dp, gM.kc, gM.ks]; omega) | exact Nat.le_of_ble_eq_true rfl | exact Nat.le_refl _ | omega) (by decide) (by first | omega | (dsimp only [mX10_beginPatch, gM.dp, gM.kc, gM.ks]; omega)) (by first | omega | (dsimp only [mX10_beginPatch, gM.dp, gM.kc, gM.ks]; omega)) (by first | exact Nat.le_of_ble_eq_true rfl | (simp [va_rf_cat]; done) | (simp [va_rf_cat, Value.category]; done)) rfl (fun _ _ h => h.elim) (fun v37 G37 hq => ?_)
    obtain ⟨rfl, rfl⟩ := hq
    have k30 : mc1 (30 + pc) = some (.inl (4, [.int (nI os.length), .ref (ad (40 + pc))])) := (ko _ (by omega)).trans hos1
    have l30 : gL (im, ad, mc1) (ad (30 + pc)) (.inl (4, [.int (nI os.length), .ref (ad (40 + pc))])) := Or.inr ⟨30 + pc, rfl, k30⟩
    refine GW.callV cv_X10_401 mt_X4_clear (c_clear (G := (im, ad, mc1)) k30) dX10_beginPatch_40 (by assumption) rfl rfl rfl rfl (by first | (dsimp only [mX10_beginPatch, gM.dp, gM.kc, gM.ks]; omega) | exact Nat.le_of_ble_eq_true rfl | exact Nat.le_refl _ | omega) (by decide) (by first | omega | (dsimp only [mX10_beginPatch, gM.dp, gM.kc, gM.ks]; omega)) (by first | omega | (dsimp only [mX10_beginPatch, gM.dp, gM.kc, gM.ks]; omega)) (by first | exact Nat.le_of_ble_eq_true rfl | (simp [va_rf_cat]; done) | (simp [va_rf_cat, Value.category]; done)) rfl (fun _ _ h => h.elim) (fun v40 G40 hq => ?_)
    obtain ⟨rfl, rfl⟩ := hq
    have k02 : (gS (im, ad, mc1) (30 + pc) (.inl (4, [.int 0, .ref ((im, ad, mc1).2.1 (40 + pc))]))).2.2 0 = mc1 0 := by
      show (if 0 = 30 + pc then _ else mc1 0) = mc1 0
      rw [if_neg (by omega)]
    have l02 : gL (gS (im, ad, mc1) (30 + pc) (.inl (4, [.int 0, .ref ((im, ad, mc1).2.1 (40 + pc))]))) (ad 0) (.inl (10, [.ref (ad 1), .ref cl, .ref (ad 2), .ref (ad 4), .ref (ad 7), .int (nI (pc + 1)), .ref (ad 8), .ref (ad 9), .ref (ad 13), .int 0, .ref (ad 19), .ref (ad 21), .int (nI qc), .ref (ad 14)])) := Or.inr ⟨0, rfl, k02.trans k0⟩
    refine GW.aload0 dX10_beginPatch_43 (g := ?_)
    refine GW.getf fl_X10_220 dX10_beginPatch_44 (by assumption) (by rfl) ?_
    refine GW.iconst (v := 1) dX10_beginPatch_47 (by decide) ?_
    refine GW.isub dX10_beginPatch_48 ?_
    rw [mI_pred (by omega), Nat.add_sub_cancel]
    refine GW.ireturn dX10_beginPatch_49 (Or.inl rfl) (by first | (dsimp only [mX10_beginPatch, gM.dp, gM.kc, gM.ks]; omega) | exact Nat.le_of_ble_eq_true rfl | exact Nat.le_refl _ | omega) (by first | (dsimp only [mX10_beginPatch, gM.dp, gM.kc, gM.ks]; omega) | exact Nat.le_of_ble_eq_true rfl | exact Nat.le_refl _ | omega) ?_
    refine ⟨h6, rfl, _, rfl, fun q q0 q3 => ?_, k02.trans k0, by simp, ?_, hd, ?_, fun j o h => by simp at h⟩
    · show (if q = 30 + pc then _ else mc1 q) = mc q
      rw [if_neg q3]; exact ko q q0
    · show (if 30 + pc = 30 + pc then _ else _) = _
      rw [if_pos rfl]; rfl
    · show (if 40 + pc = 30 + pc then _ else mc1 _) = _
      rw [if_neg (by omega)]; exact (ko _ (by omega)).trans hos2
  · have h6 : pc = 8 := by
      rcases Nat.lt_or_ge pc 8 with q | q
      · exact absurd ((mI_lt (b := 8) (by omega) (by omega)).mpr q) h6
      · omega
    exact GW.throwW (cls := xS) (text := "there is no room for a patch") rfl (by decide +kernel) kS nSx exS (by decide) dX10_beginPatch_9 dX10_beginPatch_12 dX10_beginPatch_13 dX10_beginPatch_16 dX10_beginPatch_19 rfl (Nat.le_refl _) (Nat.le_refl _) (Nat.le_refl _) (Nat.le_of_ble_eq_true rfl) ⟨h6, rfl, rfl⟩
