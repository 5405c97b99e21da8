/-! DIFFER, write: note, writeBelow; what the group is given -/
section GWD2
variable {M : gM} {Q : Option Value → gG → Prop} {X : String → gG → Prop} {k n pc : Nat} {L : List (Option Value)} {st : List Value}
theorem GW.made2 {im : gIm} {ad ad0 : Nat → Nat} {mc mc0 : Nat → Option gC} {c c2 : gC} {a b : Nat} (h0 : ∀ r, 900 ≤ r → mc0 r = none) (hm : ∀ q, q ≠ 901 → q ≠ 902 → mc q = mc0 q) (ha : ∀ q, q ≠ 901 → q ≠ 902 → ad q = ad0 q) (h2 : mc 902 = some c) (h1 : mc 901 = some c2) (had : ad 902 = a) (had1 : ad 901 = b)
    (g : ∀ im', gLe im im' → im' a = some c → im' b = some c2 → GW M Q X (im', ad0, mc0) k n pc L st) : GW M Q X (im, ad, mc) k n pc L st := by
  subst had had1
  refine GW.frz (G := (im, ad, mc)) 901 h1 fun im1 g1 f1 => ?_
  refine GW.frz (G := (im1, ad, _)) 902 (c := c) (by simpa using h2) fun im2 g2 f2 => ?_
  refine GW.back (G := (im2, ad, _)) ad0 mc0 (fun q => ?_) (fun q c hq => ?_) (g im2 (g1.tr g2) f2 (g2 _ _ f1))
  · by_cases e2 : q = 902
    · subst e2; simp [h0]
    · by_cases e1 : q = 901
      · subst e1; simp [h0]
      · simp [e1, e2, hm q e1 e2]
  · have hlt : q < 900 := by
      rcases Nat.lt_or_ge q 900 with h | h
      · exact h
      · rw [h0 q h] at hq; cases hq
    exact (ha q (by omega) (by omega)).symm
end GWD2
/-- the DIFFER while it writes: os so far -/
def wrAt (im : gIm) (ad : Nat → Nat) (mc : Nat → Option gC) (tb pf : Nat → Int32) (wr : Nat → Option Nat) (os : List OpT) : Prop :=
  mc 9 = some (.inl (1, [.ref (ad 10), .ref (ad 11), .ref (ad 12), .int (nI os.length)])) ∧ mc 10 = some (.inr (0, 2600, .inl tb)) ∧ mc 11 = some (.inr (0, 6, .inl pf)) ∧ mc 12 = some (.inr (2, 20, .inr wr)) ∧
  ∀ (j : Nat) (o : OpT), j < 20 → os[j]? = some o → ∃ oa, wr j = some oa ∧ opAt im oa o
theorem wrAt.tb {im : gIm} {ad : Nat → Nat} {mc : Nat → Option gC} {tb pf : Nat → Int32} {wr : Nat → Option Nat} {os : List OpT} (h : wrAt im ad mc tb pf wr os) : tbAt ad mc (nI os.length) tb := ⟨h.1, h.2.1⟩
theorem wrAt.ch {im : gIm} {ad : Nat → Nat} {mc mc' : Nat → Option gC} {tb tb' pf : Nat → Int32} {wr : Nat → Option Nat} {os : List OpT} (h : wrAt im ad mc tb pf wr os) (h1 : ∀ q, q ≠ 10 → mc' q = mc q) (h2 : mc' 10 = some (.inr (0, 2600, .inl tb'))) : wrAt im ad mc' tb' pf wr os :=
  ⟨(h1 9 (by decide)).trans h.1, h2, (h1 11 (by decide)).trans h.2.2.1, (h1 12 (by decide)).trans h.2.2.2.1, h.2.2.2.2⟩
/-- how many objects are still kept: as many as the row has room for -/
def dl (a b : Nat) : Nat := min 20 (a + b) - min 20 a
theorem dl_add (a b c : Nat) : dl a b + dl (a + b) c = dl a (b + c) := by unfold dl; omega
theorem dl_mono (a : Nat) {b c : Nat} (h : b ≤ c) : dl a b ≤ dl a c := by unfold dl; omega
theorem dl_zero (a : Nat) : dl a 0 = 0 := by unfold dl; omega
theorem dl_le (a b : Nat) : dl a b ≤ 20 := by unfold dl; omega
/-- what a writer leaves -/
def wPost (im : gIm) (ad : Nat → Nat) (mc : Nat → Option gC) (tb pf : Nat → Int32) (base l : Nat) (os' : List OpT) : Option Value → gG → Prop := fun v G' => v = none ∧ ∃ im' mc' tb' pf' wr', gLe im im' ∧ (im', ad, mc') = G' ∧ (∀ q, q ≠ 9 → q ≠ 10 → q ≠ 11 → q ≠ 12 → mc' q = mc q) ∧ wrAt im' ad mc' tb' pf' wr' os' ∧ (∀ q, q < base → tb' q = tb q) ∧ (∀ q, q < l → pf' q = pf q)
section NOTE
variable {im : gIm} {ad : Nat → Nat} {mc : Nat → Option gC} {tb pf : Nat → Int32} {wr : Nat → Option Nat} {os : List OpT} {code step : Int32} {l : Nat} {vr : Option Nat} {val : Option Tr} {pre : List Int32}
abbrev mX1_note (d kc ks : Nat) : gM := (RX1, cX1_note, 5, none, [], "note", d, kc, ks)
abbrev kX1_note (d kc ks : Nat) (as : List Value) (G : gG) (Q : Option Value → gG → Prop) (X : String → gG → Prop) : Prop := Ctr yX1_note cX1_note 5 none d kc ks as G Q X
theorem oX1_note {d kc ks : Nat} {as : List Value} {G : gG} {Q : Option Value → gG → Prop} {X : String → gG → Prop} {L : List (Option Value)} (hL : gEnt as = L) (hlen : (lg_sl as).length ≤ 5) (g : GW (mX1_note d kc ks) Q X G 0 0 0 L []) : kX1_note d kc ks as G Q X := Ctr.of (by decide +kernel) rfl rfl hL hlen g
theorem c_note20 (hw : wrAt im ad mc tb pf wr os) (hl : l ≤ 6) (hpre : stps pf 0 l = pre) (hv : isO im vr val) (h20 : 20 ≤ os.length) (hb : os.length < 2 ^ 20) :
    kX1_note 3 0 0 [.ref (ad 9), .int code, .int (nI l), .int step, va_rf vr] (im, ad, mc) (fun v G' => v = none ∧ ∃ im' mc' wr', gLe im im' ∧ (im', ad, mc') = G' ∧ (∀ q, q ≠ 9 → q ≠ 12 → mc' q = mc q) ∧ wrAt im' ad mc' tb pf wr' (os ++ [(code, pre, step, val)])) noX := by
  obtain ⟨h9, h10, h11, h12, ho⟩ := hw
  have l9 : gL (im, ad, mc) (ad 9) (.inl (1, _)) := Or.inr ⟨9, rfl, h9⟩
  have l12 : gL (im, ad, mc) (ad 12) (.inr (2, 20, .inr wr)) := Or.inr ⟨12, rfl, h12⟩
  refine oX1_note (L := [some (.ref (ad 9)), some (.int code), some (.int (nI l)), some (.int step), some (va_rf vr), none, none, none, none, none, none, none]) (by cases vr <;> rfl) (by cases vr <;> exact Nat.le_of_ble_eq_true rfl) ?_
  generalize hQ : (fun (v : Option Value) (G' : gG) => v = none ∧ ∃ im' mc' wr', gLe im im' ∧ (im', ad, mc') = G' ∧ (∀ q, q ≠ 9 → q ≠ 12 → mc' q = mc q) ∧ wrAt im' ad mc' tb pf wr' (os ++ [(code, pre, step, val)])) = Q
  refine GW.aload0 dX1_note_0 (g := ?_)
  refine GW.getf fl_X1_88 dX1_note_1 (by assumption) (by rfl) ?_
  refine GW.if_lt (tgt := 60) dX1_note_4 (by decide) (fun h4 => ?_) (fun h4 => ?_)
  · exact absurd h4 (mI_nonneg (by omega))
  · refine GW.aload0 dX1_note_7 (g := ?_)
    refine GW.getf fl_X1_88 dX1_note_8 (by assumption) (by rfl) ?_
    refine GW.aload0 dX1_note_11 (g := ?_)
    refine GW.getf fl_X1_20 dX1_note_12 (by assumption) (by rfl) ?_
    refine GW.alen dX1_note_15 (by assumption) (by decide) rfl ?_
    refine GW.icmp_ge (tgt := 60) dX1_note_16 (by decide) (fun h16 => ?_) (fun h16 => ?_)
    · refine GW.aload0 dX1_note_60 (g := ?_)
      refine GW.dup dX1_note_61 (hv := by first | rfl | exact va_rf_cat _) (g := ?_)
      refine GW.getf fl_X1_88 dX1_note_62 (by assumption) (by rfl) ?_
      refine GW.iconst (v := 1) dX1_note_65 (by decide) ?_
      refine GW.iadd dX1_note_66 ?_
      rw [mI_succ]
      refine GW.putf (r := 9) fl_X1_88 dX1_note_67 (by first | rfl | assumption) (Nat.le_of_ble_eq_true rfl) (by first | exact ⟨rfl, rfl⟩ | exact fitq _ _ rfl) (by first | exact Or.inl rfl | exact Or.inr ⟨rfl, rfl⟩) (by first | rfl | assumption) ?_
      refine GW.vreturn dX1_note_70 rfl (by first | (dsimp only [mX1_note, gM.dp, gM.kc, gM.ks]; omega) | exact Nat.le_of_ble_eq_true rfl | exact Nat.le_refl _ | omega) (by first | (dsimp only [mX1_note, gM.dp, gM.kc, gM.ks]; omega) | exact Nat.le_of_ble_eq_true rfl | exact Nat.le_refl _ | omega) ?_
      subst hQ
      refine ⟨rfl, im, _, wr, gLe.rf _, rfl, fun q h _ => if_neg h, ?_, (if_neg (by decide)).trans h10, (if_neg (by decide)).trans h11, (if_neg (by decide)).trans h12, fun j o hj hjo => ?_⟩
      · refine (if_pos rfl).trans ?_
        rw [List.length_append]
        rfl
      · rw [List.getElem?_append_left (by omega)] at hjo
        exact ho j o hj hjo
    · exact absurd ((mI_le (a := 20) (by omega) (by omega)).mpr h20) h16
theorem c_noteS (h9' : frG (im, ad, mc)) (hw : wrAt im ad mc tb pf wr os) (hl : l ≤ 6) (hpre : stps pf 0 l = pre) (hv : isO im vr val) (hos : os.length < 20) :
    kX1_note 3 2 10 [.ref (ad 9), .int code, .int (nI l), .int step, va_rf vr] (im, ad, mc) (fun v G' => v = none ∧ ∃ im' mc' wr', gLe im im' ∧ (im', ad, mc') = G' ∧ (∀ q, q ≠ 9 → q ≠ 12 → mc' q = mc q) ∧ wrAt im' ad mc' tb pf wr' (os ++ [(code, pre, step, val)])) noX := by
  obtain ⟨h9, h10, h11, h12, ho⟩ := hw
  have h902 : mc 902 = none := h9' 902 (by omega)
  have h901 : mc 901 = none := h9' 901 (by omega)
  have l9 : gL (im, ad, mc) (ad 9) (.inl (1, [.ref (ad 10), .ref (ad 11), .ref (ad 12), .int (nI os.length)])) := Or.inr ⟨9, rfl, h9⟩
  have l12 : gL (im, ad, mc) (ad 12) (.inr (2, 20, .inr wr)) := Or.inr ⟨12, rfl, h12⟩
  have l11 : gL (im, ad, mc) (ad 11) (.inr (0, 6, .inl pf)) := Or.inr ⟨11, rfl, h11⟩
  refine oX1_note (L := [some (.ref (ad 9)), some (.int code), some (.int (nI l)), some (.int step), some (va_rf vr), none, none, none, none, none, none, none]) (by cases vr <;> rfl) (by cases vr <;> exact Nat.le_of_ble_eq_true rfl) ?_
  generalize hQ : (fun (v : Option Value) (G' : gG) => v = none ∧ ∃ im' mc' wr', gLe im im' ∧ (im', ad, mc') = G' ∧ (∀ q, q ≠ 9 → q ≠ 12 → mc' q = mc q) ∧ wrAt im' ad mc' tb pf wr' (os ++ [(code, pre, step, val)])) = Q
  refine GW.aload0 dX1_note_0 (g := ?_)
  refine GW.getf fl_X1_88 dX1_note_1 (by assumption) (by rfl) ?_
  refine GW.if_lt (tgt := 60) dX1_note_4 (by decide) (fun h4 => ?_) (fun h4 => ?_)
  · exact absurd h4 (mI_nonneg (by omega))
  · refine GW.aload0 dX1_note_7 (g := ?_)
    refine GW.getf fl_X1_88 dX1_note_8 (by assumption) (by rfl) ?_
    refine GW.aload0 dX1_note_11 (g := ?_)
    refine GW.getf fl_X1_20 dX1_note_12 (by assumption) (by rfl) ?_
    refine GW.alen dX1_note_15 (by assumption) (by decide) rfl ?_
    refine GW.icmp_ge (tgt := 60) dX1_note_16 (by decide) (fun h16 => ?_) (fun h16 => ?_)
    · exact absurd ((mI_le (a := 20) (by omega) (by omega)).mp h16) (by omega)
    · refine GW.iload2 dX1_note_19 ?_
      refine GW.if_lt (tgt := 60) dX1_note_20 (by decide) (fun h20 => ?_) (fun h20 => ?_)
      · exact absurd h20 (mI_nonneg (by omega))
      · refine GW.iload2 dX1_note_23 ?_
        refine GW.aload0 dX1_note_24 (g := ?_)
        refine GW.getf fl_X1_15 dX1_note_25 (by assumption) (by rfl) ?_
        refine GW.alen dX1_note_28 (by assumption) (by decide) rfl ?_
        refine GW.icmp_gt (tgt := 60) dX1_note_29 (by decide) (fun h29 => ?_) (fun h29 => ?_)
        · exact absurd ((mI_lt (a := 6) (by omega) (by omega)).mp h29) (by omega)
        · refine GW.aload0 dX1_note_32 (g := ?_)
          refine GW.getf fl_X1_20 dX1_note_33 (by assumption) (by rfl) ?_
          refine GW.aload0 dX1_note_36 (g := ?_)
          refine GW.getf fl_X1_88 dX1_note_37 (by assumption) (by rfl) ?_
          refine GW.newo nw_X1_18 902 [.int 0, .null, .int 0, .null] dX1_note_40 (by first | rfl | assumption) (by intro j hj; match j, hj with | 0, _ => rfl | 1, _ => rfl | 2, _ => rfl | 3, _ => rfl) (by first | (dsimp only [mX1_note, gM.dp, gM.kc, gM.ks]; omega) | exact Nat.le_of_ble_eq_true rfl) (by first | (dsimp only [mX1_note, gM.dp, gM.kc, gM.ks]; omega) | exact Nat.le_of_ble_eq_true rfl) (fun q40 => ?_)
          have g9 : gL (gN (im, ad, mc) 902 q40 (.inl (3, [.int 0, .null, .int 0, .null]))) (ad 9) (.inl (1, [.ref (ad 10), .ref (ad 11), .ref (ad 12), .int (nI os.length)])) := Or.inr ⟨9, rfl, h9⟩
          have g11 : gL (gN (im, ad, mc) 902 q40 (.inl (3, [.int 0, .null, .int 0, .null]))) (ad 11) (.inr (0, 6, .inl pf)) := Or.inr ⟨11, rfl, h11⟩
          refine GW.dup dX1_note_43 (hv := by first | rfl | exact va_rf_cat _) (g := ?_)
          refine GW.iload1 dX1_note_44 ?_
          refine GW.aload0 dX1_note_45 (g := ?_)
          refine GW.getf fl_X1_15 dX1_note_46 (by assumption) (by rfl) ?_
          refine GW.iload2 dX1_note_49 ?_
          refine GW.callS cs_X1_113 mt_J7_copyOf_59c91 (c_copyOf (G := gN (im, ad, mc) 902 q40 (.inl (3, [.int 0, .null, .int 0, .null]))) (n := l) (by simp [gN, h901]) g11 hl (by decide)) dX1_note_50 rfl rfl (by first | (dsimp only [mX1_note, gM.dp, gM.kc, gM.ks]; omega) | exact Nat.le_of_ble_eq_true rfl | exact Nat.le_refl _ | omega) (by decide) (by first | omega | (dsimp only [mX1_note, gM.dp, gM.kc, gM.ks]; omega)) (by first | omega | (dsimp only [mX1_note, gM.dp, gM.kc, gM.ks]; omega)) (by first | exact Nat.le_of_ble_eq_true rfl | (simp [va_rf_cat]; done) | (simp [va_rf_cat, Value.category]; done)) rfl (fun _ _ h => h.elim) (fun v50 G50 hq => ?_)
          obtain ⟨q, h, rfl, rfl, hst⟩ := hq
          refine GW.iload3 dX1_note_53 ?_
          refine GW.aload4 dX1_note_54 (g := ?_)
          refine GW.callI ci_X1_119 mt_X3_init (c_Operation (G := gN (gN (im, ad, mc) 902 q40 (.inl (3, [.int 0, .null, .int 0, .null]))) 901 q (.inr (0, l, .inl h))) (code := code) (pa := q) (step := step) (vr := vr) rfl rfl) (fun _ _ h => h) dX1_note_56 rfl rfl (by first | (dsimp only [mX1_note, gM.dp, gM.kc, gM.ks]; omega) | exact Nat.le_of_ble_eq_true rfl | exact Nat.le_refl _ | omega) (by decide) (by first | omega | (dsimp only [mX1_note, gM.dp, gM.kc, gM.ks]; omega)) (by first | omega | (dsimp only [mX1_note, gM.dp, gM.kc, gM.ks]; omega)) (by first | exact Nat.le_of_ble_eq_true rfl | (simp [va_rf_cat]; done) | (simp [va_rf_cat, Value.category]; done)) (fun v56 G56 hq => ?_)
          obtain ⟨rfl, rfl⟩ := hq
          refine GW.made2 (im := im) (ad := (gN (gN (im, ad, mc) 902 q40 (.inl (3, [.int 0, .null, .int 0, .null]))) 901 q (.inr (0, l, .inl h))).2.1) (mc := (gS (gN (gN (im, ad, mc) 902 q40 (.inl (3, [.int 0, .null, .int 0, .null]))) 901 q (.inr (0, l, .inl h))) 902 _).2.2) (ad0 := ad) (mc0 := mc) (a := q40) (b := q) (c2 := .inr (0, l, .inl h)) h9' (fun q e1 e2 => by simp [gS, gN, e1, e2]) (fun q e1 e2 => by simp [gN, e1, e2]) rfl rfl rfl rfl fun im' hle hnew hnew2 => ?_
          have hix : gIx (nI os.length) os.length 20 := mI_ix hos (by omega)
          have hlen : pre.length = l := by rw [← hpre]; exact stps_len _ _ _
          have hop : opAt im' q40 (code, pre, step, val) := ⟨q, h, vr, hnew, by rw [hlen]; exact hnew2, by rw [hlen, hst]; exact hpre.symm, isO.mono hle hv, by rw [hlen]; exact hl⟩
          refine GW.aast (v := some q40) (r := 12) dX1_note_59 h12 hix (by decide) rfl (fun w hw => by cases hw; exact ⟨_, Or.inl hnew⟩) ?_
          rw [gS_tri]
          obtain ⟨mc2, hm2⟩ : ∃ mc2, mc2 = (fun q => if q = 12 then some (.inr (2, 20, .inr (va_up wr os.length (some q40)))) else mc q : Nat → Option gC) := ⟨_, rfl⟩
          rw [← hm2]
          have ko : ∀ q, q ≠ 12 → mc2 q = mc q := fun q hq => by rw [hm2]; exact if_neg hq
          have k9 : mc2 9 = some (.inl (1, [.ref (ad 10), .ref (ad 11), .ref (ad 12), .int (nI os.length)])) := (ko 9 (by decide)).trans h9
          have k12 : mc2 12 = some (.inr (2, 20, .inr (va_up wr os.length (some q40)))) := by rw [hm2]; exact if_pos rfl
          have g9 : gL (im', ad, mc2) (ad 9) (.inl (1, [.ref (ad 10), .ref (ad 11), .ref (ad 12), .int (nI os.length)])) := Or.inr ⟨9, rfl, k9⟩
          refine GW.aload0 dX1_note_60 (g := ?_)
          refine GW.dup dX1_note_61 (hv := by first | rfl | exact va_rf_cat _) (g := ?_)
          refine GW.getf fl_X1_88 dX1_note_62 (by assumption) (by rfl) ?_
          refine GW.iconst (v := 1) dX1_note_65 (by decide) ?_
          refine GW.iadd dX1_note_66 ?_
          rw [mI_succ]
          refine GW.putf (r := 9) fl_X1_88 dX1_note_67 (by first | rfl | assumption) (Nat.le_of_ble_eq_true rfl) (by first | exact ⟨rfl, rfl⟩ | exact fitq _ _ rfl) (by first | exact Or.inl rfl | exact Or.inr ⟨rfl, rfl⟩) (by first | rfl | assumption) ?_
          refine GW.vreturn dX1_note_70 rfl (by first | (dsimp only [mX1_note, gM.dp, gM.kc, gM.ks]; omega) | exact Nat.le_of_ble_eq_true rfl | exact Nat.le_refl _ | omega) (by first | (dsimp only [mX1_note, gM.dp, gM.kc, gM.ks]; omega) | exact Nat.le_of_ble_eq_true rfl | exact Nat.le_refl _ | omega) ?_
          subst hQ
          refine ⟨rfl, im', _, va_up wr os.length (some q40), hle, rfl, fun q e1 e2 => (if_neg e1).trans (ko q e2), ?_, (if_neg (by decide)).trans ((ko 10 (by decide)).trans h10), (if_neg (by decide)).trans ((ko 11 (by decide)).trans h11), (if_neg (by decide)).trans k12, fun j o hj hjo => ?_⟩
          · refine (if_pos rfl).trans ?_
            rw [List.length_append]
            rfl
          · rcases Nat.lt_or_ge j os.length with hjl | hjl
            · rw [List.getElem?_append_left hjl] at hjo
              obtain ⟨b, q1, q2⟩ := ho j o hj hjo
              exact ⟨b, by simp [va_up, Nat.ne_of_lt hjl, q1], q2.mono hle⟩
            · rw [List.getElem?_append_right hjl] at hjo
              have hz : j - os.length < 1 := (List.getElem?_eq_some_iff.mp hjo).1
              have hje : j = os.length := by omega
              subst hje
              simp at hjo
              subst hjo
              exact ⟨q40, by simp [va_up], hop⟩
theorem c_note (h9' : frG (im, ad, mc)) (hw : wrAt im ad mc tb pf wr os) (hl : l ≤ 6) (hpre : stps pf 0 l = pre) (hv : isO im vr val) (hb : os.length < 2 ^ 20) (base : Nat) :
    kX1_note 3 (2 * dl os.length 1) (10 * dl os.length 1) [.ref (ad 9), .int code, .int (nI l), .int step, va_rf vr] (im, ad, mc) (wPost im ad mc tb pf base 6 (os ++ [(code, pre, step, val)])) noX := by
  rcases Nat.lt_or_ge os.length 20 with h | h
  · have e : dl os.length 1 = 1 := by unfold dl; omega
    rw [e]
    refine (c_noteS h9' hw hl hpre hv h).post ?_ (fun _ _ h => h)
    rintro v G' ⟨rfl, im', mc', wr', g1, g2, g3, g4⟩
    exact ⟨rfl, im', mc', tb, pf, wr', g1, g2, fun q e1 _ _ e4 => g3 q e1 e4, g4, fun _ _ => rfl, fun _ _ => rfl⟩
  · have e : dl os.length 1 = 0 := by unfold dl; omega
    rw [e]
    refine (c_note20 hw hl hpre hv h hb).post ?_ (fun _ _ h => h)
    rintro v G' ⟨rfl, im', mc', wr', g1, g2, g3, g4⟩
    exact ⟨rfl, im', mc', tb, pf, wr', g1, g2, fun q e1 _ _ e4 => g3 q e1 e4, g4, fun _ _ => rfl, fun _ _ => rfl⟩
end NOTE
abbrev mX1_writeAt (d kc ks : Nat) : gM := (RX1, cX1_writeAt, 6, none, [], "writeAt", d, kc, ks)
abbrev kX1_writeAt (d kc ks : Nat) (as : List Value) (G : gG) (Q : Option Value → gG → Prop) (X : String → gG → Prop) : Prop := Ctr yX1_writeAt cX1_writeAt 6 none d kc ks as G Q X
theorem oX1_writeAt {d kc ks : Nat} {as : List Value} {G : gG} {Q : Option Value → gG → Prop} {X : String → gG → Prop} {L : List (Option Value)} (hL : gEnt as = L) (hlen : (lg_sl as).length ≤ 6) (g : GW (mX1_writeAt d kc ks) Q X G 0 0 0 L []) : kX1_writeAt d kc ks as G Q X := Ctr.of (by decide +kernel) rfl rfl hL hlen g
abbrev mX1_writeLists (d kc ks : Nat) : gM := (RX1, cX1_writeLists, 11, none, [], "writeLists", d, kc, ks)
abbrev kX1_writeLists (d kc ks : Nat) (as : List Value) (G : gG) (Q : Option Value → gG → Prop) (X : String → gG → Prop) : Prop := Ctr yX1_writeLists cX1_writeLists 11 none d kc ks as G Q X
theorem oX1_writeLists {d kc ks : Nat} {as : List Value} {G : gG} {Q : Option Value → gG → Prop} {X : String → gG → Prop} {L : List (Option Value)} (hL : gEnt as = L) (hlen : (lg_sl as).length ≤ 11) (g : GW (mX1_writeLists d kc ks) Q X G 0 0 0 L []) : kX1_writeLists d kc ks as G Q X := Ctr.of (by decide +kernel) rfl rfl hL hlen g
abbrev mX1_writeObjects (d kc ks : Nat) : gM := (RX1, cX1_writeObjects, 9, none, [], "writeObjects", d, kc, ks)
abbrev kX1_writeObjects (d kc ks : Nat) (as : List Value) (G : gG) (Q : Option Value → gG → Prop) (X : String → gG → Prop) : Prop := Ctr yX1_writeObjects cX1_writeObjects 9 none d kc ks as G Q X
theorem oX1_writeObjects {d kc ks : Nat} {as : List Value} {G : gG} {Q : Option Value → gG → Prop} {X : String → gG → Prop} {L : List (Option Value)} (hL : gEnt as = L) (hlen : (lg_sl as).length ≤ 9) (g : GW (mX1_writeObjects d kc ks) Q X G 0 0 0 L []) : kX1_writeObjects d kc ks as G Q X := Ctr.of (by decide +kernel) rfl rfl hL hlen g
abbrev mX1_writeBelow (d kc ks : Nat) : gM := (RX1, cX1_writeBelow, 6, none, [], "writeBelow", d, kc, ks)
abbrev kX1_writeBelow (d kc ks : Nat) (as : List Value) (G : gG) (Q : Option Value → gG → Prop) (X : String → gG → Prop) : Prop := Ctr yX1_writeBelow cX1_writeBelow 6 none d kc ks as G Q X
theorem oX1_writeBelow {d kc ks : Nat} {as : List Value} {G : gG} {Q : Option Value → gG → Prop} {X : String → gG → Prop} {L : List (Option Value)} (hL : gEnt as = L) (hlen : (lg_sl as).length ≤ 6) (g : GW (mX1_writeBelow d kc ks) Q X G 0 0 0 L []) : kX1_writeBelow d kc ks as G Q X := Ctr.of (by decide +kernel) rfl rfl hL hlen g
/-- writeAt writes, at depth n -/
def Wt (n : Nat) : Prop := ∀ {im : gIm} {ad : Nat → Nat} {mc : Nat → Option gC} {tb pf : Nat → Int32} {wr : Nat → Option Nat} {os : List OpT} {pre : List Int32} {a b l base : Nat} {t u : Tr}, isV im a t → isV im b u → wfT t → wfT u → dpT t ≤ n → dpT u ≤ n → szT t ≤ 50 → szT u ≤ 50 → l + n = 7 → base + szT t * szT u + dpT t ≤ 2600 → frG (im, ad, mc) → wrAt im ad mc tb pf wr os → stps pf 0 l = pre → os.length + 100 * n < 2 ^ 19 →
  kX1_writeAt (3 * n + 40) (2 * dl os.length (Wr n pre t u).length) (10 * dl os.length (Wr n pre t u).length) [.ref (ad 9), va_rf (some a), va_rf (some b), .int (nI l), .int (nI base)] (im, ad, mc) (wPost im ad mc tb pf base l (os ++ Wr n pre t u)) noX
theorem c_writeBelow {n : Nat} (hW : Wt n) {im : gIm} {ad : Nat → Nat} {mc : Nat → Option gC} {tb pf : Nat → Int32} {wr : Nat → Option Nat} {os : List OpT} {pre : List Int32} {a b l base : Nat} {t u : Tr} {s : Int32} (hv : isV im a t) (hu : isV im b u) (hwt : wfT t) (hwu : wfT u) (hd : dpT t ≤ n) (hdu : dpT u ≤ n) (h6 : szT t ≤ 50) (h7 : szT u ≤ 50) (hl : l + n = 6) (hr : base + szT t * szT u + dpT t ≤ 2600) (h9 : frG (im, ad, mc)) (hw : wrAt im ad mc tb pf wr os) (hpre : stps pf 0 l = pre) (hb : os.length + 100 * n < 2 ^ 19) :
    kX1_writeBelow (3 * n + 41) (2 * dl os.length (Wr n (pre ++ [s]) t u).length) (10 * dl os.length (Wr n (pre ++ [s]) t u).length) [.ref (ad 9), va_rf (some a), va_rf (some b), .int s, .int (nI l), .int (nI base)] (im, ad, mc) (wPost im ad mc tb pf base l (os ++ Wr n (pre ++ [s]) t u)) noX := by
  have hd1 : 1 ≤ dpT t := Nat.le_add_right 1 _
  have lt9 := tbAt.gl (G := (im, ad, mc)) hw.tb
  have l11 : gL (im, ad, mc) (ad 11) (.inr (0, 6, .inl pf)) := Or.inr ⟨11, rfl, hw.2.2.1⟩
  have h11 : mc 11 = some (.inr (0, 6, .inl pf)) := hw.2.2.1
  refine oX1_writeBelow (L := [some (.ref (ad 9)), some (va_rf (some a)), some (va_rf (some b)), some (.int s), some (.int (nI l)), some (.int (nI base)), none, none, none, none, none, none]) rfl (Nat.le_of_ble_eq_true rfl) ?_
  generalize hQ : wPost im ad mc tb pf base l (os ++ Wr n (pre ++ [s]) t u) = Q
  refine GW.iload4 dX1_writeBelow_0 ?_
  refine GW.if_lt (tgt := 35) dX1_writeBelow_2 (by decide) (fun h2 => ?_) (fun h2 => ?_)
  · exact absurd h2 (mI_nonneg (by omega))
  · refine GW.iload4 dX1_writeBelow_5 ?_
    refine GW.aload0 dX1_writeBelow_7 (g := ?_)
    refine GW.getf fl_X1_15 dX1_writeBelow_8 (by assumption) (by rfl) ?_
    refine GW.alen dX1_writeBelow_11 (by assumption) (by decide) rfl ?_
    refine GW.icmp_ge (tgt := 35) dX1_writeBelow_12 (by decide) (fun h12 => ?_) (fun h12 => ?_)
    · exact absurd ((mI_le (a := 6) (by omega) (by omega)).mp h12) (by omega)
    · have hix : gIx (nI l) l 6 := mI_ix (by omega) (by omega)
      refine GW.aload0 dX1_writeBelow_15 (g := ?_)
      refine GW.getf fl_X1_15 dX1_writeBelow_16 (by assumption) (by rfl) ?_
      refine GW.iload4 dX1_writeBelow_19 ?_
      refine GW.iload3 dX1_writeBelow_21 ?_
      refine GW.iast (r := 11) dX1_writeBelow_22 (by first | assumption | rfl) (by assumption) (by first | assumption | rfl) ?_
      rw [gS_tri]
      obtain ⟨mc2, hm2⟩ : ∃ mc2, mc2 = (fun q => if q = 11 then some (.inr (0, 6, .inl (upd pf l s))) else mc q : Nat → Option gC) := ⟨_, rfl⟩
      rw [← hm2]
      have ko : ∀ q, q ≠ 11 → mc2 q = mc q := fun q hq => by rw [hm2]; exact if_neg hq
      have hw2 : wrAt im ad mc2 tb (upd pf l s) wr os := ⟨(ko 9 (by decide)).trans hw.1, (ko 10 (by decide)).trans hw.2.1, by rw [hm2]; exact if_pos rfl, (ko 12 (by decide)).trans hw.2.2.2.1, hw.2.2.2.2⟩
      have h92 : frG (im, ad, mc2) := fun q hq => (ko q (by omega)).trans (h9 q hq)
      have hp2 : stps (upd pf l s) 0 (l + 1) = pre ++ [s] := by
        rw [stps_snoc, ← hpre]
        congr 1
        · exact stps_congr fun i hi => by simp [upd, Nat.ne_of_lt hi]
        · simp [upd]
      have lt92 := tbAt.gl (G := (im, ad, mc2)) hw2.tb
      refine GW.aload0 dX1_writeBelow_23 (g := ?_)
      refine GW.aload1 dX1_writeBelow_24 (g := ?_)
      refine GW.aload2 dX1_writeBelow_25 (g := ?_)
      refine GW.iload4 dX1_writeBelow_26 ?_
      refine GW.iconst (v := 1) dX1_writeBelow_28 (by decide) ?_
      refine GW.iadd dX1_writeBelow_29 ?_
      rw [mI_succ]
      refine GW.iload5 dX1_writeBelow_30 ?_
      refine GW.callV cv_X1_91 mt_X1_writeAt (hW (l := l + 1) (base := base) hv hu hwt hwu hd hdu h6 h7 (by omega) hr h92 hw2 hp2 hb) dX1_writeBelow_32 (by first | assumption | exact isV.gl (by assumption) | exact tbAt.gl (by assumption)) rfl rfl rfl rfl (by first | (dsimp only [mX1_writeBelow, gM.dp, gM.kc, gM.ks]; omega) | exact Nat.le_of_ble_eq_true rfl | exact Nat.le_refl _ | omega) (by decide) (by first | omega | (dsimp only [mX1_writeBelow, gM.dp, gM.kc, gM.ks]; omega)) (by first | omega | (dsimp only [mX1_writeBelow, gM.dp, gM.kc, gM.ks]; omega)) (by first | exact Nat.le_of_ble_eq_true rfl | (simp [va_rf_cat]; done) | (simp [va_rf_cat, Value.category]; done)) rfl (fun _ _ h => h.elim) (fun v32 G32 hq => ?_)
      obtain ⟨rfl, im', mc', tb', pf', wr', g1, rfl, g3, g4, g5, g6⟩ := hq
      refine GW.vreturn dX1_writeBelow_35 rfl (by first | (dsimp only [mX1_writeBelow, gM.dp, gM.kc, gM.ks]; omega) | exact Nat.le_of_ble_eq_true rfl | exact Nat.le_refl _ | omega) (by first | (dsimp only [mX1_writeBelow, gM.dp, gM.kc, gM.ks]; omega) | exact Nat.le_of_ble_eq_true rfl | exact Nat.le_refl _ | omega) ?_
      subst hQ
      refine ⟨rfl, im', mc', tb', pf', wr', g1, rfl, fun q e1 e2 e3 e4 => (g3 q e1 e2 e3 e4).trans (ko q e3), g4, g5, fun q hq => ?_⟩
      rw [g6 q (by omega)]
      simp [upd, Nat.ne_of_lt hq]
