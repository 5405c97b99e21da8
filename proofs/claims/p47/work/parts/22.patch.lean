/-! OPERATION, PATCH (roles 30 + i, its row 40 + i), POINTER (role 2, its path 3) -/
/-- code, path, step, value -/
abbrev OpT : Type := Int32 × List Int32 × Int32 × Option Tr
def opAt (im : gIm) (oa : Nat) (o : OpT) : Prop := ∃ pa f vr, im oa = some (.inl (3, [.int o.1, .ref pa, .int o.2.2.1, va_rf vr])) ∧ im pa = some (.inr (0, o.2.1.length, .inl f)) ∧ o.2.1 = stps f 0 o.2.1.length ∧ isO im vr o.2.2.2 ∧ o.2.1.length ≤ 6
theorem opAt.mono {im im' : gIm} (hle : gLe im im') {oa : Nat} {o : OpT} (h : opAt im oa o) : opAt im' oa o := by
  obtain ⟨pa, f, vr, h1, h2, h3, h4, h5⟩ := h
  exact ⟨pa, f, vr, hle _ _ h1, hle _ _ h2, h3, h4.mono hle, h5⟩
def opOk (o : OpT) : Prop := (o.1 = 0 ∧ ∃ v, o.2.2.2 = some v) ∨ o.1 = 1 ∨ (o.1 = 2 ∧ ∃ v, o.2.2.2 = some v)
def opRun (o : OpT) (t : Tr) : Option Tr := if o.1 = 0 then o.2.2.2.bind (doAdd t o.2.1 o.2.2.1) else if o.1 = 1 then doDrop t o.2.1 o.2.2.1 else o.2.2.2.bind (doPut t o.2.1)
def opTk (o : OpT) (t : Tr) : Option Tr := if o.1 = 0 then none else if o.1 = 1 then tkDrop t o.2.1 o.2.2.1 else belT t o.2.1
def opSz (o : OpT) : Nat := match o.2.2.2 with
  | none => 0
  | some v => szT v
abbrev mX2_perform (d kc ks : Nat) : gM := (RX2, cX2_perform, 3, (some .boolean), [], "perform", d, kc, ks)
abbrev kX2_perform (d kc ks : Nat) (as : List Value) (G : gG) (Q : Option Value → gG → Prop) (X : String → gG → Prop) : Prop := Ctr yX2_perform cX2_perform 3 (some .boolean) d kc ks as G Q X
theorem oX2_perform {d kc ks : Nat} {as : List Value} {G : gG} {Q : Option Value → gG → Prop} {X : String → gG → Prop} {L : List (Option Value)} (hL : gEnt as = L) (hlen : (lg_sl as).length ≤ 3) (g : GW (mX2_perform d kc ks) Q X G 0 0 0 L []) : kX2_perform d kc ks as G Q X := Ctr.of (by decide +kernel) rfl rfl hL hlen g
theorem c_perform {G : gG} {w oa : Nat} {o : OpT} {t : Tr} {tk : Option Nat} {len : Int32} {pr : Nat → Option Nat} {pl : Nat → Int32} (h9 : frG G) (he : edAt G.2.1 G.2.2 (some w) tk len pr pl) (hv : isV G.1 w t) (ho : opAt G.1 oa o) (hok : opOk o) (hs : szT t + opSz o < 2 ^ 18) :
    kX2_perform 5 15 (3 * szT t + 44) [.ref (G.2.1 4), .ref oa] G (edPost G t (opRun o t) (opTk o t)) noX := by
  obtain ⟨pa, f, vr, h1, h2, h3, h4, h5⟩ := id ho
  have l1 : gL G oa (.inl (3, _)) := Or.inl h1
  have l2 : gL G pa (.inr (0, _, .inl f)) := Or.inl h2
  have l4 : gL G (G.2.1 4) (.inl (2, _)) := Or.inr ⟨4, rfl, he.1⟩
  have hpa : pathAt G.1 G.2.1 G.2.2 pa o.2.1.length f := Or.inl h2
  refine oX2_perform (L := [some (.ref (G.2.1 4)), some (.ref oa), none, none, none, none, none, none, none, none, none, none]) rfl (Nat.le_of_ble_eq_true rfl) ?_
  generalize hQ : edPost G t (opRun o t) (opTk o t) = Q
  refine GW.aload1 dX2_perform_0 (g := ?_)
  refine GW.getf fl_X2_35 dX2_perform_1 (by assumption) (by rfl) ?_
  refine GW.astore2 dX2_perform_4 (g := ?_)
  refine GW.aload1 dX2_perform_5 (g := ?_)
  refine GW.getf fl_X2_40 dX2_perform_6 (by assumption) (by rfl) ?_
  have e01 : ∀ (x : Option Tr), (if x.isSome then (1 : Int32) else 0) = 0 ∨ (if x.isSome then (1 : Int32) else 0) = 1 := fun x => by cases x <;> simp
  rcases hok with ⟨hc, v, hval⟩ | hc | ⟨hc, v, hval⟩
  · rw [hc]
    refine GW.tableIn (tgt := 36) dX2_perform_9 (by decide) (by decide) (off := 27) (by decide) (by decide) ?_
    cases vr with
    | none => rw [hval] at h4; exact h4.elim
    | some b =>
      rw [hval] at h4
      have hsz : opSz o = szT v := by unfold opSz; rw [hval]
      refine GW.aload0 dX2_perform_36 (g := ?_)
      refine GW.aload2 dX2_perform_37 (g := ?_)
      refine GW.aload2 dX2_perform_38 (g := ?_)
      refine GW.alen dX2_perform_39 (by assumption) (by decide) rfl ?_
      refine GW.aload1 dX2_perform_40 (g := ?_)
      refine GW.getf fl_X2_43 dX2_perform_41 (by assumption) (by rfl) ?_
      refine GW.aload1 dX2_perform_44 (g := ?_)
      refine GW.getf fl_X2_46 dX2_perform_45 (by assumption) (by rfl) ?_
      refine GW.callV cv_X2_49 mt_X2_addAt (c_addAt (G := G) (s := o.2.2.1) h9 he hv h4 (by omega) hpa (Nat.le_refl _) (by omega) h5) dX2_perform_48 (by assumption) rfl rfl rfl rfl (by first | (dsimp only [mX2_perform, gM.dp, gM.kc, gM.ks]; omega) | exact Nat.le_of_ble_eq_true rfl | exact Nat.le_refl _ | omega) (by decide) (by first | omega | (dsimp only [mX2_perform, gM.dp, gM.kc, gM.ks]; omega)) (by first | omega | (dsimp only [mX2_perform, gM.dp, gM.kc, gM.ks]; omega)) (by first | exact Nat.le_of_ble_eq_true rfl | (simp [va_rf_cat]; done) | (simp [va_rf_cat, Value.category]; done)) rfl (fun _ _ h => h.elim) (fun v48 G48 hq => ?_)
      rw [← h3] at hq
      obtain ⟨im', mc', w', tk', len', pr', pl', rfl, q1, q2, q3⟩ := hq
      have := e01 (doAdd t o.2.1 o.2.2.1 v)
      refine GW.ireturn dX2_perform_51 (Or.inr ⟨rfl, by first | exact Or.inl rfl | exact Or.inr rfl | assumption⟩) (by first | (dsimp only [mX2_perform, gM.dp, gM.kc, gM.ks]; omega) | exact Nat.le_of_ble_eq_true rfl | exact Nat.le_refl _ | omega) (by first | (dsimp only [mX2_perform, gM.dp, gM.kc, gM.ks]; omega) | exact Nat.le_of_ble_eq_true rfl | exact Nat.le_refl _ | omega) ?_
      subst hQ
      have e1 : opRun o t = doAdd t o.2.1 o.2.2.1 v := by unfold opRun; rw [if_pos hc, hval]; rfl
      have e2 : opTk o t = none := by unfold opTk; rw [if_pos hc]
      rw [e1, e2]
      exact ⟨im', mc', w', tk', len', pr', pl', rfl, q1, q2, q3⟩
  · have hc0 : ¬ o.1 = 0 := by rw [hc]; decide
    rw [hc]
    refine GW.tableIn (tgt := 52) dX2_perform_9 (by decide) (by decide) (off := 43) (by decide) (by decide) ?_
    refine GW.aload0 dX2_perform_52 (g := ?_)
    refine GW.aload2 dX2_perform_53 (g := ?_)
    refine GW.aload2 dX2_perform_54 (g := ?_)
    refine GW.alen dX2_perform_55 (by assumption) (by decide) rfl ?_
    refine GW.aload1 dX2_perform_56 (g := ?_)
    refine GW.getf fl_X2_43 dX2_perform_57 (by assumption) (by rfl) ?_
    refine GW.callV cv_X2_53 mt_X2_dropAt (c_dropAt (G := G) (s := o.2.2.1) h9 he hv (by omega) hpa (Nat.le_refl _) (by omega) h5) dX2_perform_60 (by assumption) rfl rfl rfl rfl (by first | (dsimp only [mX2_perform, gM.dp, gM.kc, gM.ks]; omega) | exact Nat.le_of_ble_eq_true rfl | exact Nat.le_refl _ | omega) (by decide) (by first | omega | (dsimp only [mX2_perform, gM.dp, gM.kc, gM.ks]; omega)) (by first | omega | (dsimp only [mX2_perform, gM.dp, gM.kc, gM.ks]; omega)) (by first | exact Nat.le_of_ble_eq_true rfl | (simp [va_rf_cat]; done) | (simp [va_rf_cat, Value.category]; done)) rfl (fun _ _ h => h.elim) (fun v60 G60 hq => ?_)
    rw [← h3] at hq
    obtain ⟨im', mc', w', tk', len', pr', pl', rfl, q1, q2, q3⟩ := hq
    have := e01 (doDrop t o.2.1 o.2.2.1)
    refine GW.ireturn dX2_perform_63 (Or.inr ⟨rfl, by first | exact Or.inl rfl | exact Or.inr rfl | assumption⟩) (by first | (dsimp only [mX2_perform, gM.dp, gM.kc, gM.ks]; omega) | exact Nat.le_of_ble_eq_true rfl | exact Nat.le_refl _ | omega) (by first | (dsimp only [mX2_perform, gM.dp, gM.kc, gM.ks]; omega) | exact Nat.le_of_ble_eq_true rfl | exact Nat.le_refl _ | omega) ?_
    subst hQ
    have e1 : opRun o t = doDrop t o.2.1 o.2.2.1 := by unfold opRun; rw [if_neg hc0, if_pos hc]
    have e2 : opTk o t = tkDrop t o.2.1 o.2.2.1 := by unfold opTk; rw [if_neg hc0, if_pos hc]
    rw [e1, e2]
    exact ⟨im', mc', w', tk', len', pr', pl', rfl, q1, q2, q3⟩
  · have hc0 : ¬ o.1 = 0 := by rw [hc]; decide
    have hc1 : ¬ o.1 = 1 := by rw [hc]; decide
    rw [hc]
    refine GW.tableIn (tgt := 64) dX2_perform_9 (by decide) (by decide) (off := 55) (by decide) (by decide) ?_
    cases vr with
    | none => rw [hval] at h4; exact h4.elim
    | some b =>
      rw [hval] at h4
      have hsz : opSz o = szT v := by unfold opSz; rw [hval]
      refine GW.aload0 dX2_perform_64 (g := ?_)
      refine GW.aload2 dX2_perform_65 (g := ?_)
      refine GW.aload2 dX2_perform_66 (g := ?_)
      refine GW.alen dX2_perform_67 (by assumption) (by decide) rfl ?_
      refine GW.aload1 dX2_perform_68 (g := ?_)
      refine GW.getf fl_X2_46 dX2_perform_69 (by assumption) (by rfl) ?_
      refine GW.callV cv_X2_57 mt_X2_putAt (c_putAt (G := G) h9 he hv h4 (by omega) hpa (Nat.le_refl _) (by omega) h5) dX2_perform_72 (by assumption) rfl rfl rfl rfl (by first | (dsimp only [mX2_perform, gM.dp, gM.kc, gM.ks]; omega) | exact Nat.le_of_ble_eq_true rfl | exact Nat.le_refl _ | omega) (by decide) (by first | omega | (dsimp only [mX2_perform, gM.dp, gM.kc, gM.ks]; omega)) (by first | omega | (dsimp only [mX2_perform, gM.dp, gM.kc, gM.ks]; omega)) (by first | exact Nat.le_of_ble_eq_true rfl | (simp [va_rf_cat]; done) | (simp [va_rf_cat, Value.category]; done)) rfl (fun _ _ h => h.elim) (fun v72 G72 hq => ?_)
      rw [← h3] at hq
      obtain ⟨im', mc', w', tk', len', pr', pl', rfl, q1, q2, q3⟩ := hq
      have := e01 (doPut t o.2.1 v)
      refine GW.ireturn dX2_perform_75 (Or.inr ⟨rfl, by first | exact Or.inl rfl | exact Or.inr rfl | assumption⟩) (by first | (dsimp only [mX2_perform, gM.dp, gM.kc, gM.ks]; omega) | exact Nat.le_of_ble_eq_true rfl | exact Nat.le_refl _ | omega) (by first | (dsimp only [mX2_perform, gM.dp, gM.kc, gM.ks]; omega) | exact Nat.le_of_ble_eq_true rfl | exact Nat.le_refl _ | omega) ?_
      subst hQ
      have e1 : opRun o t = doPut t o.2.1 v := by unfold opRun; rw [if_neg hc0, if_neg hc1, hval]; rfl
      have e2 : opTk o t = belT t o.2.1 := by unfold opTk; rw [if_neg hc0, if_neg hc1]
      rw [e1, e2]
      exact ⟨im', mc', w', tk', len', pr', pl', rfl, q1, q2, q3⟩
abbrev mX3_init (d kc ks : Nat) : gM := (RX3, cX3_init, 5, none, [], "<init>", d, kc, ks)
abbrev kX3_init (d kc ks : Nat) (as : List Value) (G : gG) (Q : Option Value → gG → Prop) (X : String → gG → Prop) : Prop := Ctr yX3_init cX3_init 5 none d kc ks as G Q X
theorem oX3_init {d kc ks : Nat} {as : List Value} {G : gG} {Q : Option Value → gG → Prop} {X : String → gG → Prop} {L : List (Option Value)} (hL : gEnt as = L) (hlen : (lg_sl as).length ≤ 5) (g : GW (mX3_init d kc ks) Q X G 0 0 0 L []) : kX3_init d kc ks as G Q X := Ctr.of (by decide +kernel) rfl rfl hL hlen g
theorem c_Operation {G : gG} {a pa : Nat} {code step : Int32} {vr : Option Nat} (hr : G.2.2 902 = some (.inl (3, [.int 0, .null, .int 0, .null]))) (ha : G.2.1 902 = a) :
    kX3_init 1 0 0 [.ref a, .int code, .ref pa, .int step, va_rf vr] G (fun v G' => v = none ∧ gS G 902 (.inl (3, [.int code, .ref pa, .int step, va_rf vr])) = G') noX := by
  refine oX3_init (L := [some (.ref a), some (.int code), some (.ref pa), some (.int step), some (va_rf vr), none, none, none, none, none, none, none]) (by cases vr <;> rfl) (by cases vr <;> exact Nat.le_of_ble_eq_true rfl) ?_
  refine GW.aload0 dX3_init_0 (g := ?_)
  refine GW.objInit oi_X3_3 oi_i oi_c dX3_init_1 (by first | exact Nat.le_of_ble_eq_true rfl | omega) (Nat.le_of_ble_eq_true rfl) ?_
  refine GW.aload0 dX3_init_4 (g := ?_)
  refine GW.iload1 dX3_init_5 ?_
  refine GW.putf (r := 902) fl_X3_9 dX3_init_6 (by first | rfl | assumption) (Nat.le_of_ble_eq_true rfl) (by first | exact ⟨rfl, rfl⟩ | exact fitq _ _ rfl) (by first | exact Or.inl rfl | exact Or.inr ⟨rfl, rfl⟩) (by first | rfl | assumption) ?_
  refine GW.aload0 dX3_init_9 (g := ?_)
  refine GW.aload2 dX3_init_10 (g := ?_)
  refine GW.putf (r := 902) fl_X3_15 dX3_init_11 (by first | rfl | assumption) (Nat.le_of_ble_eq_true rfl) (by first | exact ⟨rfl, rfl⟩ | exact fitq _ _ rfl) (by first | exact Or.inl rfl | exact Or.inr ⟨rfl, rfl⟩) (by first | rfl | assumption) ?_
  refine GW.aload0 dX3_init_14 (g := ?_)
  refine GW.iload3 dX3_init_15 ?_
  refine GW.putf (r := 902) fl_X3_19 dX3_init_16 (by first | rfl | assumption) (Nat.le_of_ble_eq_true rfl) (by first | exact ⟨rfl, rfl⟩ | exact fitq _ _ rfl) (by first | exact Or.inl rfl | exact Or.inr ⟨rfl, rfl⟩) (by first | rfl | assumption) ?_
  refine GW.aload0 dX3_init_19 (g := ?_)
  refine GW.aload4 dX3_init_20 (g := ?_)
  refine GW.putf (r := 902) fl_X3_22 dX3_init_22 (by first | rfl | assumption) (Nat.le_of_ble_eq_true rfl) (by first | exact ⟨rfl, rfl⟩ | exact fitq _ _ rfl) (by first | exact Or.inl rfl | exact Or.inr ⟨rfl, rfl⟩) (by first | rfl | assumption) ?_
  simp only [gS_gS]
  refine GW.vreturn dX3_init_25 rfl (by first | (dsimp only [mX3_init, gM.dp, gM.kc, gM.ks]; omega) | exact Nat.le_of_ble_eq_true rfl | exact Nat.le_refl _ | omega) (by first | (dsimp only [mX3_init, gM.dp, gM.kc, gM.ks]; omega) | exact Nat.le_of_ble_eq_true rfl | exact Nat.le_refl _ | omega) ?_
  exact ⟨rfl, rfl⟩
section GWD1
variable {M : gM} {Q : Option Value → gG → Prop} {X : String → gG → Prop} {k n pc : Nat} {L : List (Option Value)} {st : List Value}
theorem GW.made1 {im : gIm} {ad ad0 : Nat → Nat} {mc mc0 : Nat → Option gC} {c : gC} {a : Nat} (h0 : ∀ r, 900 ≤ r → mc0 r = none) (hm : ∀ q, q ≠ 902 → mc q = mc0 q) (ha : ∀ q, q ≠ 902 → ad q = ad0 q) (h2 : mc 902 = some c) (had : ad 902 = a)
    (g : ∀ im', gLe im im' → im' a = some c → GW M Q X (im', ad0, mc0) k n pc L st) : GW M Q X (im, ad, mc) k n pc L st := by
  subst had
  refine GW.frz (G := (im, ad, mc)) 902 h2 fun im' h1 h3 => ?_
  refine GW.back (G := (im', ad, _)) ad0 mc0 (fun q => ?_) (fun q c hq => ?_) (g im' h1 h3)
  · by_cases e : q = 902
    · subst e; simp [h0]
    · simp [e, hm q e]
  · have hlt : q < 900 := by
      rcases Nat.lt_or_ge q 900 with h | h
      · exact h
      · rw [h0 q h] at hq; cases hq
    exact (ha q (by omega)).symm
end GWD1
/-- the OPERATION that undoes one, with what it took out -/
def opInv (o : OpT) (tk : Option Tr) : OpT := if o.1 = 0 then (1, o.2.1, o.2.2.1, none) else if o.1 = 1 then (0, o.2.1, o.2.2.1, tk) else (2, o.2.1, o.2.2.1, tk)
abbrev mX3_inverse (d kc ks : Nat) : gM := (RX3, cX3_inverse, 2, (some (.object "MarlStore$Operation")), [], "inverse", d, kc, ks)
abbrev kX3_inverse (d kc ks : Nat) (as : List Value) (G : gG) (Q : Option Value → gG → Prop) (X : String → gG → Prop) : Prop := Ctr yX3_inverse cX3_inverse 2 (some (.object "MarlStore$Operation")) d kc ks as G Q X
theorem oX3_inverse {d kc ks : Nat} {as : List Value} {G : gG} {Q : Option Value → gG → Prop} {X : String → gG → Prop} {L : List (Option Value)} (hL : gEnt as = L) (hlen : (lg_sl as).length ≤ 2) (g : GW (mX3_inverse d kc ks) Q X G 0 0 0 L []) : kX3_inverse d kc ks as G Q X := Ctr.of (by decide +kernel) rfl rfl hL hlen g
theorem c_inverse {G : gG} {oa : Nat} {o : OpT} {tr : Option Nat} {tk : Option Tr} (h9 : frG G) (ho : opAt G.1 oa o) (hok : opOk o) (htk : isO G.1 tr tk) :
    kX3_inverse 2 1 4 [.ref oa, va_rf tr] G (fun v G' => ∃ c im', v = some (.ref c) ∧ gLe G.1 im' ∧ (im', G.2.1, G.2.2) = G' ∧ opAt im' c (opInv o tk)) noX := by
  obtain ⟨im, ad, mc⟩ := G
  obtain ⟨pa, f, vr, h1, h2, h3, h4, h5⟩ := id ho
  have h902 : mc 902 = none := h9 902 (by omega)
  have l1 : gL (im, ad, mc) oa (.inl (3, _)) := Or.inl h1
  refine oX3_inverse (L := [some (.ref oa), some (va_rf tr), none, none, none, none, none, none, none, none, none, none]) (by cases tr <;> rfl) (by cases tr <;> exact Nat.le_of_ble_eq_true rfl) ?_
  generalize hQ : (fun (v : Option Value) (G' : gG) => ∃ c im', v = some (.ref c) ∧ gLe (im, ad, mc).1 im' ∧ (im', (im, ad, mc).2.1, (im, ad, mc).2.2) = G' ∧ opAt im' c (opInv o tk)) = Q
  refine GW.aload0 dX3_inverse_0 (g := ?_)
  refine GW.getf fl_X3_9 dX3_inverse_1 (by assumption) (by rfl) ?_
  rcases hok with ⟨hc, -⟩ | hc | ⟨hc, -⟩
  · have e : opInv o tk = (1, o.2.1, o.2.2.1, none) := if_pos hc
    rw [hc]
    refine GW.tableIn (tgt := 32) dX3_inverse_4 (by decide) (by decide) (off := 28) (by decide) (by decide) ?_
    refine GW.newo nw_X3_10 902 [.int 0, .null, .int 0, .null] dX3_inverse_32 (by first | rfl | assumption) (by intro j hj; match j, hj with | 0, _ => rfl | 1, _ => rfl | 2, _ => rfl | 3, _ => rfl) (by first | (dsimp only [mX3_inverse, gM.dp, gM.kc, gM.ks]; omega) | exact Nat.le_of_ble_eq_true rfl) (by first | (dsimp only [mX3_inverse, gM.dp, gM.kc, gM.ks]; omega) | exact Nat.le_of_ble_eq_true rfl) (fun q32 => ?_)
    have l1 : gL (gN (im, ad, mc) 902 q32 (.inl (3, [.int 0, .null, .int 0, .null]))) oa (.inl (3, _)) := Or.inl h1
    refine GW.dup dX3_inverse_35 (hv := by first | rfl | exact va_rf_cat _) (g := ?_)
    refine GW.iconst (v := 1) dX3_inverse_36 (by decide) ?_
    refine GW.aload0 dX3_inverse_37 (g := ?_)
    refine GW.getf fl_X3_15 dX3_inverse_38 (by assumption) (by rfl) ?_
    refine GW.aload0 dX3_inverse_41 (g := ?_)
    refine GW.getf fl_X3_19 dX3_inverse_42 (by assumption) (by rfl) ?_
    refine GW.null dX3_inverse_45 ?_
    refine GW.callI ci_X3_26 mt_X3_init (c_Operation (G := gN (im, ad, mc) 902 q32 (.inl (3, [.int 0, .null, .int 0, .null]))) (vr := none) rfl rfl) (fun _ _ h => h) dX3_inverse_46 rfl rfl (by first | (dsimp only [mX3_inverse, gM.dp, gM.kc, gM.ks]; omega) | exact Nat.le_of_ble_eq_true rfl | exact Nat.le_refl _ | omega) (by decide) (by first | omega | (dsimp only [mX3_inverse, gM.dp, gM.kc, gM.ks]; omega)) (by first | omega | (dsimp only [mX3_inverse, gM.dp, gM.kc, gM.ks]; omega)) (by first | exact Nat.le_of_ble_eq_true rfl | (simp [va_rf_cat]; done) | (simp [va_rf_cat, Value.category]; done)) (fun v46 G46 hq => ?_)
    obtain ⟨rfl, rfl⟩ := hq
    refine GW.made1 (im := im) (ad := (gN (im, ad, mc) 902 q32 (.inl (3, [.int 0, .null, .int 0, .null]))).2.1) (mc := (gS (gN (im, ad, mc) 902 q32 (.inl (3, [.int 0, .null, .int 0, .null]))) 902 _).2.2) (ad0 := ad) (mc0 := mc) (a := q32) h9 (fun q e => by simp [gS, gN, e]) (fun q e => by simp [gN, e]) rfl rfl fun im' hle hnew => ?_
    refine GW.areturn dX3_inverse_49 (Or.inl ⟨_, rfl⟩) (by first | (dsimp only [mX3_inverse, gM.dp, gM.kc, gM.ks]; omega) | exact Nat.le_of_ble_eq_true rfl | exact Nat.le_refl _ | omega) (by first | (dsimp only [mX3_inverse, gM.dp, gM.kc, gM.ks]; omega) | exact Nat.le_of_ble_eq_true rfl | exact Nat.le_refl _ | omega) ?_
    subst hQ
    exact ⟨q32, im', rfl, hle, rfl, by rw [e]; exact ⟨pa, f, none, hnew, hle _ _ h2, h3, trivial, h5⟩⟩
  · have hc0 : ¬ o.1 = 0 := by rw [hc]; decide
    have e : opInv o tk = (0, o.2.1, o.2.2.1, tk) := by unfold opInv; rw [if_neg hc0, if_pos hc]
    rw [hc]
    refine GW.tableIn (tgt := 50) dX3_inverse_4 (by decide) (by decide) (off := 46) (by decide) (by decide) ?_
    refine GW.newo nw_X3_10 902 [.int 0, .null, .int 0, .null] dX3_inverse_50 (by first | rfl | assumption) (by intro j hj; match j, hj with | 0, _ => rfl | 1, _ => rfl | 2, _ => rfl | 3, _ => rfl) (by first | (dsimp only [mX3_inverse, gM.dp, gM.kc, gM.ks]; omega) | exact Nat.le_of_ble_eq_true rfl) (by first | (dsimp only [mX3_inverse, gM.dp, gM.kc, gM.ks]; omega) | exact Nat.le_of_ble_eq_true rfl) (fun q50 => ?_)
    have l1 : gL (gN (im, ad, mc) 902 q50 (.inl (3, [.int 0, .null, .int 0, .null]))) oa (.inl (3, _)) := Or.inl h1
    refine GW.dup dX3_inverse_53 (hv := by first | rfl | exact va_rf_cat _) (g := ?_)
    refine GW.iconst (v := 0) dX3_inverse_54 (by decide) ?_
    refine GW.aload0 dX3_inverse_55 (g := ?_)
    refine GW.getf fl_X3_15 dX3_inverse_56 (by assumption) (by rfl) ?_
    refine GW.aload0 dX3_inverse_59 (g := ?_)
    refine GW.getf fl_X3_19 dX3_inverse_60 (by assumption) (by rfl) ?_
    refine GW.aload1 dX3_inverse_63 (g := ?_)
    refine GW.callI ci_X3_26 mt_X3_init (c_Operation (G := gN (im, ad, mc) 902 q50 (.inl (3, [.int 0, .null, .int 0, .null]))) (vr := tr) rfl rfl) (fun _ _ h => h) dX3_inverse_64 rfl rfl (by first | (dsimp only [mX3_inverse, gM.dp, gM.kc, gM.ks]; omega) | exact Nat.le_of_ble_eq_true rfl | exact Nat.le_refl _ | omega) (by decide) (by first | omega | (dsimp only [mX3_inverse, gM.dp, gM.kc, gM.ks]; omega)) (by first | omega | (dsimp only [mX3_inverse, gM.dp, gM.kc, gM.ks]; omega)) (by first | exact Nat.le_of_ble_eq_true rfl | (simp [va_rf_cat]; done) | (simp [va_rf_cat, Value.category]; done)) (fun v64 G64 hq => ?_)
    obtain ⟨rfl, rfl⟩ := hq
    refine GW.made1 (im := im) (ad := (gN (im, ad, mc) 902 q50 (.inl (3, [.int 0, .null, .int 0, .null]))).2.1) (mc := (gS (gN (im, ad, mc) 902 q50 (.inl (3, [.int 0, .null, .int 0, .null]))) 902 _).2.2) (ad0 := ad) (mc0 := mc) (a := q50) h9 (fun q e => by simp [gS, gN, e]) (fun q e => by simp [gN, e]) rfl rfl fun im' hle hnew => ?_
    refine GW.areturn dX3_inverse_67 (Or.inl ⟨_, rfl⟩) (by first | (dsimp only [mX3_inverse, gM.dp, gM.kc, gM.ks]; omega) | exact Nat.le_of_ble_eq_true rfl | exact Nat.le_refl _ | omega) (by first | (dsimp only [mX3_inverse, gM.dp, gM.kc, gM.ks]; omega) | exact Nat.le_of_ble_eq_true rfl | exact Nat.le_refl _ | omega) ?_
    subst hQ
    exact ⟨q50, im', rfl, hle, rfl, by rw [e]; exact ⟨pa, f, tr, hnew, hle _ _ h2, h3, isO.mono hle htk, h5⟩⟩
  · have hc0 : ¬ o.1 = 0 := by rw [hc]; decide
    have hc1 : ¬ o.1 = 1 := by rw [hc]; decide
    have e : opInv o tk = (2, o.2.1, o.2.2.1, tk) := by unfold opInv; rw [if_neg hc0, if_neg hc1]
    rw [hc]
    refine GW.tableIn (tgt := 68) dX3_inverse_4 (by decide) (by decide) (off := 64) (by decide) (by decide) ?_
    refine GW.newo nw_X3_10 902 [.int 0, .null, .int 0, .null] dX3_inverse_68 (by first | rfl | assumption) (by intro j hj; match j, hj with | 0, _ => rfl | 1, _ => rfl | 2, _ => rfl | 3, _ => rfl) (by first | (dsimp only [mX3_inverse, gM.dp, gM.kc, gM.ks]; omega) | exact Nat.le_of_ble_eq_true rfl) (by first | (dsimp only [mX3_inverse, gM.dp, gM.kc, gM.ks]; omega) | exact Nat.le_of_ble_eq_true rfl) (fun q68 => ?_)
    have l1 : gL (gN (im, ad, mc) 902 q68 (.inl (3, [.int 0, .null, .int 0, .null]))) oa (.inl (3, _)) := Or.inl h1
    refine GW.dup dX3_inverse_71 (hv := by first | rfl | exact va_rf_cat _) (g := ?_)
    refine GW.iconst (v := 2) dX3_inverse_72 (by decide) ?_
    refine GW.aload0 dX3_inverse_73 (g := ?_)
    refine GW.getf fl_X3_15 dX3_inverse_74 (by assumption) (by rfl) ?_
    refine GW.aload0 dX3_inverse_77 (g := ?_)
    refine GW.getf fl_X3_19 dX3_inverse_78 (by assumption) (by rfl) ?_
    refine GW.aload1 dX3_inverse_81 (g := ?_)
    refine GW.callI ci_X3_26 mt_X3_init (c_Operation (G := gN (im, ad, mc) 902 q68 (.inl (3, [.int 0, .null, .int 0, .null]))) (vr := tr) rfl rfl) (fun _ _ h => h) dX3_inverse_82 rfl rfl (by first | (dsimp only [mX3_inverse, gM.dp, gM.kc, gM.ks]; omega) | exact Nat.le_of_ble_eq_true rfl | exact Nat.le_refl _ | omega) (by decide) (by first | omega | (dsimp only [mX3_inverse, gM.dp, gM.kc, gM.ks]; omega)) (by first | omega | (dsimp only [mX3_inverse, gM.dp, gM.kc, gM.ks]; omega)) (by first | exact Nat.le_of_ble_eq_true rfl | (simp [va_rf_cat]; done) | (simp [va_rf_cat, Value.category]; done)) (fun v82 G82 hq => ?_)
    obtain ⟨rfl, rfl⟩ := hq
    refine GW.made1 (im := im) (ad := (gN (im, ad, mc) 902 q68 (.inl (3, [.int 0, .null, .int 0, .null]))).2.1) (mc := (gS (gN (im, ad, mc) 902 q68 (.inl (3, [.int 0, .null, .int 0, .null]))) 902 _).2.2) (ad0 := ad) (mc0 := mc) (a := q68) h9 (fun q e => by simp [gS, gN, e]) (fun q e => by simp [gN, e]) rfl rfl fun im' hle hnew => ?_
    refine GW.areturn dX3_inverse_85 (Or.inl ⟨_, rfl⟩) (by first | (dsimp only [mX3_inverse, gM.dp, gM.kc, gM.ks]; omega) | exact Nat.le_of_ble_eq_true rfl | exact Nat.le_refl _ | omega) (by first | (dsimp only [mX3_inverse, gM.dp, gM.kc, gM.ks]; omega) | exact Nat.le_of_ble_eq_true rfl | exact Nat.le_refl _ | omega) ?_
    subst hQ
    exact ⟨q68, im', rfl, hle, rfl, by rw [e]; exact ⟨pa, f, tr, hnew, hle _ _ h2, h3, isO.mono hle htk, h5⟩⟩
/-- a PATCH -/
def ptAt (im : gIm) (ad : Nat → Nat) (mc : Nat → Option gC) (i : Nat) (os : List OpT) : Prop := os.length ≤ 20 ∧ mc (30 + i) = some (.inl (4, [.int (nI os.length), .ref (ad (40 + i))])) ∧ ∃ hd, mc (40 + i) = some (.inr (2, 20, .inr hd)) ∧ ∀ (j : Nat) (o : OpT), os[j]? = some o → ∃ oa, hd j = some oa ∧ opAt im oa o
abbrev mX4_clear (d kc ks : Nat) : gM := (RX4, cX4_clear, 1, none, [], "clear", d, kc, ks)
abbrev kX4_clear (d kc ks : Nat) (as : List Value) (G : gG) (Q : Option Value → gG → Prop) (X : String → gG → Prop) : Prop := Ctr yX4_clear cX4_clear 1 none d kc ks as G Q X
theorem oX4_clear {d kc ks : Nat} {as : List Value} {G : gG} {Q : Option Value → gG → Prop} {X : String → gG → Prop} {L : List (Option Value)} (hL : gEnt as = L) (hlen : (lg_sl as).length ≤ 1) (g : GW (mX4_clear d kc ks) Q X G 0 0 0 L []) : kX4_clear d kc ks as G Q X := Ctr.of (by decide +kernel) rfl rfl hL hlen g
theorem c_clear {G : gG} {i : Nat} {cnt : Int32} (h1 : G.2.2 (30 + i) = some (.inl (4, [.int cnt, .ref (G.2.1 (40 + i))]))) :
    kX4_clear 0 0 0 [.ref (G.2.1 (30 + i))] G (fun v G' => v = none ∧ gS G (30 + i) (.inl (4, [.int 0, .ref (G.2.1 (40 + i))])) = G') noX := by
  refine oX4_clear (L := [some (.ref (G.2.1 (30 + i))), none, none, none, none, none, none, none, none, none, none, none]) rfl (Nat.le_of_ble_eq_true rfl) ?_
  refine GW.aload0 dX4_clear_0 (g := ?_)
  refine GW.iconst (v := 0) dX4_clear_1 (by decide) ?_
  refine GW.putf (r := (30+i)) fl_X4_17 dX4_clear_2 (by first | rfl | assumption) (Nat.le_of_ble_eq_true rfl) (by first | exact ⟨rfl, rfl⟩ | exact fitq _ _ rfl) (by first | exact Or.inl rfl | exact Or.inr ⟨rfl, rfl⟩) (by first | rfl | assumption) ?_
  refine GW.vreturn dX4_clear_5 rfl (by first | (dsimp only [mX4_clear, gM.dp, gM.kc, gM.ks]; omega) | exact Nat.le_of_ble_eq_true rfl | exact Nat.le_refl _ | omega) (by first | (dsimp only [mX4_clear, gM.dp, gM.kc, gM.ks]; omega) | exact Nat.le_of_ble_eq_true rfl | exact Nat.le_refl _ | omega) ?_
  exact ⟨rfl, rfl⟩
abbrev mX4_append (d kc ks : Nat) : gM := (RX4, cX4_append, 2, none, [], "append", d, kc, ks)
abbrev kX4_append (d kc ks : Nat) (as : List Value) (G : gG) (Q : Option Value → gG → Prop) (X : String → gG → Prop) : Prop := Ctr yX4_append cX4_append 2 none d kc ks as G Q X
theorem oX4_append {d kc ks : Nat} {as : List Value} {G : gG} {Q : Option Value → gG → Prop} {X : String → gG → Prop} {L : List (Option Value)} (hL : gEnt as = L) (hlen : (lg_sl as).length ≤ 2) (g : GW (mX4_append d kc ks) Q X G 0 0 0 L []) : kX4_append d kc ks as G Q X := Ctr.of (by decide +kernel) rfl rfl hL hlen g
theorem c_append {G : gG} {i oa : Nat} {os : List OpT} {o : OpT} (hp : ptAt G.1 G.2.1 G.2.2 i os) (hi : i < 8) (hl : os.length < 20) (ho : opAt G.1 oa o) :
    kX4_append 0 0 0 [.ref (G.2.1 (30 + i)), .ref oa] G (fun v G' => ∃ mc', v = none ∧ (G.1, G.2.1, mc') = G' ∧ (∀ q, q ≠ 30 + i → q ≠ 40 + i → mc' q = G.2.2 q) ∧ ptAt G.1 G.2.1 mc' i (os ++ [o])) noX := by
  obtain ⟨im, ad, mc⟩ := G
  obtain ⟨h0, h1, hd, h2, h3⟩ := hp
  have h1 : mc (30 + i) = some (.inl (4, [.int (nI os.length), .ref (ad (40 + i))])) := h1
  have h2 : mc (40 + i) = some (.inr (2, 20, .inr hd)) := h2
  have l1 : gL (im, ad, mc) (ad (30 + i)) (.inl (4, [.int (nI os.length), .ref (ad (40 + i))])) := Or.inr ⟨30 + i, rfl, h1⟩
  have l2 : gL (im, ad, mc) (ad (40 + i)) (.inr (2, 20, .inr hd)) := Or.inr ⟨40 + i, rfl, h2⟩
  refine oX4_append (L := [some (.ref (ad (30 + i))), some (.ref oa), none, none, none, none, none, none, none, none, none, none]) rfl (Nat.le_of_ble_eq_true rfl) ?_
  generalize hQ : (fun (v : Option Value) (G' : gG) => ∃ mc', v = none ∧ ((im, ad, mc).1, (im, ad, mc).2.1, mc') = G' ∧ (∀ q, q ≠ 30 + i → q ≠ 40 + i → mc' q = (im, ad, mc).2.2 q) ∧ ptAt (im, ad, mc).1 (im, ad, mc).2.1 mc' i (os ++ [o])) = Q
  refine GW.aload0 dX4_append_0 (g := ?_)
  refine GW.getf fl_X4_17 dX4_append_1 (by assumption) (by rfl) ?_
  refine GW.if_lt (tgt := 39) dX4_append_4 (by decide) (fun h4 => ?_) (fun h4 => ?_)
  · exact absurd h4 (mI_nonneg (by omega))
  · refine GW.aload0 dX4_append_7 (g := ?_)
    refine GW.getf fl_X4_17 dX4_append_8 (by assumption) (by rfl) ?_
    refine GW.aload0 dX4_append_11 (g := ?_)
    refine GW.getf fl_X4_11 dX4_append_12 (by assumption) (by rfl) ?_
    refine GW.alen dX4_append_15 (by assumption) (by decide) rfl ?_
    refine GW.icmp_ge (tgt := 39) dX4_append_16 (by decide) (fun h16 => ?_) (fun h16 => ?_)
    · exact absurd ((mI_le (a := 20) (by omega) (by omega)).mp h16) (by omega)
    · have hix : gIx (nI os.length) os.length 20 := mI_ix hl (by omega)
      refine GW.aload0 dX4_append_19 (g := ?_)
      refine GW.getf fl_X4_11 dX4_append_20 (by assumption) (by rfl) ?_
      refine GW.aload0 dX4_append_23 (g := ?_)
      refine GW.getf fl_X4_17 dX4_append_24 (by assumption) (by rfl) ?_
      refine GW.aload1 dX4_append_27 (g := ?_)
      refine GW.aast (v := some oa) (r := 40 + i) dX4_append_28 h2 hix (by decide) rfl (fun w hw => by cases hw; obtain ⟨_, _, _, h, _⟩ := ho; exact ⟨_, Or.inl h⟩) ?_
      have ne : 30 + i ≠ 40 + i := by omega
      have k1 : (gS (im, ad, mc) (40 + i) (.inr (2, 20, .inr (va_up hd os.length (some oa))))).2.2 (30 + i) = some (.inl (4, [.int (nI os.length), .ref (ad (40 + i))])) := by
        show (if 30 + i = 40 + i then _ else mc (30 + i)) = _
        rw [if_neg ne]; exact h1
      have l1 : gL (gS (im, ad, mc) (40 + i) (.inr (2, 20, .inr (va_up hd os.length (some oa))))) (ad (30 + i)) (.inl (4, [.int (nI os.length), .ref (ad (40 + i))])) := Or.inr ⟨30 + i, rfl, k1⟩
      refine GW.aload0 dX4_append_29 (g := ?_)
      refine GW.dup dX4_append_30 (hv := by first | rfl | exact va_rf_cat _) (g := ?_)
      refine GW.getf fl_X4_17 dX4_append_31 (by assumption) (by rfl) ?_
      refine GW.iconst (v := 1) dX4_append_34 (by decide) ?_
      refine GW.iadd dX4_append_35 ?_
      refine GW.putf (r := (30+i)) fl_X4_17 dX4_append_36 (by first | rfl | assumption) (Nat.le_of_ble_eq_true rfl) (by first | exact ⟨rfl, rfl⟩ | exact fitq _ _ rfl) (by first | exact Or.inl rfl | exact Or.inr ⟨rfl, rfl⟩) (by first | rfl | assumption) ?_
      refine GW.vreturn dX4_append_39 rfl (by first | (dsimp only [mX4_append, gM.dp, gM.kc, gM.ks]; omega) | exact Nat.le_of_ble_eq_true rfl | exact Nat.le_refl _ | omega) (by first | (dsimp only [mX4_append, gM.dp, gM.kc, gM.ks]; omega) | exact Nat.le_of_ble_eq_true rfl | exact Nat.le_refl _ | omega) ?_
      subst hQ
      refine ⟨_, rfl, rfl, fun q e1 e2 => ?_, by simp; omega, ?_, va_up hd os.length (some oa), ?_, fun j x hj => ?_⟩
      · show (if q = 30 + i then _ else if q = 40 + i then _ else mc q) = mc q
        rw [if_neg e1, if_neg e2]
      · show (if 30 + i = 30 + i then _ else _) = _
        rw [if_pos rfl, mI_succ]
        simp
      · show (if 40 + i = 30 + i then _ else if 40 + i = 40 + i then _ else mc _) = _
        rw [if_neg (Ne.symm ne), if_pos rfl]
      · rcases Nat.lt_or_ge j os.length with hjl | hjl
        · rw [List.getElem?_append_left hjl] at hj
          obtain ⟨b, q1, q2⟩ := h3 j x hj
          exact ⟨b, by simp [va_up, Nat.ne_of_lt hjl, q1], q2⟩
        · rw [List.getElem?_append_right hjl] at hj
          have hz : j - os.length < 1 := (List.getElem?_eq_some_iff.mp hj).1
          have hje : j = os.length := by omega
          subst hje
          simp at hj
          subst hj
          exact ⟨oa, by simp [va_up], ho⟩
abbrev mX4_operationAt (d kc ks : Nat) : gM := (RX4, cX4_operationAt, 2, (some (.object "MarlStore$Operation")), [], "operationAt", d, kc, ks)
abbrev kX4_operationAt (d kc ks : Nat) (as : List Value) (G : gG) (Q : Option Value → gG → Prop) (X : String → gG → Prop) : Prop := Ctr yX4_operationAt cX4_operationAt 2 (some (.object "MarlStore$Operation")) d kc ks as G Q X
theorem oX4_operationAt {d kc ks : Nat} {as : List Value} {G : gG} {Q : Option Value → gG → Prop} {X : String → gG → Prop} {L : List (Option Value)} (hL : gEnt as = L) (hlen : (lg_sl as).length ≤ 2) (g : GW (mX4_operationAt d kc ks) Q X G 0 0 0 L []) : kX4_operationAt d kc ks as G Q X := Ctr.of (by decide +kernel) rfl rfl hL hlen g
theorem c_operationAt {G : gG} {i j : Nat} {os : List OpT} {o : OpT} (hp : ptAt G.1 G.2.1 G.2.2 i os) (hj : os[j]? = some o) :
    kX4_operationAt 0 0 0 [.ref (G.2.1 (30 + i)), .int (nI j)] G (fun v G' => ∃ oa, v = some (va_rf (some oa)) ∧ G = G' ∧ opAt G.1 oa o) noX := by
  obtain ⟨h0, h1, hd, h2, h3⟩ := hp
  have hjl : j < os.length := (List.getElem?_eq_some_iff.mp hj).1
  obtain ⟨oa, q1, q2⟩ := h3 j o hj
  have l1 : gL G (G.2.1 (30 + i)) (.inl (4, [.int (nI os.length), .ref (G.2.1 (40 + i))])) := Or.inr ⟨30 + i, rfl, h1⟩
  have l2 : gL G (G.2.1 (40 + i)) (.inr (2, 20, .inr hd)) := Or.inr ⟨40 + i, rfl, h2⟩
  have hix : gIx (nI j) j 20 := mI_ix (by omega) (by omega)
  refine oX4_operationAt (L := [some (.ref (G.2.1 (30 + i))), some (.int (nI j)), none, none, none, none, none, none, none, none, none, none]) rfl (Nat.le_of_ble_eq_true rfl) ?_
  refine GW.iload1 dX4_operationAt_0 ?_
  refine GW.if_lt (tgt := 21) dX4_operationAt_1 (by decide) (fun h1 => ?_) (fun h1 => ?_)
  · exact absurd h1 (mI_nonneg (by omega))
  · refine GW.iload1 dX4_operationAt_4 ?_
    refine GW.aload0 dX4_operationAt_5 (g := ?_)
    refine GW.getf fl_X4_17 dX4_operationAt_6 (by assumption) (by rfl) ?_
    refine GW.icmp_ge (tgt := 21) dX4_operationAt_9 (by decide) (fun h9 => ?_) (fun h9 => ?_)
    · exact absurd ((mI_le (by omega) (by omega)).mp h9) (by omega)
    · refine GW.iload1 dX4_operationAt_12 ?_
      refine GW.aload0 dX4_operationAt_13 (g := ?_)
      refine GW.getf fl_X4_11 dX4_operationAt_14 (by assumption) (by rfl) ?_
      refine GW.alen dX4_operationAt_17 (by assumption) (by decide) rfl ?_
      refine GW.icmp_lt (tgt := 23) dX4_operationAt_18 (by decide) (fun h18 => ?_) (fun h18 => ?_)
      · refine GW.aload0 dX4_operationAt_23 (g := ?_)
        refine GW.getf fl_X4_11 dX4_operationAt_24 (by assumption) (by rfl) ?_
        refine GW.iload1 dX4_operationAt_27 ?_
        refine GW.aald dX4_operationAt_28 (by assumption) (by assumption) (by decide) ?_
        rw [q1]
        refine GW.areturn dX4_operationAt_29 (Or.inl ⟨_, rfl⟩) (by first | (dsimp only [mX4_operationAt, gM.dp, gM.kc, gM.ks]; omega) | exact Nat.le_of_ble_eq_true rfl | exact Nat.le_refl _ | omega) (by first | (dsimp only [mX4_operationAt, gM.dp, gM.kc, gM.ks]; omega) | exact Nat.le_of_ble_eq_true rfl | exact Nat.le_refl _ | omega) ?_
        exact ⟨oa, rfl, rfl, q2⟩
      · exact absurd ((mI_lt (b := 20) (by omega) (by omega)).mpr (by omega)) h18
