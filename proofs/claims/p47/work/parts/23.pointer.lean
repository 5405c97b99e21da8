/-! POINTER -/
def ptrAt (ad : Nat → Nat) (mc : Nat → Option gC) (at_ : Nat) (ss : List Int32) : Prop := ss.length ≤ 6 ∧ mc 2 = some (.inl (5, [.int (nI at_), .int (nI ss.length), .ref (ad 3)])) ∧ ∃ f, mc 3 = some (.inr (0, 6, .inl f)) ∧ ss = stps f 0 ss.length
theorem stps_get (f : Nat → Int32) (n i : Nat) (h : i < n) : (stps f 0 n)[i]? = some (f i) := by
  unfold stps
  rw [List.getElem?_map, List.getElem?_eq_getElem (by simpa using h)]
  simp
theorem stps_take (f : Nat → Int32) (n k : Nat) (h : k ≤ n) : (stps f 0 n).take k = stps f 0 k := by
  apply List.ext_getElem?
  intro i
  rw [List.getElem?_take]
  by_cases hi : i < k
  · rw [if_pos hi, stps_get f n i (by omega), stps_get f k i hi]
  · rw [if_neg hi, List.getElem?_eq_none (by rw [stps_len]; omega)]
theorem tk_stps {f : Nat → Int32} {ss : List Int32} {k : Nat} (h : ss = stps f 0 ss.length) (hk : k ≤ ss.length) : ss.take k = stps f 0 k := by
  have h1 : ss.take k = (stps f 0 ss.length).take k := by rw [← h]
  rw [h1]; exact stps_take f _ _ hk
theorem stps_congr {f g : Nat → Int32} {n : Nat} (h : ∀ i, i < n → f i = g i) : stps f 0 n = stps g 0 n := by
  unfold stps
  apply List.map_congr_left
  intro x hx
  rw [List.mem_range'] at hx
  obtain ⟨i, h1, h2⟩ := hx
  exact h x (by omega)
theorem stps_snoc (f : Nat → Int32) (n : Nat) : stps f 0 (n + 1) = stps f 0 n ++ [f n] := by
  unfold stps
  rw [List.range'_concat]
  simp
abbrev mX5_goToWhole (d kc ks : Nat) : gM := (RX5, cX5_goToWhole, 2, none, [], "goToWhole", d, kc, ks)
abbrev kX5_goToWhole (d kc ks : Nat) (as : List Value) (G : gG) (Q : Option Value → gG → Prop) (X : String → gG → Prop) : Prop := Ctr yX5_goToWhole cX5_goToWhole 2 none d kc ks as G Q X
theorem oX5_goToWhole {d kc ks : Nat} {as : List Value} {G : gG} {Q : Option Value → gG → Prop} {X : String → gG → Prop} {L : List (Option Value)} (hL : gEnt as = L) (hlen : (lg_sl as).length ≤ 2) (g : GW (mX5_goToWhole d kc ks) Q X G 0 0 0 L []) : kX5_goToWhole d kc ks as G Q X := Ctr.of (by decide +kernel) rfl rfl hL hlen g
theorem c_goToWhole {G : gG} {at_ d : Nat} {ss : List Int32} (hp : ptrAt G.2.1 G.2.2 at_ ss) :
    kX5_goToWhole 0 0 0 [.ref (G.2.1 2), .int (nI d)] G (fun v G' => v = none ∧ ∃ mc', (G.1, G.2.1, mc') = G' ∧ (∀ q, q ≠ 2 → mc' q = G.2.2 q) ∧ ptrAt G.2.1 mc' d []) noX := by
  obtain ⟨im, ad, mc⟩ := G
  obtain ⟨h0, h2, f, h3, hs⟩ := hp
  have h2 : mc 2 = some (.inl (5, [.int (nI at_), .int (nI ss.length), .ref (ad 3)])) := h2
  refine oX5_goToWhole (L := [some (.ref (ad 2)), some (.int (nI d)), none, none, none, none, none, none, none, none, none, none]) rfl (Nat.le_of_ble_eq_true rfl) ?_
  refine GW.aload0 dX5_goToWhole_0 (g := ?_)
  refine GW.iload1 dX5_goToWhole_1 ?_
  refine GW.putf (r := 2) fl_X5_34 dX5_goToWhole_2 (by first | rfl | assumption) (Nat.le_of_ble_eq_true rfl) (by first | exact ⟨rfl, rfl⟩ | exact fitq _ _ rfl) (by first | exact Or.inl rfl | exact Or.inr ⟨rfl, rfl⟩) (by first | rfl | assumption) ?_
  refine GW.aload0 dX5_goToWhole_5 (g := ?_)
  refine GW.iconst (v := 0) dX5_goToWhole_6 (by decide) ?_
  refine GW.putf (r := 2) fl_X5_15 dX5_goToWhole_7 (by first | rfl | assumption) (Nat.le_of_ble_eq_true rfl) (by first | exact ⟨rfl, rfl⟩ | exact fitq _ _ rfl) (by first | exact Or.inl rfl | exact Or.inr ⟨rfl, rfl⟩) (by first | rfl | assumption) ?_
  rw [gS_gS]
  refine GW.vreturn dX5_goToWhole_10 rfl (by first | (dsimp only [mX5_goToWhole, gM.dp, gM.kc, gM.ks]; omega) | exact Nat.le_of_ble_eq_true rfl | exact Nat.le_refl _ | omega) (by first | (dsimp only [mX5_goToWhole, gM.dp, gM.kc, gM.ks]; omega) | exact Nat.le_of_ble_eq_true rfl | exact Nat.le_refl _ | omega) ?_
  refine ⟨rfl, _, rfl, fun q hq => ?_, by simp, rfl, f, h3, rfl⟩
  show (if q = 2 then _ else mc q) = mc q
  rw [if_neg hq]
abbrev mX5_goDown (d kc ks : Nat) : gM := (RX5, cX5_goDown, 2, (some .boolean), [], "goDown", d, kc, ks)
abbrev kX5_goDown (d kc ks : Nat) (as : List Value) (G : gG) (Q : Option Value → gG → Prop) (X : String → gG → Prop) : Prop := Ctr yX5_goDown cX5_goDown 2 (some .boolean) d kc ks as G Q X
theorem oX5_goDown {d kc ks : Nat} {as : List Value} {G : gG} {Q : Option Value → gG → Prop} {X : String → gG → Prop} {L : List (Option Value)} (hL : gEnt as = L) (hlen : (lg_sl as).length ≤ 2) (g : GW (mX5_goDown d kc ks) Q X G 0 0 0 L []) : kX5_goDown d kc ks as G Q X := Ctr.of (by decide +kernel) rfl rfl hL hlen g
theorem c_goDown {G : gG} {at_ : Nat} {s : Int32} {ss : List Int32} (hp : ptrAt G.2.1 G.2.2 at_ ss) (hl : ss.length < 6) :
    kX5_goDown 0 0 0 [.ref (G.2.1 2), .int s] G (fun v G' => v = some (.int 1) ∧ ∃ mc', (G.1, G.2.1, mc') = G' ∧ (∀ q, q ≠ 2 → q ≠ 3 → mc' q = G.2.2 q) ∧ ptrAt G.2.1 mc' at_ (ss ++ [s])) noX := by
  obtain ⟨im, ad, mc⟩ := G
  obtain ⟨h0, h2, f, h3, hs⟩ := hp
  have h2 : mc 2 = some (.inl (5, [.int (nI at_), .int (nI ss.length), .ref (ad 3)])) := h2
  have h3 : mc 3 = some (.inr (0, 6, .inl f)) := h3
  have l2 : gL (im, ad, mc) (ad 2) (.inl (5, [.int (nI at_), .int (nI ss.length), .ref (ad 3)])) := Or.inr ⟨2, rfl, h2⟩
  have l3 : gL (im, ad, mc) (ad 3) (.inr (0, 6, .inl f)) := Or.inr ⟨3, rfl, h3⟩
  refine oX5_goDown (L := [some (.ref (ad 2)), some (.int s), none, none, none, none, none, none, none, none, none, none]) rfl (Nat.le_of_ble_eq_true rfl) ?_
  refine GW.aload0 dX5_goDown_0 (g := ?_)
  refine GW.getf fl_X5_15 dX5_goDown_1 (by assumption) (by rfl) ?_
  refine GW.if_lt (tgt := 19) dX5_goDown_4 (by decide) (fun h4 => ?_) (fun h4 => ?_)
  · exact absurd h4 (mI_nonneg (by omega))
  · refine GW.aload0 dX5_goDown_7 (g := ?_)
    refine GW.getf fl_X5_15 dX5_goDown_8 (by assumption) (by rfl) ?_
    refine GW.aload0 dX5_goDown_11 (g := ?_)
    refine GW.getf fl_X5_9 dX5_goDown_12 (by assumption) (by rfl) ?_
    refine GW.alen dX5_goDown_15 (by assumption) (by decide) rfl ?_
    refine GW.icmp_lt (tgt := 21) dX5_goDown_16 (by decide) (fun h16 => ?_) (fun h16 => ?_)
    · have hix : gIx (nI ss.length) ss.length 6 := mI_ix hl (by omega)
      refine GW.aload0 dX5_goDown_21 (g := ?_)
      refine GW.getf fl_X5_9 dX5_goDown_22 (by assumption) (by rfl) ?_
      refine GW.aload0 dX5_goDown_25 (g := ?_)
      refine GW.getf fl_X5_15 dX5_goDown_26 (by assumption) (by rfl) ?_
      refine GW.iload1 dX5_goDown_29 ?_
      refine GW.iast (r := 3) dX5_goDown_30 (by first | assumption | rfl) (by assumption) (by first | assumption | rfl) ?_
      have k2 : (gS (im, ad, mc) 3 (.inr (0, 6, .inl (upd f ss.length s)))).2.2 2 = some (.inl (5, [.int (nI at_), .int (nI ss.length), .ref (ad 3)])) := h2
      have l2 : gL (gS (im, ad, mc) 3 (.inr (0, 6, .inl (upd f ss.length s)))) (ad 2) (.inl (5, [.int (nI at_), .int (nI ss.length), .ref (ad 3)])) := Or.inr ⟨2, rfl, h2⟩
      refine GW.aload0 dX5_goDown_31 (g := ?_)
      refine GW.dup dX5_goDown_32 (hv := by first | rfl | exact va_rf_cat _) (g := ?_)
      refine GW.getf fl_X5_15 dX5_goDown_33 (by assumption) (by rfl) ?_
      refine GW.iconst (v := 1) dX5_goDown_36 (by decide) ?_
      refine GW.iadd dX5_goDown_37 ?_
      refine GW.putf (r := 2) fl_X5_15 dX5_goDown_38 (by first | rfl | assumption) (Nat.le_of_ble_eq_true rfl) (by first | exact ⟨rfl, rfl⟩ | exact fitq _ _ rfl) (by first | exact Or.inl rfl | exact Or.inr ⟨rfl, rfl⟩) (by first | rfl | assumption) ?_
      refine GW.iconst (v := 1) dX5_goDown_41 (by decide) ?_
      refine GW.ireturn dX5_goDown_42 (Or.inr ⟨rfl, by first | exact Or.inl rfl | exact Or.inr rfl | assumption⟩) (by first | (dsimp only [mX5_goDown, gM.dp, gM.kc, gM.ks]; omega) | exact Nat.le_of_ble_eq_true rfl | exact Nat.le_refl _ | omega) (by first | (dsimp only [mX5_goDown, gM.dp, gM.kc, gM.ks]; omega) | exact Nat.le_of_ble_eq_true rfl | exact Nat.le_refl _ | omega) ?_
      refine ⟨rfl, _, rfl, fun q q2 q3 => ?_, by simp; omega, ?_, upd f ss.length s, rfl, ?_⟩
      · show (if q = 2 then _ else if q = 3 then _ else mc q) = mc q
        rw [if_neg q2, if_neg q3]
      · show (if 2 = 2 then _ else _) = _
        rw [if_pos rfl, mI_succ]
        simp
      · rw [List.length_append, List.length_singleton, stps_snoc]
        congr 1
        · refine hs.trans (stps_congr fun i hi => ?_)
          simp [upd, Nat.ne_of_lt hi]
        · simp [upd]
    · exact absurd ((mI_lt (b := 6) (by omega) (by omega)).mpr hl) h16
abbrev mX5_goUp (d kc ks : Nat) : gM := (RX5, cX5_goUp, 1, (some .boolean), [], "goUp", d, kc, ks)
abbrev kX5_goUp (d kc ks : Nat) (as : List Value) (G : gG) (Q : Option Value → gG → Prop) (X : String → gG → Prop) : Prop := Ctr yX5_goUp cX5_goUp 1 (some .boolean) d kc ks as G Q X
theorem oX5_goUp {d kc ks : Nat} {as : List Value} {G : gG} {Q : Option Value → gG → Prop} {X : String → gG → Prop} {L : List (Option Value)} (hL : gEnt as = L) (hlen : (lg_sl as).length ≤ 1) (g : GW (mX5_goUp d kc ks) Q X G 0 0 0 L []) : kX5_goUp d kc ks as G Q X := Ctr.of (by decide +kernel) rfl rfl hL hlen g
theorem c_goUp {G : gG} {at_ : Nat} {ss : List Int32} (hp : ptrAt G.2.1 G.2.2 at_ ss) :
    kX5_goUp 0 0 0 [.ref (G.2.1 2)] G (fun v G' => (ss = [] ∧ v = some (.int 0) ∧ G = G') ∨ (ss ≠ [] ∧ v = some (.int 1) ∧ ∃ mc', (G.1, G.2.1, mc') = G' ∧ (∀ q, q ≠ 2 → mc' q = G.2.2 q) ∧ ptrAt G.2.1 mc' at_ (ss.take (ss.length - 1)))) noX := by
  obtain ⟨im, ad, mc⟩ := G
  obtain ⟨h0, h2, f, h3, hs⟩ := hp
  have h2 : mc 2 = some (.inl (5, [.int (nI at_), .int (nI ss.length), .ref (ad 3)])) := h2
  have l2 : gL (im, ad, mc) (ad 2) (.inl (5, [.int (nI at_), .int (nI ss.length), .ref (ad 3)])) := Or.inr ⟨2, rfl, h2⟩
  refine oX5_goUp (L := [some (.ref (ad 2)), none, none, none, none, none, none, none, none, none, none, none]) rfl (Nat.le_of_ble_eq_true rfl) ?_
  refine GW.aload0 dX5_goUp_0 (g := ?_)
  refine GW.getf fl_X5_15 dX5_goUp_1 (by assumption) (by rfl) ?_
  refine GW.if_ne (tgt := 9) dX5_goUp_4 (by decide) (fun h4 => ?_) (fun h4 => ?_)
  · have hne : ss.length ≠ 0 := fun e => h4 (by rw [e]; rfl)
    refine GW.aload0 dX5_goUp_9 (g := ?_)
    refine GW.dup dX5_goUp_10 (hv := by first | rfl | exact va_rf_cat _) (g := ?_)
    refine GW.getf fl_X5_15 dX5_goUp_11 (by assumption) (by rfl) ?_
    refine GW.iconst (v := 1) dX5_goUp_14 (by decide) ?_
    refine GW.isub dX5_goUp_15 ?_
    refine GW.putf (r := 2) fl_X5_15 dX5_goUp_16 (by first | rfl | assumption) (Nat.le_of_ble_eq_true rfl) (by first | exact ⟨rfl, rfl⟩ | exact fitq _ _ rfl) (by first | exact Or.inl rfl | exact Or.inr ⟨rfl, rfl⟩) (by first | rfl | assumption) ?_
    refine GW.iconst (v := 1) dX5_goUp_19 (by decide) ?_
    refine GW.ireturn dX5_goUp_20 (Or.inr ⟨rfl, by first | exact Or.inl rfl | exact Or.inr rfl | assumption⟩) (by first | (dsimp only [mX5_goUp, gM.dp, gM.kc, gM.ks]; omega) | exact Nat.le_of_ble_eq_true rfl | exact Nat.le_refl _ | omega) (by first | (dsimp only [mX5_goUp, gM.dp, gM.kc, gM.ks]; omega) | exact Nat.le_of_ble_eq_true rfl | exact Nat.le_refl _ | omega) ?_
    refine Or.inr ⟨fun e => hne (by rw [e]; rfl), rfl, _, rfl, fun q hq => ?_, by simp; omega, ?_, f, h3, ?_⟩
    · show (if q = 2 then _ else mc q) = mc q
      rw [if_neg hq]
    · show (if 2 = 2 then _ else _) = _
      rw [if_pos rfl, mI_pred (by omega), List.length_take, Nat.min_eq_left (by omega)]
      rfl
    · rw [List.length_take, Nat.min_eq_left (by omega)]
      exact tk_stps hs (by omega)
  · have hz : ss.length = 0 := (mI_eq (b := 0) (by omega) (by omega)).mp h4
    refine GW.iconst (v := 0) dX5_goUp_7 (by decide) ?_
    refine GW.ireturn dX5_goUp_8 (Or.inr ⟨rfl, by first | exact Or.inl rfl | exact Or.inr rfl | assumption⟩) (by first | (dsimp only [mX5_goUp, gM.dp, gM.kc, gM.ks]; omega) | exact Nat.le_of_ble_eq_true rfl | exact Nat.le_refl _ | omega) (by first | (dsimp only [mX5_goUp, gM.dp, gM.kc, gM.ks]; omega) | exact Nat.le_of_ble_eq_true rfl | exact Nat.le_refl _ | omega) ?_
    exact Or.inl ⟨List.eq_nil_of_length_eq_zero hz, rfl, rfl⟩
/-- how much of a path is right -/
def stl : Tr → List Int32 → Nat
  | _, [] => 0
  | t, s :: r => match stp t s with
    | none => 0
    | some c => 1 + stl c r
theorem stl_le : ∀ (ss : List Int32) (t : Tr), stl t ss ≤ ss.length
  | [], _ => Nat.le_refl _
  | s :: r, t => by
    rw [stl]
    cases stp t s with
    | none => simp
    | some c =>
      have := stl_le r c
      simp only [List.length_cons]; omega
theorem stl_bel : ∀ (ss : List Int32) (t : Tr), ∃ u, belT t (ss.take (stl t ss)) = some u
  | [], t => ⟨t, rfl⟩
  | s :: r, t => by
    rw [stl]
    cases hs : stp t s with
    | none => exact ⟨t, rfl⟩
    | some c =>
      obtain ⟨u, hu⟩ := stl_bel r c
      refine ⟨u, ?_⟩
      simp only
      rw [Nat.add_comm, List.take_succ_cons, belT, hs]
      exact hu
abbrev mX5_settle (d kc ks : Nat) : gM := (RX5, cX5_settle, 5, none, [], "settle", d, kc, ks)
abbrev kX5_settle (d kc ks : Nat) (as : List Value) (G : gG) (Q : Option Value → gG → Prop) (X : String → gG → Prop) : Prop := Ctr yX5_settle cX5_settle 5 none d kc ks as G Q X
theorem oX5_settle {d kc ks : Nat} {as : List Value} {G : gG} {Q : Option Value → gG → Prop} {X : String → gG → Prop} {L : List (Option Value)} (hL : gEnt as = L) (hlen : (lg_sl as).length ≤ 5) (g : GW (mX5_settle d kc ks) Q X G 0 0 0 L []) : kX5_settle d kc ks as G Q X := Ctr.of (by decide +kernel) rfl rfl hL hlen g
theorem c_settle {G : gG} {at_ b : Nat} {t : Tr} {ss : List Int32} (hp : ptrAt G.2.1 G.2.2 at_ ss) (hv : isV G.1 b t) (hs : sml t) :
    kX5_settle 1 0 0 [.ref (G.2.1 2), .ref b] G (fun v G' => v = none ∧ ∃ mc', (G.1, G.2.1, mc') = G' ∧ (∀ q, q ≠ 2 → mc' q = G.2.2 q) ∧ ptrAt G.2.1 mc' at_ (ss.take (stl t ss))) noX := by
  obtain ⟨im, ad, mc⟩ := G
  obtain ⟨h0, h2, f, h3, hss⟩ := hp
  have h2 : mc 2 = some (.inl (5, [.int (nI at_), .int (nI ss.length), .ref (ad 3)])) := h2
  have h3 : mc 3 = some (.inr (0, 6, .inl f)) := h3
  have l2 : gL (im, ad, mc) (ad 2) (.inl (5, [.int (nI at_), .int (nI ss.length), .ref (ad 3)])) := Or.inr ⟨2, rfl, h2⟩
  have l3 : gL (im, ad, mc) (ad 3) (.inr (0, 6, .inl f)) := Or.inr ⟨3, rfl, h3⟩
  have hv : isV im b t := hv
  refine oX5_settle (L := [some (.ref (ad 2)), some (.ref b), none, none, none, none, none, none, none, none, none, none]) rfl (Nat.le_of_ble_eq_true rfl) ?_
  generalize hQ : (fun (v : Option Value) (G' : gG) => v = none ∧ ∃ mc', ((im, ad, mc).1, (im, ad, mc).2.1, mc') = G' ∧ (∀ q, q ≠ 2 → mc' q = (im, ad, mc).2.2 q) ∧ ptrAt (im, ad, mc).2.1 mc' at_ (ss.take (stl t ss))) = Q
  refine GW.aload1 dX5_settle_0 (g := ?_)
  refine GW.astore2 dX5_settle_1 (g := ?_)
  refine GW.iconst (v := 0) dX5_settle_2 (by decide) ?_
  refine GW.istore3 dX5_settle_3 (g := ?_)
  refine GW.iconst (v := 0) dX5_settle_4 (by decide) ?_
  refine GW.istore4 dX5_settle_5 (g := ?_)
  have fin : ∀ (r : Option Nat) (i : Nat), i = stl t ss → GW (mX5_settle 1 0 0) Q noX (im, ad, mc) 0 0 58 [some (.ref (ad 2)), some (.ref b), some (va_rf r), some (.int (nI i)), some (.int (nI i)), none, none, none, none, none, none, none] [] := by
    intro r i hi
    subst hi
    have := stl_le ss t
    refine GW.aload0 dX5_settle_58 (g := ?_)
    refine GW.iload3 dX5_settle_59 ?_
    refine GW.putf (r := 2) fl_X5_15 dX5_settle_60 (by first | rfl | assumption) (Nat.le_of_ble_eq_true rfl) (by first | exact ⟨rfl, rfl⟩ | exact fitq _ _ rfl) (by first | exact Or.inl rfl | exact Or.inr ⟨rfl, rfl⟩) (by first | rfl | assumption) ?_
    refine GW.vreturn dX5_settle_63 rfl (by first | (dsimp only [mX5_settle, gM.dp, gM.kc, gM.ks]; omega) | exact Nat.le_of_ble_eq_true rfl | exact Nat.le_refl _ | omega) (by first | (dsimp only [mX5_settle, gM.dp, gM.kc, gM.ks]; omega) | exact Nat.le_of_ble_eq_true rfl | exact Nat.le_refl _ | omega) ?_
    subst hQ
    refine ⟨rfl, _, rfl, fun q hq => ?_, by simp; omega, ?_, f, h3, ?_⟩
    · show (if q = 2 then _ else mc q) = mc q
      rw [if_neg hq]
    · show (if 2 = 2 then _ else _) = _
      rw [if_pos rfl, List.length_take, Nat.min_eq_left this]
      rfl
    · rw [List.length_take, Nat.min_eq_left this]
      exact tk_stps hss this
  have key : ∀ (m i a : Nat) (u : Tr), i + m = ss.length → isV im a u → sml u → stl t ss = i + stl u (stps f i m) → GW (mX5_settle 1 0 0) Q noX (im, ad, mc) 0 0 7 [some (.ref (ad 2)), some (.ref b), some (va_rf (some a)), some (.int (nI i)), some (.int (nI i)), none, none, none, none, none, none, none] [] := by
    intro m
    induction m with
    | zero =>
      intro i a u hi hu hsu he
      refine GW.iload4 dX5_settle_7 ?_
      refine GW.aload0 dX5_settle_9 (g := ?_)
      refine GW.getf fl_X5_15 dX5_settle_10 (by assumption) (by rfl) ?_
      refine GW.icmp_ge (tgt := 58) dX5_settle_13 (by decide) (fun h13 => ?_) (fun h13 => ?_)
      · exact fin (some a) i (by rw [he]; rfl)
      · exact absurd ((mI_le (by omega) (by omega)).mpr (by omega)) h13
    | succ m ih =>
      intro i a u hi hu hsu he
      rw [stps_succ, stl] at he
      refine GW.iload4 dX5_settle_7 ?_
      refine GW.aload0 dX5_settle_9 (g := ?_)
      refine GW.getf fl_X5_15 dX5_settle_10 (by assumption) (by rfl) ?_
      refine GW.icmp_ge (tgt := 58) dX5_settle_13 (by decide) (fun h13 => ?_) (fun h13 => ?_)
      · exact absurd ((mI_le (by omega) (by omega)).mp h13) (by omega)
      · refine GW.iload4 dX5_settle_16 ?_
        refine GW.aload0 dX5_settle_18 (g := ?_)
        refine GW.getf fl_X5_9 dX5_settle_19 (by assumption) (by rfl) ?_
        refine GW.alen dX5_settle_22 (by assumption) (by decide) rfl ?_
        refine GW.icmp_ge (tgt := 58) dX5_settle_23 (by decide) (fun h23 => ?_) (fun h23 => ?_)
        · exact absurd ((mI_le (a := 6) (by omega) (by omega)).mp h23) (by omega)
        · have hix : gIx (nI i) i 6 := mI_ix (by omega) (by omega)
          obtain ⟨kr, pq, hnd, -, -⟩ := hu.node
          have hnd : gL (im, ad, mc) a (.inl (8, _)) := Or.inl hnd
          refine GW.aload2 dX5_settle_26 (g := ?_)
          refine GW.aload2 dX5_settle_27 (g := ?_)
          refine GW.aload0 dX5_settle_28 (g := ?_)
          refine GW.getf fl_X5_9 dX5_settle_29 (by assumption) (by rfl) ?_
          refine GW.iload4 dX5_settle_32 ?_
          refine GW.iald dX5_settle_34 (by assumption) (by assumption) ?_
          refine GW.callV0 cv_X5_49 mt_X8_placeOf (c_placeOf (G := (im, ad, mc)) hu hsu (f i)) dX5_settle_35 (by assumption) rfl rfl rfl rfl (by first | (dsimp only [mX5_settle, gM.dp, gM.kc, gM.ks]; omega) | exact Nat.le_of_ble_eq_true rfl | exact Nat.le_refl _ | omega) (by decide) (by first | (dsimp only [mX5_settle, gM.dp, gM.kc, gM.ks]; omega) | exact Nat.le_of_ble_eq_true rfl | exact Nat.le_refl _ | omega) (by first | (dsimp only [mX5_settle, gM.dp, gM.kc, gM.ks]; omega) | exact Nat.le_of_ble_eq_true rfl | exact Nat.le_refl _ | omega) (by first | exact Nat.le_of_ble_eq_true rfl | (simp [va_rf_cat]; done) | (simp [va_rf_cat, Value.category]; done)) rfl (fun _ _ h => h.elim) (fun v35 G35 hq => ?_)
          obtain ⟨z, rfl, rfl, rfl⟩ := hq
          refine GW.callV0 cv_X5_54 mt_X8_partAt (c_partAt (G := (im, ad, mc)) hu hsu (oI (placeT u (f i)))) dX5_settle_38 (by assumption) rfl rfl rfl rfl (by first | (dsimp only [mX5_settle, gM.dp, gM.kc, gM.ks]; omega) | exact Nat.le_of_ble_eq_true rfl | exact Nat.le_refl _ | omega) (by decide) (by first | (dsimp only [mX5_settle, gM.dp, gM.kc, gM.ks]; omega) | exact Nat.le_of_ble_eq_true rfl | exact Nat.le_refl _ | omega) (by first | (dsimp only [mX5_settle, gM.dp, gM.kc, gM.ks]; omega) | exact Nat.le_of_ble_eq_true rfl | exact Nat.le_refl _ | omega) (by first | exact Nat.le_of_ble_eq_true rfl | (simp [va_rf_cat]; done) | (simp [va_rf_cat, Value.category]; done)) rfl (fun _ _ h => h.elim) (fun v38 G38 hq => ?_)
          obtain ⟨r', rfl, rfl, hq⟩ := hq
          rw [partT_placeT hsu] at hq
          refine GW.astore2 dX5_settle_41 (g := ?_)
          refine GW.aload2 dX5_settle_42 (g := ?_)
          refine GW.ifnonnull (tgt := 49) dX5_settle_43 (by decide) (fun r43 h43 => ?_) (fun h43 => ?_)
          · subst h43
            cases hst : stp u (f i) with
            | none => rw [hst] at hq; exact hq.elim
            | some c =>
              rw [hst] at hq he
              obtain ⟨j, w1, w2⟩ := stp_some hst
              refine GW.inc3 dX5_settle_49 (g := ?_)
              refine GW.inc4 dX5_settle_52 (g := ?_)
              refine GW.goto (tgt := 7) dX5_settle_55 (by decide) ?_
              rw [mI_succ]
              exact ih (i + 1) r43 c (by omega) hq (hsu.kid w2) (by rw [he]; simp only; omega)
          · subst h43
            have hst : stp u (f i) = none := by
              cases hst : stp u (f i) with
              | none => rfl
              | some c => rw [hst] at hq; exact hq.elim
            rw [hst] at he
            refine GW.goto (tgt := 58) dX5_settle_46 (by decide) ?_
            exact fin none i he.symm
  exact key ss.length 0 b t (by omega) hv hs (by rw [← hss, Nat.zero_add])
