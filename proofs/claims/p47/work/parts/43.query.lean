/-! MARLSTORE: addQuery, addPart (ANY, DEEP, LAST) -/
section CH
variable {G : gG} {ds : Nat → Tr} {cl : Tr} {at_ : Nat} {ss : List Int32} {ps : List (List OpT)} {qs : List (List (Int32 × Int32))}
abbrev mX10_addQuery (d kc ks : Nat) : gM := (RX10, cX10_addQuery, 1, (some .int), [], "addQuery", d, kc, ks)
abbrev kX10_addQuery (d kc ks : Nat) (as : List Value) (G : gG) (Q : Option Value → gG → Prop) (X : String → gG → Prop) : Prop := Ctr yX10_addQuery cX10_addQuery 1 (some .int) d kc ks as G Q X
theorem oX10_addQuery {d kc ks : Nat} {as : List Value} {G : gG} {Q : Option Value → gG → Prop} {X : String → gG → Prop} {L : List (Option Value)} (hL : gEnt as = L) (hlen : (lg_sl as).length ≤ 1) (g : GW (mX10_addQuery d kc ks) Q X G 0 0 0 L []) : kX10_addQuery d kc ks as G Q X := Ctr.of (by decide +kernel) rfl rfl hL hlen g
theorem c_addQuery (hS : St G.1 G.2.1 G.2.2 ds cl at_ ss ps qs) :
    kX10_addQuery 6 1 6 [.ref (G.2.1 0)] G (fun v G' => v = some (.int (nI qs.length)) ∧ qs.length < 6 ∧ ∃ mc', (G.1, G.2.1, mc') = G' ∧ St G.1 G.2.1 mc' ds cl at_ ss ps (qs ++ [[]])) (fun E G' => E = xS ∧ G = G') := by
  obtain ⟨im, ad, mc⟩ := G
  obtain ⟨⟨⟨cla, a1, a2⟩, a3, a4, a5⟩, ⟨b1, b2, b3, b4⟩, ⟨c1, c2, c3⟩, ⟨d1, d2, d3, d4⟩, f9⟩ := id hS
  have c2 : qs.length ≤ 6 := c2
  have a1 : mc 0 = some (.inl (10, [.ref (ad 1), .ref cla, .ref (ad 2), .ref (ad 4), .ref (ad 7), .int (nI ps.length), .ref (ad 8), .ref (ad 9), .ref (ad 13), .int 0, .ref (ad 19), .ref (ad 21), .int (nI qs.length), .ref (ad 14)])) := a1
  have l0 : gL (im, ad, mc) (ad 0) (.inl (10, _)) := Or.inr ⟨0, rfl, a1⟩
  refine oX10_addQuery (L := [some (.ref (ad 0)), none, none, none, none, none, none, none, none, none, none, none]) rfl (Nat.le_of_ble_eq_true rfl) ?_
  refine GW.aload0 dX10_addQuery_0 (g := ?_)
  refine GW.getf fl_X10_311 dX10_addQuery_1 (by assumption) (by rfl) ?_
  refine GW.bipush (v := 6) dX10_addQuery_4 (by decide) ?_
  refine GW.icmp_lt (tgt := 20) dX10_addQuery_6 (by decide) (fun h6 => ?_) (fun h6 => ?_)
  · have h6 := (mI_lt (b := 6) (by omega) (by omega)).mp h6
    refine GW.aload0 dX10_addQuery_20 (g := ?_)
    refine GW.dup dX10_addQuery_21 (hv := by first | rfl | exact va_rf_cat _) (g := ?_)
    refine GW.getf fl_X10_311 dX10_addQuery_22 (by assumption) (by rfl) ?_
    refine GW.iconst (v := 1) dX10_addQuery_25 (by decide) ?_
    refine GW.iadd dX10_addQuery_26 ?_
    rw [mI_succ]
    refine GW.putf (r := 0) fl_X10_311 dX10_addQuery_27 (by first | rfl | assumption) (Nat.le_of_ble_eq_true rfl) (by first | exact ⟨rfl, rfl⟩ | exact fitq _ _ rfl) (by first | exact Or.inl rfl | exact Or.inr ⟨rfl, rfl⟩) (by first | rfl | assumption) ?_
    obtain ⟨mc1, hm1⟩ : ∃ mc1, mc1 = (fun q => if q = 0 then some (Sum.inl (10, [.ref (ad 1), .ref cla, .ref (ad 2), .ref (ad 4), .ref (ad 7), .int (nI ps.length), .ref (ad 8), .ref (ad 9), .ref (ad 13), .int 0, .ref (ad 19), .ref (ad 21), .int (nI (qs.length + 1)), .ref (ad 14)])) else mc q : Nat → Option gC) := ⟨_, rfl⟩
    rw [show gS (im, ad, mc) 0 (.inl (10, [.ref (ad 1), .ref cla, .ref (ad 2), .ref (ad 4), .ref (ad 7), .int (nI ps.length), .ref (ad 8), .ref (ad 9), .ref (ad 13), .int 0, .ref (ad 19), .ref (ad 21), .int (nI qs.length), .ref (ad 14)].set 12 (.int (nI (qs.length + 1))))) = (im, ad, mc1) from by rw [hm1]; rfl]
    have k0 : mc1 0 = some (.inl (10, [.ref (ad 1), .ref cla, .ref (ad 2), .ref (ad 4), .ref (ad 7), .int (nI ps.length), .ref (ad 8), .ref (ad 9), .ref (ad 13), .int 0, .ref (ad 19), .ref (ad 21), .int (nI (qs.length + 1)), .ref (ad 14)])) := by rw [hm1]; rfl
    have ko : ∀ q, q ≠ 0 → mc1 q = mc q := fun q hq => by rw [hm1]; exact if_neg hq
    have l0 : gL (im, ad, mc1) (ad 0) (.inl (10, _)) := Or.inr ⟨0, rfl, k0⟩
    refine GW.aload0 dX10_addQuery_30 (g := ?_)
    refine GW.getf fl_X10_311 dX10_addQuery_31 (by assumption) (by rfl) ?_
    refine GW.iconst (v := 1) dX10_addQuery_34 (by decide) ?_
    refine GW.isub dX10_addQuery_35 ?_
    rw [mI_pred (by omega), Nat.add_sub_cancel]
    refine GW.ireturn dX10_addQuery_36 (Or.inl rfl) (by first | (dsimp only [mX10_addQuery, gM.dp, gM.kc, gM.ks]; omega) | exact Nat.le_of_ble_eq_true rfl | exact Nat.le_refl _ | omega) (by first | (dsimp only [mX10_addQuery, gM.dp, gM.kc, gM.ks]; omega) | exact Nat.le_of_ble_eq_true rfl | exact Nat.le_refl _ | omega) ?_
    refine ⟨rfl, h6, mc1, rfl, hS.qry (fun q h0 _ => ko q h0) (fun cla' h => ?_) (by rw [List.length_append, List.length_singleton]; omega) (fun i hi => ?_)⟩
    · have h : mc 0 = some (.inl (10, [.ref (ad 1), .ref cla', .ref (ad 2), .ref (ad 4), .ref (ad 7), .int (nI ps.length), .ref (ad 8), .ref (ad 9), .ref (ad 13), .int 0, .ref (ad 19), .ref (ad 21), .int (nI qs.length), .ref (ad 14)])) := h
      have e := a1.symm.trans h
      simp only [Option.some.injEq, Sum.inl.injEq, Prod.mk.injEq, List.cons.injEq, Value.ref.injEq, true_and, and_true] at e
      subst e
      rw [List.length_append, List.length_singleton]
      exact k0
    · have e : (qs ++ [[]]).getD i [] = qs.getD i [] := by
        rw [List.getD_eq_getElem?_getD, List.getD_eq_getElem?_getD]
        rcases Nat.lt_or_ge i qs.length with q | q
        · rw [List.getElem?_append_left q]
        · rw [List.getElem?_append_right q, List.getElem?_eq_none q]
          cases hz : i - qs.length with
          | zero => rfl
          | succ z => rfl
      rw [e]
      exact (c3 i hi).mono (ko _ (by omega)) (ko _ (by omega)) (ko _ (by omega))
  · exact GW.throwW (cls := xS) (text := "there is no room for a query") rfl (by decide +kernel) kS nSx exS (by decide) dX10_addQuery_9 dX10_addQuery_12 dX10_addQuery_13 dX10_addQuery_16 dX10_addQuery_19 rfl (Nat.le_refl _) (Nat.le_refl _) (Nat.le_refl _) (Nat.le_of_ble_eq_true rfl) ⟨rfl, rfl⟩
abbrev mX10_isPart (d kc ks : Nat) : gM := (RX10, cX10_isPart, 2, (some .boolean), [], "isPart", d, kc, ks)
abbrev kX10_isPart (d kc ks : Nat) (as : List Value) (G : gG) (Q : Option Value → gG → Prop) (X : String → gG → Prop) : Prop := Ctr yX10_isPart cX10_isPart 2 (some .boolean) d kc ks as G Q X
theorem oX10_isPart {d kc ks : Nat} {as : List Value} {G : gG} {Q : Option Value → gG → Prop} {X : String → gG → Prop} {L : List (Option Value)} (hL : gEnt as = L) (hlen : (lg_sl as).length ≤ 2) (g : GW (mX10_isPart d kc ks) Q X G 0 0 0 L []) : kX10_isPart d kc ks as G Q X := Ctr.of (by decide +kernel) rfl rfl hL hlen g
theorem c_isPart {p n : Int32} (hp : p = 1 ∨ p = 2 ∨ p = 3) : kX10_isPart 0 0 0 [.int p, .int n] G (ans G (fun w => w = .int 1)) noX := by
  refine oX10_isPart (L := [some (.int p), some (.int n), none, none, none, none, none, none, none, none, none, none]) rfl (Nat.le_of_ble_eq_true rfl) ?_
  have at95 : GW (mX10_isPart 0 0 0) (ans G (fun w => w = .int 1)) noX G 0 0 95 [some (.int p), some (.int n), none, none, none, none, none, none, none, none, none, none] [] := by
    refine GW.iload0 dX10_isPart_95 ?_
    refine GW.if_lt (tgt := 109) dX10_isPart_96 (by decide) (fun h96 => ?_) (fun h96 => ?_)
    · rcases hp with rfl | rfl | rfl <;> exact absurd h96 (by decide)
    · refine GW.iload0 dX10_isPart_99 ?_
      refine GW.bipush (v := 6) dX10_isPart_100 (by decide) ?_
      refine GW.icmp_gt (tgt := 109) dX10_isPart_102 (by decide) (fun h102 => ?_) (fun h102 => ?_)
      · rcases hp with rfl | rfl | rfl <;> exact absurd h102 (by decide)
      · refine GW.iconst (v := 1) dX10_isPart_105 (by decide) ?_
        refine GW.goto (tgt := 110) dX10_isPart_106 (by decide) ?_
        refine GW.ireturn dX10_isPart_110 (Or.inr ⟨rfl, by first | exact Or.inl rfl | exact Or.inr rfl | assumption⟩) (by first | (dsimp only [mX10_isPart, gM.dp, gM.kc, gM.ks]; omega) | exact Nat.le_of_ble_eq_true rfl | exact Nat.le_refl _ | omega) (by first | (dsimp only [mX10_isPart, gM.dp, gM.kc, gM.ks]; omega) | exact Nat.le_of_ble_eq_true rfl | exact Nat.le_refl _ | omega) ?_
        exact ⟨_, rfl, rfl, rfl⟩
  refine GW.iload0 dX10_isPart_0 ?_
  rcases hp with rfl | rfl | rfl
  · exact GW.tableIn (tgt := 95) dX10_isPart_1 (by decide) (by decide) (off := 94) (by decide) (by decide) at95
  · exact GW.tableIn (tgt := 95) dX10_isPart_1 (by decide) (by decide) (off := 94) (by decide) (by decide) at95
  · exact GW.tableIn (tgt := 95) dX10_isPart_1 (by decide) (by decide) (off := 94) (by decide) (by decide) at95
abbrev mX6_append (d kc ks : Nat) : gM := (RX6, cX6_append, 3, (some .boolean), [], "append", d, kc, ks)
abbrev kX6_append (d kc ks : Nat) (as : List Value) (G : gG) (Q : Option Value → gG → Prop) (X : String → gG → Prop) : Prop := Ctr yX6_append cX6_append 3 (some .boolean) d kc ks as G Q X
theorem oX6_append {d kc ks : Nat} {as : List Value} {G : gG} {Q : Option Value → gG → Prop} {X : String → gG → Prop} {L : List (Option Value)} (hL : gEnt as = L) (hlen : (lg_sl as).length ≤ 3) (g : GW (mX6_append d kc ks) Q X G 0 0 0 L []) : kX6_append d kc ks as G Q X := Ctr.of (by decide +kernel) rfl rfl hL hlen g
theorem c_qappend {i : Nat} {p n : Int32} (hq : qyAt G.2.1 G.2.2 i []) (hi : i < 6) :
    kX6_append 0 0 0 [.ref (G.2.1 (50 + i)), .int p, .int n] G (fun v G' => v = some (.int 1) ∧ ∃ mc', (G.1, G.2.1, mc') = G' ∧ (∀ q, q ≠ 50 + i → q ≠ 60 + i → q ≠ 70 + i → mc' q = G.2.2 q) ∧ qyAt G.2.1 mc' i [(p, n)]) noX := by
  obtain ⟨im, ad, mc⟩ := G
  obtain ⟨-, h1, cf, nf, h2, h3, -⟩ := hq
  have h1 : mc (50 + i) = some (.inl (6, [.int 0, .ref (ad (60 + i)), .ref (ad (70 + i))])) := h1
  have h2 : mc (60 + i) = some (.inr (0, 5, .inl cf)) := h2
  have h3 : mc (70 + i) = some (.inr (0, 5, .inl nf)) := h3
  have l1 : gL (im, ad, mc) (ad (50 + i)) (.inl (6, [.int 0, .ref (ad (60 + i)), .ref (ad (70 + i))])) := Or.inr ⟨50 + i, rfl, h1⟩
  have l2 : gL (im, ad, mc) (ad (60 + i)) (.inr (0, 5, .inl cf)) := Or.inr ⟨60 + i, rfl, h2⟩
  have hix : gIx 0 0 5 := mI_ix (j := 0) (by omega) (by omega)
  refine oX6_append (L := [some (.ref (ad (50 + i))), some (.int p), some (.int n), none, none, none, none, none, none, none, none, none]) rfl (Nat.le_of_ble_eq_true rfl) ?_
  refine GW.aload0 dX6_append_0 (g := ?_)
  refine GW.getf fl_X6_18 dX6_append_1 (by assumption) (by rfl) ?_
  refine GW.if_lt (tgt := 19) dX6_append_4 (by decide) (fun h4 => ?_) (fun h4 => ?_)
  · exact absurd h4 (by decide)
  · refine GW.aload0 dX6_append_7 (g := ?_)
    refine GW.getf fl_X6_18 dX6_append_8 (by assumption) (by rfl) ?_
    refine GW.aload0 dX6_append_11 (g := ?_)
    refine GW.getf fl_X6_9 dX6_append_12 (by assumption) (by rfl) ?_
    refine GW.alen dX6_append_15 (by assumption) (by decide) rfl ?_
    refine GW.icmp_lt (tgt := 21) dX6_append_16 (by decide) (fun h16 => ?_) (fun h16 => ?_)
    · refine GW.aload0 dX6_append_21 (g := ?_)
      refine GW.getf fl_X6_9 dX6_append_22 (by assumption) (by rfl) ?_
      refine GW.aload0 dX6_append_25 (g := ?_)
      refine GW.getf fl_X6_18 dX6_append_26 (by assumption) (by rfl) ?_
      refine GW.iload1 dX6_append_29 ?_
      refine GW.iast (r := (60+i)) dX6_append_30 (by first | assumption | rfl) (by assumption) (by first | assumption | rfl) ?_
      rw [gS_tri]
      obtain ⟨mc1, hm1⟩ : ∃ mc1, mc1 = (fun q => if q = 60 + i then some (.inr (0, 5, .inl (upd cf 0 p))) else mc q : Nat → Option gC) := ⟨_, rfl⟩
      rw [← hm1]
      have ko1 : ∀ q, q ≠ 60 + i → mc1 q = mc q := fun q hq => by rw [hm1]; exact if_neg hq
      have k60 : mc1 (60 + i) = some (.inr (0, 5, .inl (upd cf 0 p))) := by rw [hm1]; exact if_pos rfl
      have k50 : mc1 (50 + i) = some (.inl (6, [.int 0, .ref (ad (60 + i)), .ref (ad (70 + i))])) := (ko1 _ (by omega)).trans h1
      have k70 : mc1 (70 + i) = some (.inr (0, 5, .inl nf)) := (ko1 _ (by omega)).trans h3
      have l1 : gL (im, ad, mc1) (ad (50 + i)) (.inl (6, [.int 0, .ref (ad (60 + i)), .ref (ad (70 + i))])) := Or.inr ⟨50 + i, rfl, k50⟩
      refine GW.aload0 dX6_append_31 (g := ?_)
      refine GW.getf fl_X6_15 dX6_append_32 (by assumption) (by rfl) ?_
      refine GW.aload0 dX6_append_35 (g := ?_)
      refine GW.getf fl_X6_18 dX6_append_36 (by assumption) (by rfl) ?_
      refine GW.iload2 dX6_append_39 ?_
      refine GW.iast (r := (70+i)) dX6_append_40 (by first | assumption | rfl) (by assumption) (by first | assumption | rfl) ?_
      rw [gS_tri]
      obtain ⟨mc2, hm2⟩ : ∃ mc2, mc2 = (fun q => if q = 70 + i then some (.inr (0, 5, .inl (upd nf 0 n))) else mc1 q : Nat → Option gC) := ⟨_, rfl⟩
      rw [← hm2]
      have ko2 : ∀ q, q ≠ 70 + i → mc2 q = mc1 q := fun q hq => by rw [hm2]; exact if_neg hq
      have k702 : mc2 (70 + i) = some (.inr (0, 5, .inl (upd nf 0 n))) := by rw [hm2]; exact if_pos rfl
      have k502 : mc2 (50 + i) = some (.inl (6, [.int 0, .ref (ad (60 + i)), .ref (ad (70 + i))])) := (ko2 _ (by omega)).trans k50
      have l1 : gL (im, ad, mc2) (ad (50 + i)) (.inl (6, [.int 0, .ref (ad (60 + i)), .ref (ad (70 + i))])) := Or.inr ⟨50 + i, rfl, k502⟩
      refine GW.aload0 dX6_append_41 (g := ?_)
      refine GW.dup dX6_append_42 (hv := by first | rfl | exact va_rf_cat _) (g := ?_)
      refine GW.getf fl_X6_18 dX6_append_43 (by assumption) (by rfl) ?_
      refine GW.iconst (v := 1) dX6_append_46 (by decide) ?_
      refine GW.iadd dX6_append_47 ?_
      refine GW.putf (r := (50+i)) fl_X6_18 dX6_append_48 (by first | rfl | assumption) (Nat.le_of_ble_eq_true rfl) (by first | exact ⟨rfl, rfl⟩ | exact fitq _ _ rfl) (by first | exact Or.inl rfl | exact Or.inr ⟨rfl, rfl⟩) (by first | rfl | assumption) ?_
      refine GW.iconst (v := 1) dX6_append_51 (by decide) ?_
      refine GW.ireturn dX6_append_52 (Or.inr ⟨rfl, by first | exact Or.inl rfl | exact Or.inr rfl | assumption⟩) (by first | (dsimp only [mX6_append, gM.dp, gM.kc, gM.ks]; omega) | exact Nat.le_of_ble_eq_true rfl | exact Nat.le_refl _ | omega) (by first | (dsimp only [mX6_append, gM.dp, gM.kc, gM.ks]; omega) | exact Nat.le_of_ble_eq_true rfl | exact Nat.le_refl _ | omega) ?_
      refine ⟨rfl, _, rfl, fun q e1 e2 e3 => (if_neg e1).trans ((ko2 q e3).trans (ko1 q e2)), by simp, if_pos rfl, upd cf 0 p, upd nf 0 n, ?_, ?_, fun j x hj => ?_⟩
      · exact (if_neg (by omega)).trans ((ko2 _ (by omega)).trans k60)
      · exact (if_neg (by omega)).trans k702
      · have hz : j < 1 := (List.getElem?_eq_some_iff.mp hj).1
        have : j = 0 := by omega
        subst this
        cases hj
        exact ⟨by simp [upd], by simp [upd]⟩
    · exact absurd (by decide) h16
abbrev mX10_addPart (d kc ks : Nat) : gM := (RX10, cX10_addPart, 5, (some .int), [], "addPart", d, kc, ks)
abbrev kX10_addPart (d kc ks : Nat) (as : List Value) (G : gG) (Q : Option Value → gG → Prop) (X : String → gG → Prop) : Prop := Ctr yX10_addPart cX10_addPart 5 (some .int) d kc ks as G Q X
theorem oX10_addPart {d kc ks : Nat} {as : List Value} {G : gG} {Q : Option Value → gG → Prop} {X : String → gG → Prop} {L : List (Option Value)} (hL : gEnt as = L) (hlen : (lg_sl as).length ≤ 5) (g : GW (mX10_addPart d kc ks) Q X G 0 0 0 L []) : kX10_addPart d kc ks as G Q X := Ctr.of (by decide +kernel) rfl rfl hL hlen g
theorem c_addPart {i : Nat} {p : Int32} (hS : St G.1 G.2.1 G.2.2 ds cl at_ ss ps qs) (hi : qs[i]? = some []) (hp : p = 1 ∨ p = 2 ∨ p = 3) :
    kX10_addPart 7 1 6 [.ref (G.2.1 0), .int (nI i), .int p, .int 0] G (fun v G' => (∃ w, v = some (.int w)) ∧ ∃ mc', (G.1, G.2.1, mc') = G' ∧ St G.1 G.2.1 mc' ds cl at_ ss ps (qs.set i [(p, 0)])) noX := by
  obtain ⟨im, ad, mc⟩ := G
  obtain ⟨⟨⟨cla, a1, a2⟩, a3, a4, a5⟩, ⟨b1, b2, b3, b4⟩, ⟨c1, c2, c3⟩, ⟨d1, d2, d3, d4⟩, f9⟩ := id hS
  have c2 : qs.length ≤ 6 := c2
  have hil : i < qs.length := (List.getElem?_eq_some_iff.mp hi).1
  have hqi : qyAt ad mc i [] := by
    have := c3 i (by omega)
    rw [List.getD_eq_getElem?_getD, hi] at this
    exact this
  have l0 : gL (im, ad, mc) (ad 0) (.inl (10, _)) := Or.inr ⟨0, rfl, a1⟩
  refine oX10_addPart (L := [some (.ref (ad 0)), some (.int (nI i)), some (.int p), some (.int 0), none, none, none, none, none, none, none, none]) rfl (Nat.le_of_ble_eq_true rfl) ?_
  refine GW.aload0 dX10_addPart_0 (g := ?_)
  refine GW.iload1 dX10_addPart_1 ?_
  refine GW.callV cv_X10_316 mt_X10_queryOf (c_queryOf (G := (im, ad, mc)) a1 c1 (by omega) c2) dX10_addPart_2 (by first | assumption | exact isV.gl (by assumption) | exact tbAt.gl (by assumption)) rfl rfl rfl rfl (by first | (dsimp only [mX10_addPart, gM.dp, gM.kc, gM.ks]; omega) | exact Nat.le_of_ble_eq_true rfl | exact Nat.le_refl _ | omega) (by decide) (by first | omega | (dsimp only [mX10_addPart, gM.dp, gM.kc, gM.ks]; omega)) (by first | omega | (dsimp only [mX10_addPart, gM.dp, gM.kc, gM.ks]; omega)) (by first | exact Nat.le_of_ble_eq_true rfl | (simp [va_rf_cat]; done) | (simp [va_rf_cat, Value.category]; done)) rfl (fun E G' hx => absurd hx.1 (by omega)) (fun v2 G2 hq => ?_)
  obtain ⟨-, rfl, rfl⟩ := hq
  have l50 : gL (im, ad, mc) (ad (50 + i)) (.inl (6, _)) := Or.inr ⟨50 + i, rfl, hqi.2.1⟩
  refine GW.astore4 dX10_addPart_5 (g := ?_)
  refine GW.iload2 dX10_addPart_7 ?_
  refine GW.iload3 dX10_addPart_8 ?_
  refine GW.callS cs_X10_320 mt_X10_isPart (c_isPart (G := (im, ad, mc)) (n := 0) hp) dX10_addPart_9 rfl rfl (by first | (dsimp only [mX10_addPart, gM.dp, gM.kc, gM.ks]; omega) | exact Nat.le_of_ble_eq_true rfl | exact Nat.le_refl _ | omega) (by decide) (by first | omega | (dsimp only [mX10_addPart, gM.dp, gM.kc, gM.ks]; omega)) (by first | omega | (dsimp only [mX10_addPart, gM.dp, gM.kc, gM.ks]; omega)) (by first | exact Nat.le_of_ble_eq_true rfl | (simp [va_rf_cat]; done) | (simp [va_rf_cat, Value.category]; done)) rfl (fun _ _ h => h.elim) (fun v9 G9 hq => ?_)
  obtain ⟨w, rfl, rfl, rfl⟩ := hq
  refine GW.if_ne (tgt := 26) dX10_addPart_12 (by decide) (fun h12 => ?_) (fun h12 => ?_)
  · refine GW.aload4 dX10_addPart_26 (g := ?_)
    refine GW.iload2 dX10_addPart_28 ?_
    refine GW.iload3 dX10_addPart_29 ?_
    refine GW.callV cv_X10_326 mt_X6_append (c_qappend (G := (im, ad, mc)) (p := p) (n := 0) hqi (by omega)) dX10_addPart_30 (by first | assumption | exact isV.gl (by assumption) | exact tbAt.gl (by assumption)) rfl rfl rfl rfl (by first | (dsimp only [mX10_addPart, gM.dp, gM.kc, gM.ks]; omega) | exact Nat.le_of_ble_eq_true rfl | exact Nat.le_refl _ | omega) (by decide) (by first | omega | (dsimp only [mX10_addPart, gM.dp, gM.kc, gM.ks]; omega)) (by first | omega | (dsimp only [mX10_addPart, gM.dp, gM.kc, gM.ks]; omega)) (by first | exact Nat.le_of_ble_eq_true rfl | (simp [va_rf_cat]; done) | (simp [va_rf_cat, Value.category]; done)) rfl (fun _ _ h => h.elim) (fun v30 G30 hq => ?_)
    obtain ⟨rfl, mc1, rfl, ho, hq1⟩ := hq
    have l50 : gL (im, ad, mc1) (ad (50 + i)) (.inl (6, _)) := Or.inr ⟨50 + i, rfl, hq1.2.1⟩
    refine GW.if_ne (tgt := 47) dX10_addPart_33 (by decide) (fun h33 => ?_) (fun h33 => ?_)
    · refine GW.aload4 dX10_addPart_47 (g := ?_)
      refine GW.getf fl_X10_330 dX10_addPart_49 (by assumption) (by rfl) ?_
      refine GW.ireturn dX10_addPart_52 (Or.inl rfl) (by first | (dsimp only [mX10_addPart, gM.dp, gM.kc, gM.ks]; omega) | exact Nat.le_of_ble_eq_true rfl | exact Nat.le_refl _ | omega) (by first | (dsimp only [mX10_addPart, gM.dp, gM.kc, gM.ks]; omega) | exact Nat.le_of_ble_eq_true rfl | exact Nat.le_refl _ | omega) ?_
      refine ⟨⟨_, rfl⟩, mc1, rfl, hS.qry (fun q h0 h1 => ho q (by omega) (by omega) (by omega)) (fun cla' h => ?_) (by rw [List.length_set]; exact c2) (fun k hk => ?_)⟩
      · rw [List.length_set]
        exact h.mono (ho 0 (by omega) (by omega) (by omega))
      · rw [List.getD_eq_getElem?_getD, List.getElem?_set]
        by_cases e : i = k
        · subst e
          rw [if_pos rfl, if_pos hil]
          exact hq1
        · rw [if_neg e, ← List.getD_eq_getElem?_getD]
          exact (c3 k hk).mono (ho _ (by omega) (by omega) (by omega)) (ho _ (by omega) (by omega) (by omega)) (ho _ (by omega) (by omega) (by omega))
    · exact absurd h33 (by decide)
  · exact absurd h12 (by decide)
end CH
