/-! withoutPart -/
def remP (t : Tr) (j : Nat) : Tr := (t.1, t.2.1, ofKids ((kids t.2.2).eraseIdx j))
theorem er_len {xs : List (Int32 × Tr)} {j : Nat} (h : j < xs.length) : (xs.eraseIdx j).length = xs.length - 1 := List.length_eraseIdx_of_lt h
theorem er_lt {xs : List (Int32 × Tr)} {i j : Nat} (hi : i < j) : (xs.eraseIdx j)[i]? = xs[i]? := by rw [List.getElem?_eraseIdx, if_pos hi]
theorem er_ge {xs : List (Int32 × Tr)} {i j : Nat} (hi : j ≤ i) : (xs.eraseIdx j)[i]? = xs[i + 1]? := by rw [List.getElem?_eraseIdx, if_neg (by omega)]
abbrev mX8_withoutPart (d kc ks : Nat) : gM := (RX8, cX8_withoutPart, 7, (some (.object "MarlStore$Value")), [], "withoutPart", d, kc, ks)
abbrev kX8_withoutPart (d kc ks : Nat) (as : List Value) (G : gG) (Q : Option Value → gG → Prop) (X : String → gG → Prop) : Prop := Ctr yX8_withoutPart cX8_withoutPart 7 (some (.object "MarlStore$Value")) d kc ks as G Q X
theorem oX8_withoutPart {d kc ks : Nat} {as : List Value} {G : gG} {Q : Option Value → gG → Prop} {X : String → gG → Prop} {L : List (Option Value)} (hL : gEnt as = L) (hlen : (lg_sl as).length ≤ 7) (g : GW (mX8_withoutPart d kc ks) Q X G 0 0 0 L []) : kX8_withoutPart d kc ks as G Q X := Ctr.of (by decide +kernel) rfl rfl hL hlen g
set_option maxHeartbeats 4000000 in
theorem c_withoutPart {G : gG} {a j : Nat} {t : Tr} (h9 : frG G) (hv : isV G.1 a t) (hj : j < wd t) (hst : sml t) (hsz : sml (remP t j)) :
    kX8_withoutPart 2 3 (2 * wd t + 8) [.ref a, .int (nI j)] G (fun v G' => ∃ c im', v = some (.ref c) ∧ gLe G.1 im' ∧ (im', G.2.1, G.2.2) = G' ∧ isV im' c (remP t j)) noX := by
  obtain ⟨im, ad, mc⟩ := G
  have hw := hst.wd
  have hv : isV im a t := hv
  obtain ⟨kr, pr, hn, hk, hp⟩ := hv.node
  have h900 : mc 900 = none := h9 900 (by omega)
  have h901 : mc 901 = none := h9 901 (by omega)
  have h902 : mc 902 = none := h9 902 (by omega)
  have hl : ∀ ad mc, gL (im, ad, mc) a (.inl (8, [.int t.1, .int t.2.1, va_rf kr, va_rf pr, .int (nI (szT t)), .int (nI (dpT t))])) := fun _ _ => Or.inl hn
  have hl0 := hl ad mc
  obtain ⟨ys, hys⟩ : ∃ ys, ys = (kids t.2.2).eraseIdx j := ⟨_, rfl⟩
  have hyl : ys.length = wd t - 1 := by rw [hys]; exact er_len hj
  have hszy : szL ys < 2 ^ 20 := by
    unfold sml szT remP at hsz
    dsimp only at hsz
    rw [szF_of, ← hys] at hsz
    omega
  refine oX8_withoutPart (L := [some (.ref a), some (.int (nI j)), none, none, none, none, none, none, none, none, none, none]) rfl (Nat.le_of_ble_eq_true rfl) ?_
  generalize hQ : (fun (v : Option Value) (G' : gG) => ∃ c im', v = some (.ref c) ∧ gLe (im, ad, mc).1 im' ∧ (im', (im, ad, mc).2.1, (im, ad, mc).2.2) = G' ∧ isV im' c (remP t j)) = Q
  refine GW.aload0 dX8_withoutPart_0 (g := ?_)
  refine GW.callV cv_X8_38 mt_X8_width (c_width hv) dX8_withoutPart_1 (by assumption) rfl rfl rfl rfl (by first | (dsimp only [mX8_withoutPart, gM.dp, gM.kc, gM.ks]; omega) | exact Nat.le_of_ble_eq_true rfl | exact Nat.le_refl _ | omega) (by decide) (by first | omega | (dsimp only [mX8_withoutPart, gM.dp, gM.kc, gM.ks]; omega)) (by first | omega | (dsimp only [mX8_withoutPart, gM.dp, gM.kc, gM.ks]; omega)) (by first | exact Nat.le_of_ble_eq_true rfl | (simp [va_rf_cat]; done) | (simp [va_rf_cat, Value.category]; done)) rfl (fun _ _ h => h.elim) (fun v1 G1 hq => ?_)
  obtain ⟨w, rfl, rfl, rfl⟩ := hq
  refine GW.iconst (v := 1) dX8_withoutPart_4 (by decide) ?_
  refine GW.isub dX8_withoutPart_5 ?_
  rw [mI_pred (by omega)]
  refine GW.istore2 dX8_withoutPart_6 (g := ?_)
  refine GW.iload2 dX8_withoutPart_7 ?_
  refine GW.if_gt (tgt := 29) dX8_withoutPart_8 (by decide) (fun h8 => ?_) (fun h8 => ?_)
  · have h1 : 0 < wd t - 1 := by
      rcases Nat.eq_zero_or_pos (wd t - 1) with q | q
      · rw [q] at h8; exact absurd h8 (by decide)
      · exact q
    have hz := mI_sz (n := wd t - 1) (by omega)
    refine GW.iload2 dX8_withoutPart_29 ?_
    refine GW.newq (kd := 1) nw_X8_10 900 dX8_withoutPart_30 (by first | rfl | assumption) (hz).1 (hz).2.1 (hz).2.2 (fun _ => rfl) (by decide) (by first | (dsimp only [mX8_withoutPart, gM.dp, gM.kc, gM.ks]; omega) | exact Nat.le_of_ble_eq_true rfl) (by first | (dsimp only [mX8_withoutPart, gM.dp, gM.kc, gM.ks]; omega) | exact Nat.le_of_ble_eq_true rfl) (fun q30 => ?_)
    obtain ⟨ad1, hA⟩ : ∃ ad1, ad1 = (gN (im, ad, mc) 900 q30 (.inr (1, wd t - 1, .inr (fun _ => none)))).2.1 := ⟨_, rfl⟩
    obtain ⟨mc1, hM⟩ : ∃ mc1, mc1 = (gN (im, ad, mc) 900 q30 (.inr (1, wd t - 1, .inr (fun _ => none)))).2.2 := ⟨_, rfl⟩
    rw [show gN (im, ad, mc) 900 q30 (.inr (1, wd t - 1, .inr (fun _ => none))) = (im, ad1, mc1) from by rw [hA, hM]; rfl]
    have hA9 : ad1 900 = q30 := by rw [hA]; rfl
    have hAo : ∀ q, q ≠ 900 → ad1 q = ad q := fun q hq => by rw [hA]; show (if q = 900 then q30 else ad q) = ad q; rw [if_neg hq]
    have hM9 : mc1 900 = some (.inr (1, wd t - 1, .inr (fun _ => none))) := by rw [hM]; rfl
    have hMo : ∀ q, q ≠ 900 → mc1 q = mc q := fun q hq => by rw [hM]; show (if q = 900 then _ else mc q) = mc q; rw [if_neg hq]
    have hl1 := hl ad1 mc1
    refine GW.widen (k' := 1) (n' := wd t) (by omega) (by omega) ?_
    have loop : ∀ (ad2 : Nat → Nat) (kq : Option Nat), ad2 900 = q30 → (∀ q, q ≠ 900 → q ≠ 901 → ad2 q = ad q) →
        ∀ (m i : Nat) (r' : Nat → Option Nat) (mc' : Nat → Option gC) (l6 : Option Value), i + m = wd t - 1 → mc' 900 = some (.inr (1, wd t - 1, .inr r')) → (∀ q, q ≠ 900 → q ≠ 901 → mc' q = mc q) →
        (∀ (i' : Nat) (x : Int32 × Tr), i' < i → ys[i']? = some x → ∃ b, r' i' = some b ∧ isV im b x.2) →
        ((kq = none ∧ t.1 ≠ 4) ∨ ∃ ka f, kq = some ka ∧ t.1 = 4 ∧ ad2 901 = ka ∧ mc' 901 = some (.inr (0, wd t - 1, .inl f)) ∧ ∀ (i' : Nat) (x : Int32 × Tr), i' < i → ys[i']? = some x → f i' = x.1) →
        GW (mX8_withoutPart 2 3 (2 * wd t + 8)) Q noX (im, ad2, mc') 2 (2 * wd t) 54 [some (.ref a), some (.int (nI j)), some (.int (nI (wd t - 1))), some (.ref q30), some (va_rf kq), some (.int (nI i)), l6, none, none, none, none, none] [] := by
      intro ad2 kq h29 h2o m
      induction m with
      | zero =>
        intro i r' mc' l6 hi hr ho hall hkq
        have hl2 := hl ad2 mc'
        refine GW.iload5 dX8_withoutPart_54 ?_
        refine GW.iload2 dX8_withoutPart_56 ?_
        refine GW.icmp_ge (tgt := 109) dX8_withoutPart_57 (by decide) (fun h57 => ?_) (fun h57 => ?_)
        · have hf2 : mc' 902 = none := (ho 902 (by decide) (by decide)).trans h902
          refine GW.newo nw_X8_10 902 [.int 0, .int 0, .null, .null, .int 0, .int 0] dX8_withoutPart_109 (by first | rfl | assumption) (by intro j hj; match j, hj with | 0, _ => rfl | 1, _ => rfl | 2, _ => rfl | 3, _ => rfl | 4, _ => rfl | 5, _ => rfl) (by first | (dsimp only [mX8_withoutPart, gM.dp, gM.kc, gM.ks]; omega) | exact Nat.le_of_ble_eq_true rfl) (by first | (dsimp only [mX8_withoutPart, gM.dp, gM.kc, gM.ks]; omega) | exact Nat.le_of_ble_eq_true rfl) (fun q109 => ?_)
          have hl2 : gL (gN (im, ad2, mc') 902 q109 (.inl (8, [.int 0, .int 0, .null, .null, .int 0, .int 0]))) a (.inl (8, [.int t.1, .int t.2.1, va_rf kr, va_rf pr, .int (nI (szT t)), .int (nI (dpT t))])) := Or.inl hn
          refine GW.dup dX8_withoutPart_112 (hv := by first | rfl | exact va_rf_cat _) (g := ?_)
          refine GW.aload0 dX8_withoutPart_113 (g := ?_)
          refine GW.getf fl_X8_9 dX8_withoutPart_114 (by assumption) (by rfl) ?_
          refine GW.aload0 dX8_withoutPart_117 (g := ?_)
          refine GW.getf fl_X8_15 dX8_withoutPart_118 (by assumption) (by rfl) ?_
          refine GW.aload4 dX8_withoutPart_121 (g := ?_)
          refine GW.aload3 dX8_withoutPart_123 (g := ?_)
          have hx9 : parts9 (gN (im, ad2, mc') 902 q109 (.inl (8, [.int 0, .int 0, .null, .null, .int 0, .int 0]))) (some q30) ys := by
            refine ⟨r', Or.inr ⟨900, Or.inl rfl, h29, by rw [hyl]; exact hr⟩, fun i' x hx => hall i' x ?_ hx⟩
            have := (List.getElem?_eq_some_iff.mp hx).1
            omega
          refine GW.callI ci_X8_50 mt_X8_init (c_Value (kind := t.1) (num := t.2.1) (kr := kq) (pr := some q30) (xs := ys) (fs := []) rfl rfl hx9.x hszy) (fun _ _ h => h) dX8_withoutPart_124 rfl rfl (by first | (dsimp only [mX8_withoutPart, gM.dp, gM.kc, gM.ks]; omega) | exact Nat.le_of_ble_eq_true rfl | exact Nat.le_refl _ | omega) (by decide) (by first | omega | (dsimp only [mX8_withoutPart, gM.dp, gM.kc, gM.ks]; omega)) (by first | omega | (dsimp only [mX8_withoutPart, gM.dp, gM.kc, gM.ks]; omega)) (by first | exact Nat.le_of_ble_eq_true rfl | (simp [va_rf_cat]; done) | (simp [va_rf_cat, Value.category]; done)) (fun v124 G124 hq => ?_)
          obtain ⟨rfl, rfl⟩ := hq
          refine GW.made (im := im) (ad := (gN (im, ad2, mc') 902 q109 (.inl (8, [.int 0, .int 0, .null, .null, .int 0, .int 0]))).2.1) (mc := (gS (gN (im, ad2, mc') 902 q109 (.inl (8, [.int 0, .int 0, .null, .null, .int 0, .int 0]))) 902 _).2.2) (ad0 := ad) (mc0 := mc) (kind := t.1) (num := t.2.1) (kr := kq) (pr := some q30) (xs := ys) (a := q109) h9 (fun q e0 e1 e2 => ?_) (fun q e0 e1 e2 => ?_) rfl ?_ ?_ rfl (fun im' hle hV => ?_)
          · simp [gS, gN, e2, ho q e0 e1]
          · simp [gN, e2, h2o q e0 e1]
          · rcases hkq with ⟨rfl, h4⟩ | ⟨ka, f, rfl, h4, e1, e2, e3⟩
            · exact Or.inl h4
            · refine ⟨h4, f, Or.inr ⟨901, Or.inr rfl, e1, by rw [hyl]; exact e2⟩, fun i' x hx => e3 i' x ?_ hx⟩
              have := (List.getElem?_eq_some_iff.mp hx).1
              omega
          · obtain ⟨r2, w1, w2⟩ := hx9
            refine ⟨r2, ?_, w2⟩
            rcases w1 with w1 | ⟨q, w0, w1, w3⟩
            · exact Or.inl w1
            · exact Or.inr ⟨q, w0, w1, by rcases w0 with rfl | rfl <;> exact w3⟩
          · refine GW.areturn dX8_withoutPart_127 (Or.inl ⟨_, rfl⟩) (by first | (dsimp only [mX8_withoutPart, gM.dp, gM.kc, gM.ks]; omega) | exact Nat.le_of_ble_eq_true rfl | exact Nat.le_refl _ | omega) (by first | (dsimp only [mX8_withoutPart, gM.dp, gM.kc, gM.ks]; omega) | exact Nat.le_of_ble_eq_true rfl | exact Nat.le_refl _ | omega) ?_
            subst hQ
            exact ⟨q109, im', rfl, hle, rfl, by unfold remP; rw [← hys]; exact hV⟩
        · exact absurd ((mI_le (by omega) (by omega)).mpr (by omega)) h57
      | succ m ih =>
        intro i r' mc' l6 hi hr ho hall hkq
        have hl2 := hl ad2 mc'
        have hix : gIx (nI i) i (wd t - 1) := mI_ix (by omega) (by omega)
        obtain ⟨z, hz2⟩ : ∃ z, ys[i]? = some z := ⟨_, List.getElem?_eq_getElem (by omega)⟩
        have nxt : ∀ (rv : Nat) (mc2 : Nat → Option gC) (l6 : Option Value), isV im rv z.2 → mc2 900 = some (.inr (1, wd t - 1, .inr (va_up r' i (some rv)))) → (∀ q, q ≠ 900 → q ≠ 901 → mc2 q = mc q) →
            ((kq = none ∧ t.1 ≠ 4) ∨ ∃ ka f, kq = some ka ∧ t.1 = 4 ∧ ad2 901 = ka ∧ mc2 901 = some (.inr (0, wd t - 1, .inl f)) ∧ ∀ (i' : Nat) (x : Int32 × Tr), i' < i + 1 → ys[i']? = some x → f i' = x.1) →
            GW (mX8_withoutPart 2 3 (2 * wd t + 8)) Q noX (im, ad2, mc2) 2 (2 * wd t) 103 [some (.ref a), some (.int (nI j)), some (.int (nI (wd t - 1))), some (.ref q30), some (va_rf kq), some (.int (nI i)), l6, none, none, none, none, none] [] := by
          intro rv mc2 l6 hy h2 h2o hkq2
          refine GW.inc5 dX8_withoutPart_103 (g := ?_)
          refine GW.goto (tgt := 54) dX8_withoutPart_106 (by decide) ?_
          rw [mI_succ]
          refine ih (i + 1) _ mc2 l6 (by omega) h2 h2o (fun i' x hi' hx => ?_) hkq2
          by_cases e : i' = i
          · subst e
            rw [hz2] at hx
            cases hx
            exact ⟨rv, by simp [va_up], hy⟩
          · obtain ⟨b', g1, g2⟩ := hall i' x (by omega) hx
            exact ⟨b', by simp [va_up, e, g1], g2⟩
        have chp : ∀ (i0 : Nat), i0 < 2 ^ 31 → (kids t.2.2)[i0]? = some z →
            GW (mX8_withoutPart 2 3 (2 * wd t + 8)) Q noX (im, ad2, mc') 2 (2 * wd t) 77 [some (.ref a), some (.int (nI j)), some (.int (nI (wd t - 1))), some (.ref q30), some (va_rf kq), some (.int (nI i)), some (.int (nI i0)), none, none, none, none, none] [] := by
          intro i0 hi0 hy
          refine GW.aload3 dX8_withoutPart_77 (g := ?_)
          refine GW.iload5 dX8_withoutPart_78 ?_
          refine GW.aload0 dX8_withoutPart_80 (g := ?_)
          refine GW.iload6 dX8_withoutPart_81 ?_
          refine GW.callV cv_X8_46 mt_X8_partAt (c_partAt (G := (im, ad2, mc')) hv hst (nI i0)) dX8_withoutPart_83 (by assumption) rfl rfl rfl rfl (by first | (dsimp only [mX8_withoutPart, gM.dp, gM.kc, gM.ks]; omega) | exact Nat.le_of_ble_eq_true rfl | exact Nat.le_refl _ | omega) (by decide) (by first | omega | (dsimp only [mX8_withoutPart, gM.dp, gM.kc, gM.ks]; omega)) (by first | omega | (dsimp only [mX8_withoutPart, gM.dp, gM.kc, gM.ks]; omega)) (by first | exact Nat.le_of_ble_eq_true rfl | (simp [va_rf_cat]; done) | (simp [va_rf_cat, Value.category]; done)) rfl (fun _ _ h => h.elim) (fun v83 G83 hq => ?_)
          obtain ⟨rv, rfl, rfl, hq⟩ := hq
          rw [partT_mI hi0, kid_some hy] at hq
          cases rv with
          | none => exact hq.elim
          | some v =>
            have hq : isV im v z.2 := hq
            refine GW.aast (r := 900) dX8_withoutPart_86 (by first | assumption | rfl) (by assumption) (by decide) (by first | assumption | rfl) (fun w hw => by cases hw; obtain ⟨_, _, h, _⟩ := hq.node; exact ⟨_, Or.inl h⟩) ?_
            have hl3 : gL (gS (im, ad2, mc') 900 (.inr (1, wd t - 1, .inr (va_up r' i (some v))))) a (.inl (8, [.int t.1, .int t.2.1, va_rf kr, va_rf pr, .int (nI (szT t)), .int (nI (dpT t))])) := Or.inl hn
            have go : ∀ q, q ≠ 900 → q ≠ 901 → (gS (im, ad2, mc') 900 (.inr (1, wd t - 1, .inr (va_up r' i (some v))))).2.2 q = mc q := fun q e0 e1 => by
              show (if q = 900 then _ else mc' q) = mc q
              rw [if_neg e0]; exact ho q e0 e1
            refine GW.aload4 dX8_withoutPart_87 (g := ?_)
            refine GW.ifnull (tgt := 103) dX8_withoutPart_89 (by decide) (fun h89 => ?_) (fun r89 h89 => ?_)
            · subst h89
              refine nxt v _ _ hq rfl go ?_
              rcases hkq with h | ⟨ka, f, h, -⟩
              · exact Or.inl h
              · cases h
            · rcases hkq with ⟨h, -⟩ | ⟨ka, f, e0, h4, e1, e2, e3⟩
              · rw [h] at h89; cases h89
              · subst e0
                cases h89
                have e2' : (gS (im, ad2, mc') 900 (.inr (1, wd t - 1, .inr (va_up r' i (some v))))).2.2 901 = some (.inr (0, wd t - 1, .inl f)) := e2
                refine GW.aload4 dX8_withoutPart_92 (g := ?_)
                refine GW.iload5 dX8_withoutPart_94 ?_
                refine GW.aload0 dX8_withoutPart_96 (g := ?_)
                refine GW.iload6 dX8_withoutPart_97 ?_
                refine GW.callV cv_X8_53 mt_X8_stepOf (c_stepOf (G := gS (im, ad2, mc') 900 (.inr (1, wd t - 1, .inr (va_up r' i (some v))))) hv hst (nI i0)) dX8_withoutPart_99 (by assumption) rfl rfl rfl rfl (by first | (dsimp only [mX8_withoutPart, gM.dp, gM.kc, gM.ks]; omega) | exact Nat.le_of_ble_eq_true rfl | exact Nat.le_refl _ | omega) (by decide) (by first | omega | (dsimp only [mX8_withoutPart, gM.dp, gM.kc, gM.ks]; omega)) (by first | omega | (dsimp only [mX8_withoutPart, gM.dp, gM.kc, gM.ks]; omega)) (by first | exact Nat.le_of_ble_eq_true rfl | (simp [va_rf_cat]; done) | (simp [va_rf_cat, Value.category]; done)) rfl (fun _ _ h => h.elim) (fun v99 G99 hq => ?_)
                obtain ⟨w, rfl, rfl, rfl⟩ := hq
                rw [stepT_mI hi0 hy, if_pos h4]
                refine GW.iast (r := 901) (a := r89) dX8_withoutPart_102 e2' hix e1 ?_
                refine nxt v _ _ (by assumption) rfl (fun q e0 e1 => ?_) (Or.inr ⟨r89, _, rfl, h4, e1, rfl, fun i' x hi' hx => ?_⟩)
                · show (if q = 901 then _ else _) = mc q
                  rw [if_neg e1]; exact go q e0 e1
                · by_cases e : i' = i
                  · subst e
                    rw [hz2] at hx
                    cases hx
                    simp [upd]
                  · simp only [upd, if_neg e]
                    exact e3 i' x (by omega) hx
        refine GW.iload5 dX8_withoutPart_54 ?_
        refine GW.iload2 dX8_withoutPart_56 ?_
        refine GW.icmp_ge (tgt := 109) dX8_withoutPart_57 (by decide) (fun h57 => ?_) (fun h57 => ?_)
        · exact absurd ((mI_le (by omega) (by omega)).mp h57) (by omega)
        · refine GW.iload5 dX8_withoutPart_60 ?_
          refine GW.iload1 dX8_withoutPart_62 ?_
          refine GW.icmp_ge (tgt := 71) dX8_withoutPart_63 (by decide) (fun h63 => ?_) (fun h63 => ?_)
          · have hji : j ≤ i := (mI_le (by omega) (by omega)).mp h63
            refine GW.iload5 dX8_withoutPart_71 ?_
            refine GW.iconst (v := 1) dX8_withoutPart_73 (by decide) ?_
            refine GW.iadd dX8_withoutPart_74 ?_
            refine GW.istore6 dX8_withoutPart_75 (g := ?_)
            rw [mI_succ]
            refine chp (i + 1) (by omega) ?_
            have hz3 := hz2
            rw [hys, er_ge hji] at hz3
            exact hz3
          · have hij : i < j := by
              rcases Nat.lt_or_ge i j with q | q
              · exact q
              · exact absurd ((mI_le (by omega) (by omega)).mpr q) h63
            refine GW.iload5 dX8_withoutPart_66 ?_
            refine GW.goto (tgt := 75) dX8_withoutPart_68 (by decide) ?_
            refine GW.istore6 dX8_withoutPart_75 (g := ?_)
            refine chp i (by omega) ?_
            have hz3 := hz2
            rw [hys, er_lt hij] at hz3
            exact hz3
    refine GW.astore3 dX8_withoutPart_33 (g := ?_)
    refine GW.aload0 dX8_withoutPart_34 (g := ?_)
    refine GW.getf fl_X8_9 dX8_withoutPart_35 (by assumption) (by rfl) ?_
    refine GW.iconst (v := 4) dX8_withoutPart_38 (by decide) ?_
    refine GW.icmp_ne (tgt := 48) dX8_withoutPart_39 (by decide) (fun h39 => ?_) (fun h39 => ?_)
    · refine GW.null dX8_withoutPart_48 ?_
      refine GW.astore4 dX8_withoutPart_49 (g := ?_)
      refine GW.iconst (v := 0) dX8_withoutPart_51 (by decide) ?_
      refine GW.istore5 dX8_withoutPart_52 (g := ?_)
      refine GW.widen (k' := 2) (n' := 2 * wd t) (by omega) (by omega) ?_
      exact loop ad1 none hA9 (fun q e0 e1 => hAo q e0) (wd t - 1) 0 _ mc1 none (by omega) hM9 (fun q e0 e1 => hMo q e0) (fun i' x h => absurd h (Nat.not_lt_zero _)) (Or.inl ⟨rfl, h39⟩)
    · have h4 : t.1 = 4 := h39
      have hf1 : mc1 901 = none := (hMo 901 (by decide)).trans h901
      refine GW.iload2 dX8_withoutPart_42 ?_
      refine GW.newi 901 dX8_withoutPart_43 (by first | rfl | assumption) (hz).1 (hz).2.1 (hz).2.2 aw_int (by first | (dsimp only [mX8_withoutPart, gM.dp, gM.kc, gM.ks]; omega) | exact Nat.le_of_ble_eq_true rfl) (by first | (dsimp only [mX8_withoutPart, gM.dp, gM.kc, gM.ks]; omega) | exact Nat.le_of_ble_eq_true rfl) (fun q43 => ?_)
      obtain ⟨ad3, hA3⟩ : ∃ ad3, ad3 = (gN (im, ad1, mc1) 901 q43 (.inr (0, wd t - 1, .inl (fun _ => 0)))).2.1 := ⟨_, rfl⟩
      obtain ⟨mc3, hM3⟩ : ∃ mc3, mc3 = (gN (im, ad1, mc1) 901 q43 (.inr (0, wd t - 1, .inl (fun _ => 0)))).2.2 := ⟨_, rfl⟩
      rw [show gN (im, ad1, mc1) 901 q43 (.inr (0, wd t - 1, .inl (fun _ => 0))) = (im, ad3, mc3) from by rw [hA3, hM3]; rfl]
      refine GW.goto (tgt := 49) dX8_withoutPart_45 (by decide) ?_
      refine GW.astore4 dX8_withoutPart_49 (g := ?_)
      refine GW.iconst (v := 0) dX8_withoutPart_51 (by decide) ?_
      refine GW.istore5 dX8_withoutPart_52 (g := ?_)
      refine GW.widen (k' := 2) (n' := 2 * wd t) (by omega) (by omega) ?_
      refine loop ad3 (some q43) (by rw [hA3]; exact hA9) (fun q e0 e1 => ?_) (wd t - 1) 0 (fun _ => none) mc3 none (by omega) (by rw [hM3]; exact hM9) (fun q e0 e1 => ?_) (fun i' x h => absurd h (Nat.not_lt_zero _)) (Or.inr ⟨q43, fun _ => 0, rfl, h4, by rw [hA3]; rfl, by rw [hM3]; rfl, fun i' x h => absurd h (Nat.not_lt_zero _)⟩)
      · rw [hA3]
        show (if q = 901 then _ else ad1 q) = ad q
        rw [if_neg e1]; exact hAo q e0
      · rw [hM3]
        show (if q = 901 then _ else mc1 q) = mc q
        rw [if_neg e1]; exact hMo q e0
  · have h1 : wd t = 1 := by
      rcases Nat.eq_zero_or_pos (wd t - 1) with q | q
      · omega
      · exact absurd ((mI_lt (a := 0) (by omega) (by omega)).mpr q) h8
    have hy0 : ys = [] := List.eq_nil_of_length_eq_zero (by omega)
    refine GW.newo nw_X8_10 902 [.int 0, .int 0, .null, .null, .int 0, .int 0] dX8_withoutPart_11 (by first | rfl | assumption) (by intro j hj; match j, hj with | 0, _ => rfl | 1, _ => rfl | 2, _ => rfl | 3, _ => rfl | 4, _ => rfl | 5, _ => rfl) (by first | (dsimp only [mX8_withoutPart, gM.dp, gM.kc, gM.ks]; omega) | exact Nat.le_of_ble_eq_true rfl) (by first | (dsimp only [mX8_withoutPart, gM.dp, gM.kc, gM.ks]; omega) | exact Nat.le_of_ble_eq_true rfl) (fun q11 => ?_)
    have hl2 : gL (gN (im, ad, mc) 902 q11 (.inl (8, [.int 0, .int 0, .null, .null, .int 0, .int 0]))) a (.inl (8, [.int t.1, .int t.2.1, va_rf kr, va_rf pr, .int (nI (szT t)), .int (nI (dpT t))])) := Or.inl hn
    refine GW.dup dX8_withoutPart_14 (hv := by first | rfl | exact va_rf_cat _) (g := ?_)
    refine GW.aload0 dX8_withoutPart_15 (g := ?_)
    refine GW.getf fl_X8_9 dX8_withoutPart_16 (by assumption) (by rfl) ?_
    refine GW.aload0 dX8_withoutPart_19 (g := ?_)
    refine GW.getf fl_X8_15 dX8_withoutPart_20 (by assumption) (by rfl) ?_
    refine GW.null dX8_withoutPart_23 ?_
    refine GW.null dX8_withoutPart_24 ?_
    refine GW.callI ci_X8_50 mt_X8_init (c_Value (kind := t.1) (num := t.2.1) (kr := none) (pr := none) (xs := []) (fs := []) rfl rfl rfl (by decide)) (fun _ _ h => h) dX8_withoutPart_25 rfl rfl (by first | (dsimp only [mX8_withoutPart, gM.dp, gM.kc, gM.ks]; omega) | exact Nat.le_of_ble_eq_true rfl | exact Nat.le_refl _ | omega) (by decide) (by first | omega | (dsimp only [mX8_withoutPart, gM.dp, gM.kc, gM.ks]; omega)) (by first | omega | (dsimp only [mX8_withoutPart, gM.dp, gM.kc, gM.ks]; omega)) (by first | exact Nat.le_of_ble_eq_true rfl | (simp [va_rf_cat]; done) | (simp [va_rf_cat, Value.category]; done)) (fun v25 G25 hq => ?_)
    obtain ⟨rfl, rfl⟩ := hq
    refine GW.made (im := im) (ad := (gN (im, ad, mc) 902 q11 (.inl (8, [.int 0, .int 0, .null, .null, .int 0, .int 0]))).2.1) (mc := (gS (gN (im, ad, mc) 902 q11 (.inl (8, [.int 0, .int 0, .null, .null, .int 0, .int 0]))) 902 _).2.2) (ad0 := ad) (mc0 := mc) (kind := t.1) (num := t.2.1) (kr := none) (pr := none) (xs := []) (a := q11) h9 (fun q e0 e1 e2 => ?_) (fun q e0 e1 e2 => ?_) rfl (Or.inr rfl) rfl rfl (fun im' hle hV => ?_)
    · simp [gS, gN, e2]
    · simp [gN, e2]
    · refine GW.areturn dX8_withoutPart_28 (Or.inl ⟨_, rfl⟩) (by first | (dsimp only [mX8_withoutPart, gM.dp, gM.kc, gM.ks]; omega) | exact Nat.le_of_ble_eq_true rfl | exact Nat.le_refl _ | omega) (by first | (dsimp only [mX8_withoutPart, gM.dp, gM.kc, gM.ks]; omega) | exact Nat.le_of_ble_eq_true rfl | exact Nat.le_refl _ | omega) ?_
      subst hQ
      exact ⟨q11, im', rfl, hle, rfl, by unfold remP; rw [← hys, hy0]; exact hV⟩
