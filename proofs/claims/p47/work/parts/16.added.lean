/-! withAdded -/
def insK (xs : List (Int32 × Tr)) (j : Nat) (y : Int32 × Tr) : List (Int32 × Tr) := xs.take j ++ y :: xs.drop j
theorem insK_len {xs : List (Int32 × Tr)} {j : Nat} (y : Int32 × Tr) (h : j ≤ xs.length) : (insK xs j y).length = xs.length + 1 := by unfold insK; simp; omega
theorem insK_lt {xs : List (Int32 × Tr)} {i j : Nat} (y : Int32 × Tr) (hi : i < j) (h : j ≤ xs.length) : (insK xs j y)[i]? = xs[i]? := by
  unfold insK
  rw [List.getElem?_append_left (by simp; omega), List.getElem?_take, if_pos hi]
theorem insK_eq {xs : List (Int32 × Tr)} {j : Nat} (y : Int32 × Tr) (h : j ≤ xs.length) : (insK xs j y)[j]? = some y := by
  unfold insK
  rw [List.getElem?_append_right (by simp; omega)]
  simp [Nat.min_eq_left h]
theorem insK_gt {xs : List (Int32 × Tr)} {i j : Nat} (y : Int32 × Tr) (hi : j ≤ i) (h : j ≤ xs.length) : (insK xs j y)[i + 1]? = xs[i]? := by
  unfold insK
  rw [List.getElem?_append_right (by simp; omega)]
  have : i + 1 - (xs.take j).length = i - j + 1 := by simp; omega
  rw [this, List.getElem?_cons_succ, List.getElem?_drop]
  congr 1; omega
def addP (t : Tr) (j : Nat) (s : Int32) (u : Tr) : Tr := (t.1, t.2.1, ofKids (insK (kids t.2.2) j (if t.1 = 4 then s else 0, u)))
abbrev mX8_withAdded (d kc ks : Nat) : gM := (RX8, cX8_withAdded, 9, (some (.object "MarlStore$Value")), [], "withAdded", d, kc, ks)
abbrev kX8_withAdded (d kc ks : Nat) (as : List Value) (G : gG) (Q : Option Value → gG → Prop) (X : String → gG → Prop) : Prop := Ctr yX8_withAdded cX8_withAdded 9 (some (.object "MarlStore$Value")) d kc ks as G Q X
theorem oX8_withAdded {d kc ks : Nat} {as : List Value} {G : gG} {Q : Option Value → gG → Prop} {X : String → gG → Prop} {L : List (Option Value)} (hL : gEnt as = L) (hlen : (lg_sl as).length ≤ 9) (g : GW (mX8_withAdded d kc ks) Q X G 0 0 0 L []) : kX8_withAdded d kc ks as G Q X := Ctr.of (by decide +kernel) rfl rfl hL hlen g
set_option maxHeartbeats 4000000 in
theorem c_withAdded {G : gG} {a b j : Nat} {s : Int32} {t u : Tr} (h9 : frG G) (hv : isV G.1 a t) (hu : isV G.1 b u) (hadd : addT t s = some j) (hst : sml t) (hsz : sml (addP t j s u)) :
    kX8_withAdded 2 3 (2 * wd t + 8) [.ref a, .int (nI j), .int s, .ref b] G (fun v G' => ∃ c im', v = some (.ref c) ∧ gLe G.1 im' ∧ (im', G.2.1, G.2.2) = G' ∧ isV im' c (addP t j s u)) noX := by
  obtain ⟨im, ad, mc⟩ := G
  have hw := hst.wd
  have hj := addT_le hadd
  have hv : isV im a t := hv
  have hu : isV im b u := hu
  obtain ⟨kr, pr, hn, hk, hp⟩ := hv.node
  have h900 : mc 900 = none := h9 900 (by omega)
  have h901 : mc 901 = none := h9 901 (by omega)
  have h902 : mc 902 = none := h9 902 (by omega)
  have hl : ∀ ad mc, gL (im, ad, mc) a (.inl (8, [.int t.1, .int t.2.1, va_rf kr, va_rf pr, .int (nI (szT t)), .int (nI (dpT t))])) := fun _ _ => Or.inl hn
  have hl0 := hl ad mc
  obtain ⟨ys, hys⟩ : ∃ ys, ys = insK (kids t.2.2) j (if t.1 = 4 then s else 0, u) := ⟨_, rfl⟩
  have hyl : ys.length = wd t + 1 := by rw [hys]; exact insK_len _ hj
  have hszy : szL ys < 2 ^ 20 := by
    unfold sml szT addP at hsz
    dsimp only at hsz
    rw [szF_of, ← hys] at hsz
    omega
  refine oX8_withAdded (L := [some (.ref a), some (.int (nI j)), some (.int s), some (.ref b), none, none, none, none, none, none, none, none]) rfl (Nat.le_of_ble_eq_true rfl) ?_
  generalize hQ : (fun (v : Option Value) (G' : gG) => ∃ c im', v = some (.ref c) ∧ gLe (im, ad, mc).1 im' ∧ (im', (im, ad, mc).2.1, (im, ad, mc).2.2) = G' ∧ isV im' c (addP t j s u)) = Q
  refine GW.aload0 dX8_withAdded_0 (g := ?_)
  refine GW.callV cv_X8_38 mt_X8_width (c_width hv) dX8_withAdded_1 (by assumption) rfl rfl rfl rfl (by first | (dsimp only [mX8_withAdded, gM.dp, gM.kc, gM.ks]; omega) | exact Nat.le_of_ble_eq_true rfl | exact Nat.le_refl _ | omega) (by decide) (by first | omega | (dsimp only [mX8_withAdded, gM.dp, gM.kc, gM.ks]; omega)) (by first | omega | (dsimp only [mX8_withAdded, gM.dp, gM.kc, gM.ks]; omega)) (by first | exact Nat.le_of_ble_eq_true rfl | (simp [va_rf_cat]; done) | (simp [va_rf_cat, Value.category]; done)) rfl (fun _ _ h => h.elim) (fun v1 G1 hq => ?_)
  obtain ⟨w, rfl, rfl, rfl⟩ := hq
  refine GW.istore4 dX8_withAdded_4 (g := ?_)
  refine GW.iload4 dX8_withAdded_6 ?_
  refine GW.iconst (v := 1) dX8_withAdded_8 (by decide) ?_
  refine GW.iadd dX8_withAdded_9 ?_
  rw [mI_succ]
  have hz := mI_sz (n := wd t + 1) (by omega)
  refine GW.newq (kd := 1) nw_X8_10 900 dX8_withAdded_10 (by first | rfl | assumption) (hz).1 (hz).2.1 (hz).2.2 (fun _ => rfl) (by decide) (by first | (dsimp only [mX8_withAdded, gM.dp, gM.kc, gM.ks]; omega) | exact Nat.le_of_ble_eq_true rfl) (by first | (dsimp only [mX8_withAdded, gM.dp, gM.kc, gM.ks]; omega) | exact Nat.le_of_ble_eq_true rfl) (fun q10 => ?_)
  obtain ⟨ad1, hA⟩ : ∃ ad1, ad1 = (gN (im, ad, mc) 900 q10 (.inr (1, wd t + 1, .inr (fun _ => none)))).2.1 := ⟨_, rfl⟩
  obtain ⟨mc1, hM⟩ : ∃ mc1, mc1 = (gN (im, ad, mc) 900 q10 (.inr (1, wd t + 1, .inr (fun _ => none)))).2.2 := ⟨_, rfl⟩
  rw [show gN (im, ad, mc) 900 q10 (.inr (1, wd t + 1, .inr (fun _ => none))) = (im, ad1, mc1) from by rw [hA, hM]; rfl]
  have hA9 : ad1 900 = q10 := by rw [hA]; rfl
  have hAo : ∀ q, q ≠ 900 → ad1 q = ad q := fun q hq => by rw [hA]; show (if q = 900 then q10 else ad q) = ad q; rw [if_neg hq]
  have hM9 : mc1 900 = some (.inr (1, wd t + 1, .inr (fun _ => none))) := by rw [hM]; rfl
  have hMo : ∀ q, q ≠ 900 → mc1 q = mc q := fun q hq => by rw [hM]; show (if q = 900 then _ else mc q) = mc q; rw [if_neg hq]
  have hl1 := hl ad1 mc1
  refine GW.widen (k' := 1) (n' := wd t + 1) (by omega) (by omega) ?_
  -- what is known of the keys that are made
  have loop : ∀ (ad2 : Nat → Nat) (kq : Option Nat), ad2 900 = q10 → (∀ q, q ≠ 900 → q ≠ 901 → ad2 q = ad q) →
      ∀ (m i : Nat) (r' : Nat → Option Nat) (mc' : Nat → Option gC) (l8 : Option Value), i + m = wd t + 1 → mc' 900 = some (.inr (1, wd t + 1, .inr r')) → (∀ q, q ≠ 900 → q ≠ 901 → mc' q = mc q) →
      (∀ (i' : Nat) (x : Int32 × Tr), i' < i → ys[i']? = some x → ∃ b, r' i' = some b ∧ isV im b x.2) →
      ((kq = none ∧ t.1 ≠ 4) ∨ ∃ ka f, kq = some ka ∧ t.1 = 4 ∧ ad2 901 = ka ∧ mc' 901 = some (.inr (0, wd t + 1, .inl f)) ∧ ∀ (i' : Nat) (x : Int32 × Tr), i' < i → ys[i']? = some x → f i' = x.1) →
      GW (mX8_withAdded 2 3 (2 * wd t + 8)) Q noX (im, ad2, mc') 2 (2 * wd t + 2) 38 [some (.ref a), some (.int (nI j)), some (.int s), some (.ref b), some (.int (nI (wd t))), some (.ref q10), some (va_rf kq), some (.int (nI i)), l8, none, none, none] [] := by
    intro ad2 kq h29 h2o m
    induction m with
    | zero =>
      intro i r' mc' l8 hi hr ho hall hkq
      have hl2 := hl ad2 mc'
      refine GW.iload7 dX8_withAdded_38 ?_
      refine GW.iload4 dX8_withAdded_40 ?_
      refine GW.icmp_gt (tgt := 115) dX8_withAdded_42 (by decide) (fun h42 => ?_) (fun h42 => ?_)
      · have hf2 : mc' 902 = none := (ho 902 (by decide) (by decide)).trans h902
        refine GW.newo nw_X8_10 902 [.int 0, .int 0, .null, .null, .int 0, .int 0] dX8_withAdded_115 (by first | rfl | assumption) (by intro j hj; match j, hj with | 0, _ => rfl | 1, _ => rfl | 2, _ => rfl | 3, _ => rfl | 4, _ => rfl | 5, _ => rfl) (by first | (dsimp only [mX8_withAdded, gM.dp, gM.kc, gM.ks]; omega) | exact Nat.le_of_ble_eq_true rfl) (by first | (dsimp only [mX8_withAdded, gM.dp, gM.kc, gM.ks]; omega) | exact Nat.le_of_ble_eq_true rfl) (fun q115 => ?_)
        have hl2 : gL (gN (im, ad2, mc') 902 q115 (.inl (8, [.int 0, .int 0, .null, .null, .int 0, .int 0]))) a (.inl (8, [.int t.1, .int t.2.1, va_rf kr, va_rf pr, .int (nI (szT t)), .int (nI (dpT t))])) := Or.inl hn
        refine GW.dup dX8_withAdded_118 (hv := by first | rfl | exact va_rf_cat _) (g := ?_)
        refine GW.aload0 dX8_withAdded_119 (g := ?_)
        refine GW.getf fl_X8_9 dX8_withAdded_120 (by assumption) (by rfl) ?_
        refine GW.aload0 dX8_withAdded_123 (g := ?_)
        refine GW.getf fl_X8_15 dX8_withAdded_124 (by assumption) (by rfl) ?_
        refine GW.aload6 dX8_withAdded_127 (g := ?_)
        refine GW.aload5 dX8_withAdded_129 (g := ?_)
        have hx9 : parts9 (gN (im, ad2, mc') 902 q115 (.inl (8, [.int 0, .int 0, .null, .null, .int 0, .int 0]))) (some q10) ys := by
          refine ⟨r', Or.inr ⟨900, Or.inl rfl, h29, by rw [hyl]; exact hr⟩, fun i' x hx => hall i' x ?_ hx⟩
          have := (List.getElem?_eq_some_iff.mp hx).1
          omega
        refine GW.callI ci_X8_50 mt_X8_init (c_Value (kind := t.1) (num := t.2.1) (kr := kq) (pr := some q10) (xs := ys) (fs := []) rfl rfl hx9.x hszy) (fun _ _ h => h) dX8_withAdded_131 rfl rfl (by first | (dsimp only [mX8_withAdded, gM.dp, gM.kc, gM.ks]; omega) | exact Nat.le_of_ble_eq_true rfl | exact Nat.le_refl _ | omega) (by decide) (by first | omega | (dsimp only [mX8_withAdded, gM.dp, gM.kc, gM.ks]; omega)) (by first | omega | (dsimp only [mX8_withAdded, gM.dp, gM.kc, gM.ks]; omega)) (by first | exact Nat.le_of_ble_eq_true rfl | (simp [va_rf_cat]; done) | (simp [va_rf_cat, Value.category]; done)) (fun v131 G131 hq => ?_)
        obtain ⟨rfl, rfl⟩ := hq
        refine GW.made (im := im) (ad := (gN (im, ad2, mc') 902 q115 (.inl (8, [.int 0, .int 0, .null, .null, .int 0, .int 0]))).2.1) (mc := (gS (gN (im, ad2, mc') 902 q115 (.inl (8, [.int 0, .int 0, .null, .null, .int 0, .int 0]))) 902 _).2.2) (ad0 := ad) (mc0 := mc) (kind := t.1) (num := t.2.1) (kr := kq) (pr := some q10) (xs := ys) (a := q115) h9 (fun q e0 e1 e2 => ?_) (fun q e0 e1 e2 => ?_) rfl ?_ ?_ rfl (fun im' hle hV => ?_)
        · simp [gS, gN, e2, ho q e0 e1]
        · simp [gN, e2, h2o q e0 e1]
        · rcases hkq with ⟨rfl, h4⟩ | ⟨ka, f, rfl, h4, e1, e2, e3⟩
          · exact Or.inl h4
          · refine ⟨h4, f, Or.inr ⟨901, Or.inr rfl, e1, by rw [hyl]; exact e2⟩, fun i' x hx => e3 i' x ?_ hx⟩
            have := (List.getElem?_eq_some_iff.mp hx).1
            omega
        · obtain ⟨r2, w1, w2⟩ := hx9
          refine ⟨r2, ?_, w2⟩
          rcases w1 with w1 | ⟨q, w0, w1, w3⟩
          · exact Or.inl w1
          · exact Or.inr ⟨q, w0, w1, by rcases w0 with rfl | rfl <;> exact w3⟩
        · refine GW.areturn dX8_withAdded_134 (Or.inl ⟨_, rfl⟩) (by first | (dsimp only [mX8_withAdded, gM.dp, gM.kc, gM.ks]; omega) | exact Nat.le_of_ble_eq_true rfl | exact Nat.le_refl _ | omega) (by first | (dsimp only [mX8_withAdded, gM.dp, gM.kc, gM.ks]; omega) | exact Nat.le_of_ble_eq_true rfl | exact Nat.le_refl _ | omega) ?_
          subst hQ
          exact ⟨q115, im', rfl, hle, rfl, by unfold addP; rw [← hys]; exact hV⟩
      · exact absurd ((mI_lt (by omega) (by omega)).mpr (by omega)) h42
    | succ m ih =>
      intro i r' mc' l8 hi hr ho hall hkq
      have hl2 := hl ad2 mc'
      have hix : gIx (nI i) i (wd t + 1) := mI_ix (by omega) (by omega)
      obtain ⟨z, hz2⟩ : ∃ z, ys[i]? = some z := ⟨_, List.getElem?_eq_getElem (by omega)⟩
      -- behind the key
      have nxt : ∀ (rv : Nat) (mc2 : Nat → Option gC) (l8 : Option Value), isV im rv z.2 → mc2 900 = some (.inr (1, wd t + 1, .inr (va_up r' i (some rv)))) → (∀ q, q ≠ 900 → q ≠ 901 → mc2 q = mc q) →
          ((kq = none ∧ t.1 ≠ 4) ∨ ∃ ka f, kq = some ka ∧ t.1 = 4 ∧ ad2 901 = ka ∧ mc2 901 = some (.inr (0, wd t + 1, .inl f)) ∧ ∀ (i' : Nat) (x : Int32 × Tr), i' < i + 1 → ys[i']? = some x → f i' = x.1) →
          GW (mX8_withAdded 2 3 (2 * wd t + 8)) Q noX (im, ad2, mc2) 2 (2 * wd t + 2) 109 [some (.ref a), some (.int (nI j)), some (.int s), some (.ref b), some (.int (nI (wd t))), some (.ref q10), some (va_rf kq), some (.int (nI i)), l8, none, none, none] [] := by
        intro rv mc2 l8 hy h2 h2o hkq2
        refine GW.inc7 dX8_withAdded_109 (g := ?_)
        refine GW.goto (tgt := 38) dX8_withAdded_112 (by decide) ?_
        rw [mI_succ]
        refine ih (i + 1) _ mc2 l8 (by omega) h2 h2o (fun i' x hi' hx => ?_) hkq2
        by_cases e : i' = i
        · subst e
          rw [hz2] at hx
          cases hx
          exact ⟨rv, by simp [va_up], hy⟩
        · obtain ⟨b', g1, g2⟩ := hall i' x (by omega) hx
          exact ⟨b', by simp [va_up, e, g1], g2⟩
      -- from 83 on: the key
      have keyp : ∀ (rv : Nat) (fv : Int32), isV im rv z.2 → (t.1 = 4 → i ≠ j → stepT t fv = z.1) →
          GW (mX8_withAdded 2 3 (2 * wd t + 8)) Q noX (gS (im, ad2, mc') 900 (.inr (1, wd t + 1, .inr (va_up r' i (some rv))))) 2 (2 * wd t + 2) 83 [some (.ref a), some (.int (nI j)), some (.int s), some (.ref b), some (.int (nI (wd t))), some (.ref q10), some (va_rf kq), some (.int (nI i)), some (.int fv), none, none, none] [] := by
        intro rv fv hy hst4
        have hl3 : gL (gS (im, ad2, mc') 900 (.inr (1, wd t + 1, .inr (va_up r' i (some rv))))) a (.inl (8, [.int t.1, .int t.2.1, va_rf kr, va_rf pr, .int (nI (szT t)), .int (nI (dpT t))])) := Or.inl hn
        have go : ∀ q, q ≠ 900 → q ≠ 901 → (gS (im, ad2, mc') 900 (.inr (1, wd t + 1, .inr (va_up r' i (some rv))))).2.2 q = mc q := fun q e0 e1 => by
          show (if q = 900 then _ else mc' q) = mc q
          rw [if_neg e0]; exact ho q e0 e1
        refine GW.aload6 dX8_withAdded_83 (g := ?_)
        refine GW.ifnull (tgt := 109) dX8_withAdded_85 (by decide) (fun h85 => ?_) (fun r85 h85 => ?_)
        · subst h85
          refine nxt rv _ _ hy rfl go ?_
          rcases hkq with h | ⟨ka, f, h, -⟩
          · exact Or.inl h
          · cases h
        · rcases hkq with ⟨h, -⟩ | ⟨ka, f, e0, h4, e1, e2, e3⟩
          · rw [h] at h85; cases h85
          · subst e0
            cases h85
            have e2' : (gS (im, ad2, mc') 900 (.inr (1, wd t + 1, .inr (va_up r' i (some rv))))).2.2 901 = some (.inr (0, wd t + 1, .inl f)) := e2
            have stk : ∀ kv : Int32, kv = z.1 → GW (mX8_withAdded 2 3 (2 * wd t + 8)) Q noX (gS (im, ad2, mc') 900 (.inr (1, wd t + 1, .inr (va_up r' i (some rv))))) 2 (2 * wd t + 2) 108 [some (.ref a), some (.int (nI j)), some (.int s), some (.ref b), some (.int (nI (wd t))), some (.ref q10), some (va_rf (some r85)), some (.int (nI i)), some (.int fv), none, none, none] [.int kv, .int (nI i), va_rf (some r85)] := by
              intro kv hkv
              subst hkv
              refine GW.iast (r := 901) (a := r85) dX8_withAdded_108 e2' hix e1 ?_
              refine nxt rv _ _ hy rfl (fun q e0 e1 => ?_) (Or.inr ⟨r85, _, rfl, h4, e1, rfl, fun i' x hi' hx => ?_⟩)
              · show (if q = 901 then _ else _) = mc q
                rw [if_neg e1]; exact go q e0 e1
              · by_cases e : i' = i
                · subst e
                  rw [hz2] at hx
                  cases hx
                  simp [upd]
                · simp only [upd, if_neg e]
                  exact e3 i' x (by omega) hx
            refine GW.aload6 dX8_withAdded_88 (g := ?_)
            refine GW.iload7 dX8_withAdded_90 ?_
            refine GW.iload7 dX8_withAdded_92 ?_
            refine GW.iload1 dX8_withAdded_94 ?_
            refine GW.icmp_ne (tgt := 102) dX8_withAdded_95 (by decide) (fun h95 => ?_) (fun h95 => ?_)
            · have hne : i ≠ j := fun e => h95 (by rw [e])
              refine GW.aload0 dX8_withAdded_102 (g := ?_)
              refine GW.iload8 dX8_withAdded_103 ?_
              refine GW.callV cv_X8_53 mt_X8_stepOf (c_stepOf (G := gS (im, ad2, mc') 900 (.inr (1, wd t + 1, .inr (va_up r' i (some rv))))) hv hst fv) dX8_withAdded_105 (by assumption) rfl rfl rfl rfl (by first | (dsimp only [mX8_withAdded, gM.dp, gM.kc, gM.ks]; omega) | exact Nat.le_of_ble_eq_true rfl | exact Nat.le_refl _ | omega) (by decide) (by first | omega | (dsimp only [mX8_withAdded, gM.dp, gM.kc, gM.ks]; omega)) (by first | omega | (dsimp only [mX8_withAdded, gM.dp, gM.kc, gM.ks]; omega)) (by first | exact Nat.le_of_ble_eq_true rfl | (simp [va_rf_cat]; done) | (simp [va_rf_cat, Value.category]; done)) rfl (fun _ _ h => h.elim) (fun v105 G105 hq => ?_)
              obtain ⟨w, rfl, rfl, rfl⟩ := hq
              exact stk _ (hst4 h4 hne)
            · have he : i = j := (mI_eq (by omega) (by omega)).mp h95
              refine GW.iload2 dX8_withAdded_98 ?_
              refine GW.goto (tgt := 108) dX8_withAdded_99 (by decide) ?_
              refine stk _ ?_
              have hz3 := hz2
              rw [hys, he, insK_eq _ hj, if_pos h4] at hz3
              cases hz3
              rfl
      -- from 62 on: the child
      have chp : ∀ (fv : Int32) (l8 : Option Value), (i ≠ j → ∃ i0 y, i0 < 2 ^ 31 ∧ fv = nI i0 ∧ (kids t.2.2)[i0]? = some y ∧ y = z) →
          GW (mX8_withAdded 2 3 (2 * wd t + 8)) Q noX (im, ad2, mc') 2 (2 * wd t + 2) 62 [some (.ref a), some (.int (nI j)), some (.int s), some (.ref b), some (.int (nI (wd t))), some (.ref q10), some (va_rf kq), some (.int (nI i)), some (.int fv), none, none, none] [] := by
        intro fv l8 hf
        refine GW.aload5 dX8_withAdded_62 (g := ?_)
        refine GW.iload7 dX8_withAdded_64 ?_
        refine GW.iload7 dX8_withAdded_66 ?_
        refine GW.iload1 dX8_withAdded_68 ?_
        refine GW.icmp_ne (tgt := 76) dX8_withAdded_69 (by decide) (fun h69 => ?_) (fun h69 => ?_)
        · have hne : i ≠ j := fun e => h69 (by rw [e])
          obtain ⟨i0, y, hi0, rfl, hy, rfl⟩ := hf hne
          refine GW.aload0 dX8_withAdded_76 (g := ?_)
          refine GW.iload8 dX8_withAdded_77 ?_
          refine GW.callV cv_X8_46 mt_X8_partAt (c_partAt (G := (im, ad2, mc')) hv hst (nI i0)) dX8_withAdded_79 (by assumption) rfl rfl rfl rfl (by first | (dsimp only [mX8_withAdded, gM.dp, gM.kc, gM.ks]; omega) | exact Nat.le_of_ble_eq_true rfl | exact Nat.le_refl _ | omega) (by decide) (by first | omega | (dsimp only [mX8_withAdded, gM.dp, gM.kc, gM.ks]; omega)) (by first | omega | (dsimp only [mX8_withAdded, gM.dp, gM.kc, gM.ks]; omega)) (by first | exact Nat.le_of_ble_eq_true rfl | (simp [va_rf_cat]; done) | (simp [va_rf_cat, Value.category]; done)) rfl (fun _ _ h => h.elim) (fun v79 G79 hq => ?_)
          obtain ⟨rv, rfl, rfl, hq⟩ := hq
          rw [partT_mI hi0, kid_some hy] at hq
          cases rv with
          | none => exact hq.elim
          | some v =>
            have hq : isV im v y.2 := hq
            refine GW.aast (r := 900) dX8_withAdded_82 (by first | assumption | rfl) (by assumption) (by decide) (by first | assumption | rfl) (fun w hw => by cases hw; obtain ⟨_, _, h, _⟩ := hq.node; exact ⟨_, Or.inl h⟩) ?_
            exact keyp v (nI i0) hq (fun h4 _ => by rw [stepT_mI hi0 hy, if_pos h4])
        · have he : i = j := (mI_eq (by omega) (by omega)).mp h69
          have hz3 := hz2
          rw [hys, he, insK_eq _ hj] at hz3
          have hz4 : z.2 = u := by cases hz3; rfl
          refine GW.aload3 dX8_withAdded_72 (g := ?_)
          refine GW.goto (tgt := 82) dX8_withAdded_73 (by decide) ?_
          refine GW.aast (v := some b) (r := 900) dX8_withAdded_82 hr hix (by decide) h29 (fun w hw => by cases hw; obtain ⟨_, _, h, _⟩ := hu.node; exact ⟨_, Or.inl h⟩) ?_
          exact keyp b fv (by rw [hz4]; exact hu) (fun _ h => absurd he h)
      refine GW.iload7 dX8_withAdded_38 ?_
      refine GW.iload4 dX8_withAdded_40 ?_
      refine GW.icmp_gt (tgt := 115) dX8_withAdded_42 (by decide) (fun h42 => ?_) (fun h42 => ?_)
      · exact absurd ((mI_lt (by omega) (by omega)).mp h42) (by omega)
      · refine GW.iload7 dX8_withAdded_45 ?_
        refine GW.iload1 dX8_withAdded_47 ?_
        refine GW.icmp_ge (tgt := 56) dX8_withAdded_48 (by decide) (fun h48 => ?_) (fun h48 => ?_)
        · have hji : j ≤ i := (mI_le (by omega) (by omega)).mp h48
          refine GW.iload7 dX8_withAdded_56 ?_
          refine GW.iconst (v := 1) dX8_withAdded_58 (by decide) ?_
          refine GW.isub dX8_withAdded_59 ?_
          refine GW.istore8 dX8_withAdded_60 (g := ?_)
          refine chp _ l8 fun hne => ?_
          have hlt : j < i := by omega
          refine ⟨i - 1, z, by omega, mI_pred (by omega), ?_, rfl⟩
          have hz3 := hz2
          rw [hys, show i = i - 1 + 1 by omega, insK_gt _ (by omega) hj] at hz3
          exact hz3
        · have hij : i < j := by
            rcases Nat.lt_or_ge i j with q | q
            · exact q
            · exact absurd ((mI_le (by omega) (by omega)).mpr q) h48
          refine GW.iload7 dX8_withAdded_51 ?_
          refine GW.goto (tgt := 60) dX8_withAdded_53 (by decide) ?_
          refine GW.istore8 dX8_withAdded_60 (g := ?_)
          refine chp _ l8 fun hne => ⟨i, z, by omega, rfl, ?_, rfl⟩
          have hz3 := hz2
          rw [hys, insK_lt _ hij hj] at hz3
          exact hz3
  refine GW.astore5 dX8_withAdded_13 (g := ?_)
  refine GW.aload0 dX8_withAdded_15 (g := ?_)
  refine GW.getf fl_X8_9 dX8_withAdded_16 (by assumption) (by rfl) ?_
  refine GW.iconst (v := 4) dX8_withAdded_19 (by decide) ?_
  refine GW.icmp_ne (tgt := 32) dX8_withAdded_20 (by decide) (fun h20 => ?_) (fun h20 => ?_)
  · refine GW.null dX8_withAdded_32 ?_
    refine GW.astore6 dX8_withAdded_33 (g := ?_)
    refine GW.iconst (v := 0) dX8_withAdded_35 (by decide) ?_
    refine GW.istore7 dX8_withAdded_36 (g := ?_)
    refine GW.widen (k' := 2) (n' := 2 * wd t + 2) (by omega) (by omega) ?_
    exact loop ad1 none hA9 (fun q e0 e1 => hAo q e0) (wd t + 1) 0 _ mc1 none (by omega) hM9 (fun q e0 e1 => hMo q e0) (fun i' x h => absurd h (Nat.not_lt_zero _)) (Or.inl ⟨rfl, h20⟩)
  · have h4 : t.1 = 4 := h20
    have hf1 : mc1 901 = none := (hMo 901 (by decide)).trans h901
    refine GW.iload4 dX8_withAdded_23 ?_
    refine GW.iconst (v := 1) dX8_withAdded_25 (by decide) ?_
    refine GW.iadd dX8_withAdded_26 ?_
    rw [mI_succ]
    refine GW.newi 901 dX8_withAdded_27 (by first | rfl | assumption) (hz).1 (hz).2.1 (hz).2.2 aw_int (by first | (dsimp only [mX8_withAdded, gM.dp, gM.kc, gM.ks]; omega) | exact Nat.le_of_ble_eq_true rfl) (by first | (dsimp only [mX8_withAdded, gM.dp, gM.kc, gM.ks]; omega) | exact Nat.le_of_ble_eq_true rfl) (fun q27 => ?_)
    obtain ⟨ad3, hA3⟩ : ∃ ad3, ad3 = (gN (im, ad1, mc1) 901 q27 (.inr (0, wd t + 1, .inl (fun _ => 0)))).2.1 := ⟨_, rfl⟩
    obtain ⟨mc3, hM3⟩ : ∃ mc3, mc3 = (gN (im, ad1, mc1) 901 q27 (.inr (0, wd t + 1, .inl (fun _ => 0)))).2.2 := ⟨_, rfl⟩
    rw [show gN (im, ad1, mc1) 901 q27 (.inr (0, wd t + 1, .inl (fun _ => 0))) = (im, ad3, mc3) from by rw [hA3, hM3]; rfl]
    refine GW.goto (tgt := 33) dX8_withAdded_29 (by decide) ?_
    refine GW.astore6 dX8_withAdded_33 (g := ?_)
    refine GW.iconst (v := 0) dX8_withAdded_35 (by decide) ?_
    refine GW.istore7 dX8_withAdded_36 (g := ?_)
    refine GW.widen (k' := 2) (n' := 2 * wd t + 2) (by omega) (by omega) ?_
    refine loop ad3 (some q27) (by rw [hA3]; exact hA9) (fun q e0 e1 => ?_) (wd t + 1) 0 (fun _ => none) mc3 none (by omega) (by rw [hM3]; exact hM9) (fun q e0 e1 => ?_) (fun i' x h => absurd h (Nat.not_lt_zero _)) (Or.inr ⟨q27, fun _ => 0, rfl, h4, by rw [hA3]; rfl, by rw [hM3]; rfl, fun i' x h => absurd h (Nat.not_lt_zero _)⟩)
    · rw [hA3]
      show (if q = 901 then _ else ad1 q) = ad q
      rw [if_neg e1]; exact hAo q e0
    · rw [hM3]
      show (if q = 901 then _ else mc1 q) = mc q
      rw [if_neg e1]; exact hMo q e0
