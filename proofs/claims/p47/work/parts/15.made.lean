/-! a VALUE that has been made is finished: from the roles 900, 901, 902 to what never changes -/
def frG (G : gG) : Prop := ∀ r, 900 ≤ r → G.2.2 r = none
def gL9 (G : gG) (a : Nat) (c : gC) : Prop := G.1 a = some c ∨ ∃ q, (q = 900 ∨ q = 901) ∧ G.2.1 q = a ∧ G.2.2 q = some c
theorem gL9.x {G : gG} {a : Nat} {c : gC} (h : gL9 G a c) : gLx G 902 a c := by
  rcases h with h | ⟨q, h1, h2⟩
  · exact Or.inl h
  · exact Or.inr ⟨q, by omega, h2⟩
def keys9 (G : gG) (kr : Option Nat) (kind : Int32) (xs : List (Int32 × Tr)) : Prop := match kr with
  | none => kind ≠ 4 ∨ xs = []
  | some ka => kind = 4 ∧ ∃ f, gL9 G ka (.inr (0, xs.length, .inl f)) ∧ ∀ (i : Nat) (x : Int32 × Tr), xs[i]? = some x → f i = x.1
def parts9 (G : gG) (pr : Option Nat) (xs : List (Int32 × Tr)) : Prop := match pr with
  | none => xs = []
  | some pa => ∃ r', gL9 G pa (.inr (1, xs.length, .inr r')) ∧ ∀ (j : Nat) (x : Int32 × Tr), xs[j]? = some x → ∃ b, r' j = some b ∧ isV G.1 b x.2
theorem parts9.x {G : gG} {pr : Option Nat} {xs : List (Int32 × Tr)} (h : parts9 G pr xs) : partsX G pr xs := by
  cases pr with
  | none => exact h
  | some pa =>
    obtain ⟨r', h1, h2⟩ := h
    exact ⟨r', h1.x, h2⟩
section GWD
variable {M : gM} {Q : Option Value → gG → Prop} {X : String → gG → Prop} {k n pc : Nat} {L : List (Option Value)} {st : List Value}
theorem GW.made {im : gIm} {ad ad0 : Nat → Nat} {mc mc0 : Nat → Option gC} {kind num : Int32} {kr pr : Option Nat} {xs : List (Int32 × Tr)} {a : Nat}
    (h0 : ∀ r, 900 ≤ r → mc0 r = none) (hm : ∀ q, q ≠ 900 → q ≠ 901 → q ≠ 902 → mc q = mc0 q) (ha : ∀ q, q ≠ 900 → q ≠ 901 → q ≠ 902 → ad q = ad0 q)
    (h2 : mc 902 = some (.inl (8, [.int kind, .int num, va_rf kr, va_rf pr, .int (nI (1 + szL xs)), .int (nI (1 + dpL xs))]))) (hk : keys9 (im, ad, mc) kr kind xs) (hp : parts9 (im, ad, mc) pr xs) (had : ad 902 = a)
    (g : ∀ im', gLe im im' → isV im' a (kind, num, ofKids xs) → GW M Q X (im', ad0, mc0) k n pc L st) : GW M Q X (im, ad, mc) k n pc L st := by
  subst had
  have fz : ∀ (r : Nat) (im1 : gIm) (mc1 : Nat → Option gC), (∀ im', gLe im1 im' → (∀ c, mc1 r = some c → im' (ad r) = some c) → GW M Q X (im', ad, fun q => if q = r then none else mc1 q) k n pc L st) → GW M Q X (im1, ad, mc1) k n pc L st := by
    intro r im1 mc1 hg
    cases hc : mc1 r with
    | none =>
      have e : (fun q => if q = r then none else mc1 q) = mc1 := funext fun q => by
        by_cases hq : q = r
        · simp [hq, hc]
        · simp [hq]
      have := hg im1 (gLe.rf _) (fun c h => by rw [hc] at h; cases h)
      rwa [e] at this
    | some c =>
      refine GW.frz (G := (im1, ad, mc1)) r hc fun im' h1 h2 => hg im' h1 fun c' h => ?_
      rw [hc] at h
      cases h
      exact h2
  refine fz 900 im mc fun im1 g1 f1 => ?_
  refine fz 901 im1 _ fun im2 g2 f2 => ?_
  refine fz 902 im2 _ fun im3 g3 f3 => ?_
  have hle : gLe im im3 := (g1.tr g2).tr g3
  have l9 : ∀ b c, gL9 (im, ad, mc) b c → im3 b = some c := by
    intro b c h
    rcases h with h | ⟨q, hq, h1, h4⟩
    · exact hle _ _ h
    · have h1 : ad q = b := h1
      have h4 : mc q = some c := h4
      rcases hq with rfl | rfl
      · rw [← h1]; exact g3 _ _ (g2 _ _ (f1 _ h4))
      · rw [← h1]; exact g3 _ _ (f2 _ (by simpa using h4))
  have hv : isV im3 (ad 902) (kind, num, ofKids xs) := by
    refine isV.of (kr := kr) (pr := pr) ?_ ?_ ?_
    · have e := f3 (.inl (8, [.int kind, .int num, va_rf kr, va_rf pr, .int (nI (1 + szL xs)), .int (nI (1 + dpL xs))])) (by simpa using h2)
      rw [e]
      unfold szT dpT
      dsimp only
      rw [szF_of, dpF_of]
    · cases kr with
      | none =>
        rcases hk with hk | hk
        · exact Or.inl hk
        · exact Or.inr (by rw [kids_of]; exact hk)
      | some ka =>
        obtain ⟨q1, f, q2, q3⟩ := hk
        exact ⟨q1, f, by rw [kids_of]; exact l9 _ _ q2, by rw [kids_of]; exact q3⟩
    · cases pr with
      | none => show kids (ofKids xs) = []; rw [kids_of]; exact hp
      | some pa =>
        obtain ⟨r', q1, q2⟩ := hp
        refine ⟨r', by rw [kids_of]; exact l9 _ _ q1, ?_⟩
        rw [kids_of]
        intro j x hj
        obtain ⟨b, w1, w2⟩ := q2 j x hj
        exact ⟨b, w1, w2.mono hle⟩
  refine GW.back (G := (im3, ad, _)) ad0 mc0 (fun q => ?_) (fun q c hq => ?_) (g im3 hle hv)
  · by_cases e2 : q = 902
    · subst e2; simp [h0]
    · by_cases e1 : q = 901
      · subst e1; simp [h0]
      · by_cases e0 : q = 900
        · subst e0; simp [h0]
        · simp [e0, e1, e2, hm q e0 e1 e2]
  · have hlt : q < 900 := by
      rcases Nat.lt_or_ge q 900 with h | h
      · exact h
      · rw [h0 q h] at hq; cases hq
    exact (ha q (by omega) (by omega) (by omega)).symm
end GWD
/-- the child at a place put anew -/
def setK (xs : List (Int32 × Tr)) (j : Nat) (u : Tr) : List (Int32 × Tr) := xs.modify j (fun x => (x.1, u))
def setP (t : Tr) (j : Nat) (u : Tr) : Tr := (t.1, t.2.1, ofKids (setK (kids t.2.2) j u))
theorem setK_len (xs : List (Int32 × Tr)) (j : Nat) (u : Tr) : (setK xs j u).length = xs.length := by unfold setK; simp
theorem setK_get (xs : List (Int32 × Tr)) (j i : Nat) (u : Tr) : (setK xs j u)[i]? = if i = j then xs[i]?.map (fun x => (x.1, u)) else xs[i]? := by
  unfold setK
  rw [List.getElem?_modify]
  by_cases h : i = j
  · subst h; simp
  · rw [if_neg h]; simp [Ne.symm h]
abbrev mX8_withPart (d kc ks : Nat) : gM := (RX8, cX8_withPart, 6, (some (.object "MarlStore$Value")), [], "withPart", d, kc, ks)
abbrev kX8_withPart (d kc ks : Nat) (as : List Value) (G : gG) (Q : Option Value → gG → Prop) (X : String → gG → Prop) : Prop := Ctr yX8_withPart cX8_withPart 6 (some (.object "MarlStore$Value")) d kc ks as G Q X
theorem oX8_withPart {d kc ks : Nat} {as : List Value} {G : gG} {Q : Option Value → gG → Prop} {X : String → gG → Prop} {L : List (Option Value)} (hL : gEnt as = L) (hlen : (lg_sl as).length ≤ 6) (g : GW (mX8_withPart d kc ks) Q X G 0 0 0 L []) : kX8_withPart d kc ks as G Q X := Ctr.of (by decide +kernel) rfl rfl hL hlen g
theorem c_withPart {G : gG} {a b j : Nat} {t u : Tr} (h9 : frG G) (hv : isV G.1 a t) (hu : isV G.1 b u) (hj : j < wd t) (hst : sml t) (hsz : sml (setP t j u)) :
    kX8_withPart 2 2 (wd t + 6) [.ref a, .int (nI j), .ref b] G (fun v G' => ∃ c im', v = some (.ref c) ∧ gLe G.1 im' ∧ (im', G.2.1, G.2.2) = G' ∧ isV im' c (setP t j u)) noX := by
  obtain ⟨im, ad, mc⟩ := G
  have hw := hst.wd
  have hv : isV im a t := hv
  have hu : isV im b u := hu
  obtain ⟨kr, pr, hn, hk, hp⟩ := hv.node
  have h900 : mc 900 = none := h9 900 (by omega)
  have h901 : mc 901 = none := h9 901 (by omega)
  have h902 : mc 902 = none := h9 902 (by omega)
  have hl : ∀ ad mc, gL (im, ad, mc) a (.inl (8, [.int t.1, .int t.2.1, va_rf kr, va_rf pr, .int (nI (szT t)), .int (nI (dpT t))])) := fun _ _ => Or.inl hn
  have hl0 := hl ad mc
  refine oX8_withPart (L := [some (.ref a), some (.int (nI j)), some (.ref b), none, none, none, none, none, none, none, none, none]) rfl (Nat.le_of_ble_eq_true rfl) ?_
  generalize hQ : (fun (v : Option Value) (G' : gG) => ∃ c im', v = some (.ref c) ∧ gLe (im, ad, mc).1 im' ∧ (im', (im, ad, mc).2.1, (im, ad, mc).2.2) = G' ∧ isV im' c (setP t j u)) = Q
  refine GW.aload0 dX8_withPart_0 (g := ?_)
  refine GW.callV cv_X8_38 mt_X8_width (c_width hv) dX8_withPart_1 (by assumption) rfl rfl rfl rfl (by first | (dsimp only [mX8_withPart, gM.dp, gM.kc, gM.ks]; omega) | exact Nat.le_of_ble_eq_true rfl | exact Nat.le_refl _ | omega) (by decide) (by first | omega | (dsimp only [mX8_withPart, gM.dp, gM.kc, gM.ks]; omega)) (by first | omega | (dsimp only [mX8_withPart, gM.dp, gM.kc, gM.ks]; omega)) (by first | exact Nat.le_of_ble_eq_true rfl | (simp [va_rf_cat]; done) | (simp [va_rf_cat, Value.category]; done)) rfl (fun _ _ h => h.elim) (fun v1 G1 hq => ?_)
  obtain ⟨w, rfl, rfl, rfl⟩ := hq
  have hz := mI_sz (n := wd t) (by omega)
  refine GW.istore3 dX8_withPart_4 (g := ?_)
  refine GW.iload3 dX8_withPart_5 ?_
  refine GW.newq (kd := 1) nw_X8_10 900 dX8_withPart_6 (by first | rfl | assumption) (hz).1 (hz).2.1 (hz).2.2 (fun _ => rfl) (by decide) (by first | (dsimp only [mX8_withPart, gM.dp, gM.kc, gM.ks]; omega) | exact Nat.le_of_ble_eq_true rfl) (by first | (dsimp only [mX8_withPart, gM.dp, gM.kc, gM.ks]; omega) | exact Nat.le_of_ble_eq_true rfl) (fun q6 => ?_)
  obtain ⟨ad1, hA⟩ : ∃ ad1, ad1 = (gN (im, ad, mc) 900 q6 (.inr (1, wd t, .inr (fun _ => none)))).2.1 := ⟨_, rfl⟩
  obtain ⟨mc1, hM⟩ : ∃ mc1, mc1 = (gN (im, ad, mc) 900 q6 (.inr (1, wd t, .inr (fun _ => none)))).2.2 := ⟨_, rfl⟩
  rw [show gN (im, ad, mc) 900 q6 (.inr (1, wd t, .inr (fun _ => none))) = (im, ad1, mc1) from by rw [hA, hM]; rfl]
  refine GW.widen (k' := 1) (n' := wd t) (by omega) (by omega) ?_
  have hA9 : ad1 900 = q6 := by rw [hA]; rfl
  have hAo : ∀ q, q ≠ 900 → ad1 q = ad q := fun q hq => by rw [hA]; show (if q = 900 then q6 else ad q) = ad q; rw [if_neg hq]
  refine GW.astore4 dX8_withPart_9 (g := ?_)
  refine GW.iconst (v := 0) dX8_withPart_11 (by decide) ?_
  refine GW.istore5 dX8_withPart_12 (g := ?_)
  have key : ∀ (m i : Nat) (r' : Nat → Option Nat) (mc' : Nat → Option gC), i + m = wd t → mc' 900 = some (.inr (1, wd t, .inr r')) → (∀ q, q ≠ 900 → mc' q = mc q) →
      (∀ (i' : Nat) (x : Int32 × Tr), i' < i → (setK (kids t.2.2) j u)[i']? = some x → ∃ b, r' i' = some b ∧ isV im b x.2) →
      GW (mX8_withPart 2 2 (wd t + 6)) Q noX (im, ad1, mc') 1 (wd t) 14 [some (.ref a), some (.int (nI j)), some (.ref b), some (.int (nI (wd t))), some (.ref q6), some (.int (nI i)), none, none, none, none, none, none] [] := by
    intro m
    induction m with
    | zero =>
      intro i r' mc' hi hr ho hall
      have hl1 := hl ad1 mc'
      refine GW.iload5 dX8_withPart_14 ?_
      refine GW.iload3 dX8_withPart_16 ?_
      refine GW.icmp_ge (tgt := 47) dX8_withPart_17 (by decide) (fun h17 => ?_) (fun h17 => ?_)
      · have hf2 : mc' 902 = none := (ho 902 (by decide)).trans h902
        refine GW.newo nw_X8_10 902 [.int 0, .int 0, .null, .null, .int 0, .int 0] dX8_withPart_47 (by first | rfl | assumption) (by intro j hj; match j, hj with | 0, _ => rfl | 1, _ => rfl | 2, _ => rfl | 3, _ => rfl | 4, _ => rfl | 5, _ => rfl) (by first | (dsimp only [mX8_withPart, gM.dp, gM.kc, gM.ks]; omega) | exact Nat.le_of_ble_eq_true rfl) (by first | (dsimp only [mX8_withPart, gM.dp, gM.kc, gM.ks]; omega) | exact Nat.le_of_ble_eq_true rfl) (fun q47 => ?_)
        have hl2 : gL (gN (im, ad1, mc') 902 q47 (.inl (8, [.int 0, .int 0, .null, .null, .int 0, .int 0]))) a (.inl (8, [.int t.1, .int t.2.1, va_rf kr, va_rf pr, .int (nI (szT t)), .int (nI (dpT t))])) := Or.inl hn
        refine GW.dup dX8_withPart_50 (hv := by first | rfl | exact va_rf_cat _) (g := ?_)
        refine GW.aload0 dX8_withPart_51 (g := ?_)
        refine GW.getf fl_X8_9 dX8_withPart_52 (by assumption) (by rfl) ?_
        refine GW.aload0 dX8_withPart_55 (g := ?_)
        refine GW.getf fl_X8_15 dX8_withPart_56 (by assumption) (by rfl) ?_
        refine GW.aload0 dX8_withPart_59 (g := ?_)
        refine GW.getf fl_X8_18 dX8_withPart_60 (by assumption) (by rfl) ?_
        refine GW.aload4 dX8_withPart_63 (g := ?_)
        have hx9 : parts9 (gN (im, ad1, mc') 902 q47 (.inl (8, [.int 0, .int 0, .null, .null, .int 0, .int 0]))) (some q6) (setK (kids t.2.2) j u) := by
          refine ⟨r', Or.inr ⟨900, Or.inl rfl, hA9, ?_⟩, fun i' x hx => hall i' x ?_ hx⟩
          · rw [setK_len]; exact hr
          · have := (List.getElem?_eq_some_iff.mp hx).1
            rw [setK_len] at this
            unfold wd at hi
            omega
        have hsz' : szL (setK (kids t.2.2) j u) < 2 ^ 20 := by
          unfold sml szT setP at hsz
          dsimp only at hsz
          rw [szF_of] at hsz
          omega
        refine GW.callI ci_X8_50 mt_X8_init (c_Value (kind := t.1) (num := t.2.1) (kr := kr) (pr := some q6) (xs := setK (kids t.2.2) j u) (fs := []) rfl rfl hx9.x hsz') (fun _ _ h => h) dX8_withPart_65 rfl rfl (by first | (dsimp only [mX8_withPart, gM.dp, gM.kc, gM.ks]; omega) | exact Nat.le_of_ble_eq_true rfl | exact Nat.le_refl _ | omega) (by decide) (by first | omega | (dsimp only [mX8_withPart, gM.dp, gM.kc, gM.ks]; omega)) (by first | omega | (dsimp only [mX8_withPart, gM.dp, gM.kc, gM.ks]; omega)) (by first | exact Nat.le_of_ble_eq_true rfl | (simp [va_rf_cat]; done) | (simp [va_rf_cat, Value.category]; done)) (fun v65 G65 hq => ?_)
        obtain ⟨rfl, rfl⟩ := hq
        refine GW.made (im := im) (ad := (gN (im, ad1, mc') 902 q47 (.inl (8, [.int 0, .int 0, .null, .null, .int 0, .int 0]))).2.1) (mc := (gS (gN (im, ad1, mc') 902 q47 (.inl (8, [.int 0, .int 0, .null, .null, .int 0, .int 0]))) 902 _).2.2) (ad0 := ad) (mc0 := mc) (kind := t.1) (num := t.2.1) (kr := kr) (pr := some q6) (xs := setK (kids t.2.2) j u) (a := q47) h9 (fun q e0 e1 e2 => ?_) (fun q e0 e1 e2 => ?_) rfl ?_ ?_ rfl (fun im' hle hV => ?_)
        · simp [gS, gN, e2, ho q e0]
        · simp [gN, e2, hAo q e0]
        · cases kr with
          | none =>
            rcases hk with hk | hk
            · exact Or.inl hk
            · refine Or.inr ?_
              have := setK_len (kids t.2.2) j u
              rw [hk] at this ⊢
              exact List.eq_nil_of_length_eq_zero this
          | some ka =>
            obtain ⟨q1, f, q2, q3⟩ := hk
            refine ⟨q1, f, by rw [setK_len]; exact Or.inl q2, fun i' x hx => ?_⟩
            rw [setK_get] at hx
            by_cases e : i' = j
            · rw [if_pos e] at hx
              cases hy : (kids t.2.2)[i']? with
              | none => rw [hy] at hx; cases hx
              | some y =>
                rw [hy] at hx
                cases hx
                exact q3 i' y hy
            · rw [if_neg e] at hx
              exact q3 i' x hx
        · obtain ⟨r2, w1, w2⟩ := hx9
          refine ⟨r2, ?_, w2⟩
          rcases w1 with w1 | ⟨q, w0, w1, w3⟩
          · exact Or.inl w1
          · exact Or.inr ⟨q, w0, w1, by rcases w0 with rfl | rfl <;> exact w3⟩
        · refine GW.areturn dX8_withPart_68 (Or.inl ⟨_, rfl⟩) (by first | (dsimp only [mX8_withPart, gM.dp, gM.kc, gM.ks]; omega) | exact Nat.le_of_ble_eq_true rfl | exact Nat.le_refl _ | omega) (by first | (dsimp only [mX8_withPart, gM.dp, gM.kc, gM.ks]; omega) | exact Nat.le_of_ble_eq_true rfl | exact Nat.le_refl _ | omega) ?_
          subst hQ
          exact ⟨q47, im', rfl, hle, rfl, hV⟩
      · exact absurd ((mI_le (by omega) (by omega)).mpr (by omega)) h17
    | succ m ih =>
      intro i r' mc' hi hr ho hall
      have hl1 := hl ad1 mc'
      have hix : gIx (nI i) i (wd t) := mI_ix (by omega) (by omega)
      obtain ⟨x, hx⟩ : ∃ x, (kids t.2.2)[i]? = some x := ⟨_, List.getElem?_eq_getElem (by unfold wd at hi; omega)⟩
      have put : ∀ (rv : Option Nat) (y : Tr), isO im rv (some y) → (∀ z, (setK (kids t.2.2) j u)[i]? = some z → z.2 = y) → GW (mX8_withPart 2 2 (wd t + 6)) Q noX (im, ad1, mc') 1 (wd t) 40 [some (.ref a), some (.int (nI j)), some (.ref b), some (.int (nI (wd t))), some (.ref q6), some (.int (nI i)), none, none, none, none, none, none] [va_rf rv, .int (nI i), .ref q6] := by
        intro rv y hy hz
        cases rv with
        | none => exact hy.elim
        | some v =>
          have hy : isV im v y := hy
          refine GW.aast (r := 900) dX8_withPart_40 (by first | assumption | rfl) (by assumption) (by decide) (by first | assumption | rfl) (fun w hw => by cases hw; obtain ⟨_, _, h, _⟩ := hy.node; exact ⟨_, Or.inl h⟩) ?_
          refine GW.inc5 dX8_withPart_41 (g := ?_)
          refine GW.goto (tgt := 14) dX8_withPart_44 (by decide) ?_
          rw [mI_succ]
          refine ih (i + 1) _ _ (by omega) (by show (if 900 = 900 then _ else _) = _; rw [if_pos rfl]) (fun q hq => by show (if q = 900 then _ else _) = _; rw [if_neg hq]; exact ho q hq) ?_
          intro i' z hi' hz'
          by_cases e : i' = i
          · subst e
            exact ⟨v, by simp [va_up], by rw [hz z hz']; exact hy⟩
          · obtain ⟨b', g1, g2⟩ := hall i' z (by omega) hz'
            exact ⟨b', by simp [va_up, e, g1], g2⟩
      refine GW.iload5 dX8_withPart_14 ?_
      refine GW.iload3 dX8_withPart_16 ?_
      refine GW.icmp_ge (tgt := 47) dX8_withPart_17 (by decide) (fun h17 => ?_) (fun h17 => ?_)
      · exact absurd ((mI_le (by omega) (by omega)).mp h17) (by omega)
      · refine GW.aload4 dX8_withPart_20 (g := ?_)
        refine GW.iload5 dX8_withPart_22 ?_
        refine GW.iload5 dX8_withPart_24 ?_
        refine GW.iload1 dX8_withPart_26 ?_
        refine GW.icmp_ne (tgt := 34) dX8_withPart_27 (by decide) (fun h27 => ?_) (fun h27 => ?_)
        · have hne : i ≠ j := fun e => h27 (by rw [e])
          refine GW.aload0 dX8_withPart_34 (g := ?_)
          refine GW.iload5 dX8_withPart_35 ?_
          refine GW.callV cv_X8_46 mt_X8_partAt (c_partAt (G := (im, ad1, mc')) hv hst (nI i)) dX8_withPart_37 (by assumption) rfl rfl rfl rfl (by first | (dsimp only [mX8_withPart, gM.dp, gM.kc, gM.ks]; omega) | exact Nat.le_of_ble_eq_true rfl | exact Nat.le_refl _ | omega) (by decide) (by first | omega | (dsimp only [mX8_withPart, gM.dp, gM.kc, gM.ks]; omega)) (by first | omega | (dsimp only [mX8_withPart, gM.dp, gM.kc, gM.ks]; omega)) (by first | exact Nat.le_of_ble_eq_true rfl | (simp [va_rf_cat]; done) | (simp [va_rf_cat, Value.category]; done)) rfl (fun _ _ h => h.elim) (fun v37 G37 hq => ?_)
          obtain ⟨rv, rfl, rfl, hq⟩ := hq
          rw [partT_mI (by omega), kid_some hx] at hq
          refine put rv x.2 hq fun z hz => ?_
          rw [setK_get, if_neg hne, hx] at hz
          cases hz
          rfl
        · have he : i = j := (mI_eq (by omega) (by omega)).mp h27
          refine GW.aload2 dX8_withPart_30 (g := ?_)
          refine GW.goto (tgt := 40) dX8_withPart_31 (by decide) ?_
          refine put (some b) u hu fun z hz => ?_
          rw [setK_get, if_pos he, hx] at hz
          cases hz
          rfl
  exact key (wd t) 0 _ _ (by omega) (by rw [hM]; rfl) (fun q hq => by rw [hM]; show (if q = 900 then _ else mc q) = _; rw [if_neg hq]) (fun i' x hi' => absurd hi' (Nat.not_lt_zero _))
