/-! EDITOR: rebuild -/
theorem pcost_app : ∀ (p q : List Int32) (t u : Tr), belT t p = some u → pcost t (p ++ q) = pcost t p + pcost u q
  | [], q, t, u, h => by cases h; simp [pcost]
  | s :: p, q, t, u, h => by
    obtain ⟨j, c, h1, h2, h3⟩ := belT_cons h
    rw [List.cons_append, pcost, pcost, stp_eq h1 h2]
    have := pcost_app p q c u h3
    simp only
    omega
theorem chain.mono {im im2 : gIm} (hle : gLe im im2) {pr : Nat → Option Nat} {pl : Nat → Int32} : ∀ (ss : List Int32) (k : Nat) (t : Tr), chain im pr pl k t ss → chain im2 pr pl k t ss
  | [], _, _, _ => trivial
  | _ :: r, k, t, ⟨a, j, c, h1, h2, h3, h4, h5, h6⟩ => ⟨a, j, c, h1, h2.mono hle, h3, h4, h5, chain.mono hle r (k + 1) c h6⟩
abbrev mX2_rebuild (d kc ks : Nat) : gM := (RX2, cX2_rebuild, 5, none, [], "rebuild", d, kc, ks)
abbrev kX2_rebuild (d kc ks : Nat) (as : List Value) (G : gG) (Q : Option Value → gG → Prop) (X : String → gG → Prop) : Prop := Ctr yX2_rebuild cX2_rebuild 5 none d kc ks as G Q X
theorem oX2_rebuild {d kc ks : Nat} {as : List Value} {G : gG} {Q : Option Value → gG → Prop} {X : String → gG → Prop} {L : List (Option Value)} (hL : gEnt as = L) (hlen : (lg_sl as).length ≤ 5) (g : GW (mX2_rebuild d kc ks) Q X G 0 0 0 L []) : kX2_rebuild d kc ks as G Q X := Ctr.of (by decide +kernel) rfl rfl hL hlen g
theorem c_rebuild {G : gG} {b n K : Nat} {t e u : Tr} {ss : List Int32} {w0 tk : Option Nat} {pr : Nat → Option Nat} {pl : Nat → Int32} (h9 : frG G) (he : edAt G.2.1 G.2.2 w0 tk (nI n) pr pl) (hb : isV G.1 b e) (hch : chain G.1 pr pl 0 t ss) (hbel : belT t ss = some u) (hn : ss.length = n) (hn6 : n ≤ 6) (hsz : szT t + szT e < 2 ^ 20) (hK : pcost t ss ≤ K) :
    kX2_rebuild 3 (2 * n) K [.ref (G.2.1 4), .ref b] G (fun v G' => ∃ c im' mc', v = none ∧ gLe G.1 im' ∧ (im', G.2.1, mc') = G' ∧ (∀ q, q ≠ 4 → mc' q = G.2.2 q) ∧ edAt G.2.1 mc' (some c) tk (nI n) pr pl ∧ isV im' c (plug t ss e)) noX := by
  obtain ⟨im, ad, mc⟩ := G
  obtain ⟨h4, h5, h6⟩ := he
  have h4 : mc 4 = some (.inl (2, [va_rf w0, va_rf tk, .int (nI n), .ref (ad 5), .ref (ad 6)])) := h4
  have h5 : mc 5 = some (.inr (1, 6, .inr pr)) := h5
  have h6 : mc 6 = some (.inr (0, 6, .inl pl)) := h6
  have hb : isV im b e := hb
  have hch : chain im pr pl 0 t ss := hch
  have l4 : ∀ im, gL (im, ad, mc) (ad 4) (.inl (2, [va_rf w0, va_rf tk, .int (nI n), .ref (ad 5), .ref (ad 6)])) := fun _ => Or.inr ⟨4, rfl, h4⟩
  have l5 : ∀ im, gL (im, ad, mc) (ad 5) (.inr (1, 6, .inr pr)) := fun _ => Or.inr ⟨5, rfl, h5⟩
  have l6 : ∀ im, gL (im, ad, mc) (ad 6) (.inr (0, 6, .inl pl)) := fun _ => Or.inr ⟨6, rfl, h6⟩
  have l40 := l4 im
  refine oX2_rebuild (L := [some (.ref (ad 4)), some (.ref b), none, none, none, none, none, none, none, none, none, none]) rfl (Nat.le_of_ble_eq_true rfl) ?_
  generalize hQ : (fun (v : Option Value) (G' : gG) => ∃ c im' mc', v = none ∧ gLe (im, ad, mc).1 im' ∧ (im', (im, ad, mc).2.1, mc') = G' ∧ (∀ q, q ≠ 4 → mc' q = (im, ad, mc).2.2 q) ∧ edAt (im, ad, mc).2.1 mc' (some c) tk (nI n) pr pl ∧ isV im' c (plug t ss e)) = Q
  refine GW.aload1 dX2_rebuild_0 (g := ?_)
  refine GW.astore2 dX2_rebuild_1 (g := ?_)
  refine GW.aload0 dX2_rebuild_2 (g := ?_)
  refine GW.getf fl_X2_94 dX2_rebuild_3 (by assumption) (by rfl) ?_
  refine GW.iconst (v := 1) dX2_rebuild_6 (by decide) ?_
  refine GW.isub dX2_rebuild_7 ?_
  refine GW.istore3 dX2_rebuild_8 (g := ?_)
  have key : ∀ (i : Nat) (im1 : gIm) (b1 ns : Nat) (ti : Tr) (l4' : Option Value), (∀ z, l4' = some z → z.category ≠ 2) → i ≤ n → gLe im im1 → belT t (ss.take i) = some ti → isV im1 b1 (plug ti (ss.drop i) e) → ns + pcost t (ss.take i) ≤ K →
      GW (mX2_rebuild 3 (2 * n) K) Q noX (im1, ad, mc) (2 * (n - i)) ns 9 [some (.ref (ad 4)), some (.ref b), some (.ref b1), some (.int (nI i - 1)), l4', none, none, none, none, none, none, none] [] := by
    intro i
    induction i with
    | zero =>
      intro im1 b1 ns ti l4' hc4 hi hle hbi hv hns
      have l41 := l4 im1
      refine GW.iload3 dX2_rebuild_9 ?_
      refine GW.if_lt (tgt := 45) dX2_rebuild_10 (by decide) (fun h10 => ?_) (fun h10 => ?_)
      · refine GW.aload0 dX2_rebuild_45 (g := ?_)
        refine GW.aload2 dX2_rebuild_46 (g := ?_)
        refine GW.putf (r := 4) fl_X2_21 dX2_rebuild_47 (by first | rfl | assumption) (Nat.le_of_ble_eq_true rfl) (by first | exact ⟨rfl, rfl⟩ | exact fitq _ _ rfl) (by first | exact Or.inl rfl | exact Or.inr ⟨rfl, rfl⟩) (by first | rfl | assumption) ?_
        refine GW.vreturn dX2_rebuild_50 rfl (by dsimp only [mX2_rebuild, gM.kc]; omega) (by dsimp only [mX2_rebuild, gM.ks]; simp [pcost] at hns; omega) ?_
        subst hQ
        cases hbi
        refine ⟨b1, im1, _, rfl, hle, rfl, fun q hq => ?_, ⟨rfl, h5, h6⟩, hv⟩
        show (if q = 4 then _ else mc q) = mc q
        rw [if_neg hq]
      · exact absurd (by decide) h10
    | succ i ih =>
      intro im1 b1 ns ti l4' hc4 hi hle hbi hv hns
      have l41 := l4 im1
      have l51 := l5 im1
      have l61 := l6 im1
      obtain ⟨s, hs⟩ : ∃ s, ss[i]? = some s := ⟨_, List.getElem?_eq_getElem (by omega)⟩
      obtain ⟨tp, a, j, c, g1, g2, g3, g4, g5, g6⟩ := chain_at ss 0 i t s hch hs
      rw [Nat.zero_add] at g2 g6
      have htk : ss.take (i + 1) = ss.take i ++ [s] := by rw [List.take_succ, hs]; rfl
      have htc : ti = c := by
        rw [htk, belT_app, g1] at hbi
        have hbi : belT tp [s] = some ti := hbi
        rw [belT_of g4 g5] at hbi
        exact (Option.some.inj hbi).symm
      subst htc
      have hdr : ss.drop i = s :: ss.drop (i + 1) := by
        rw [List.drop_eq_getElem_cons (by omega)]
        congr 1
        exact (List.getElem?_eq_some_iff.mp hs).2
      have hpl : plug tp (ss.drop i) e = setP tp j (plug ti (ss.drop (i + 1)) e) := by rw [hdr, plug_cons g4 g5]
      have hbu : belT ti (ss.drop (i + 1)) = some u := by
        have : belT t (ss.take (i + 1) ++ ss.drop (i + 1)) = some u := by rw [List.take_append_drop]; exact hbel
        rw [belT_app, hbi] at this
        exact this
      have z1 := szT_plug _ ti u e hbu
      have z2 := szT_setP (u := plug ti (ss.drop (i + 1)) e) g5
      have z3 := belT_sz _ t tp g1
      have zp := szT_pos u
      have zq := szT_pos ti
      have hcost : pcost t (ss.take (i + 1)) = pcost t (ss.take i) + (wd tp + 6) := by
        rw [htk, pcost_app _ _ t tp g1]
        simp only [pcost, stp_eq g4 g5]
        try omega
      have g3' := g3.mono hle
      obtain ⟨kr, pq, hnd, -, -⟩ := g3'.node
      have hnd : gL (im1, ad, mc) a (.inl (8, _)) := Or.inl hnd
      have hix : gIx (nI i) i 6 := mI_ix (by omega) (by omega)
      rw [show nI (i + 1) - 1 = nI i from mI_pred (by omega)]
      refine GW.iload3 dX2_rebuild_9 ?_
      refine GW.if_lt (tgt := 45) dX2_rebuild_10 (by decide) (fun h10 => ?_) (fun h10 => ?_)
      · exact absurd h10 (mI_nonneg (by omega))
      · refine GW.aload0 dX2_rebuild_13 (g := ?_)
        refine GW.getf fl_X2_11 dX2_rebuild_14 (by assumption) (by rfl) ?_
        refine GW.iload3 dX2_rebuild_17 ?_
        refine GW.aald dX2_rebuild_18 (by assumption) (by assumption) (by decide) ?_
        refine GW.astore4 dX2_rebuild_19 (g := ?_)
        rw [g2]
        refine GW.aload4 dX2_rebuild_21 (g := ?_)
        refine GW.ifnull (tgt := 39) dX2_rebuild_23 (by decide) (fun h23 => ?_) (fun r23 h23 => ?_)
        · cases h23
        · cases h23
          refine GW.aload4 dX2_rebuild_26 (g := ?_)
          refine GW.aload0 dX2_rebuild_28 (g := ?_)
          refine GW.getf fl_X2_17 dX2_rebuild_29 (by assumption) (by rfl) ?_
          refine GW.iload3 dX2_rebuild_32 ?_
          refine GW.iald dX2_rebuild_33 (by assumption) (by assumption) ?_
          refine GW.aload2 dX2_rebuild_34 (g := ?_)
          rw [g6]
          refine GW.callV cv_X2_97 mt_X8_withPart (c_withPart (G := (im1, ad, mc)) h9 g3' hv (kid_lt g5) (by unfold sml; omega) (by unfold sml; omega)) dX2_rebuild_35 (by assumption) rfl rfl rfl rfl (by first | (dsimp only [mX2_rebuild, gM.dp, gM.kc, gM.ks]; omega) | exact Nat.le_of_ble_eq_true rfl | exact Nat.le_refl _ | omega) (by decide) (by first | omega | (dsimp only [mX2_rebuild, gM.dp, gM.kc, gM.ks]; omega)) (by first | omega | (dsimp only [mX2_rebuild, gM.dp, gM.kc, gM.ks]; omega)) (by first | exact Nat.le_of_ble_eq_true rfl | (simp [va_rf_cat]; done) | (simp [va_rf_cat, Value.category]; done)) rfl (fun _ _ h => h.elim) (fun v35 G35 hq => ?_)
          obtain ⟨c2, im2, rfl, hle2, rfl, hv2⟩ := hq
          refine GW.astore2 dX2_rebuild_38 (g := ?_)
          refine GW.inc3m dX2_rebuild_39 (g := ?_)
          refine GW.goto (tgt := 9) dX2_rebuild_42 (by decide) ?_
          refine GW.widen (k' := 2 * (n - i)) (n' := ns + (wd tp + 6)) (by omega) (by omega) ?_
          exact ih im2 c2 (ns + (wd tp + 6)) tp _ (fun z hz => by cases hz; rw [va_rf_cat]; decide) (by omega) (hle.tr hle2) g1 (by rw [hpl]; exact hv2) (by omega)
  refine GW.widen (k' := 2 * (n - n)) (n' := 0) (by omega) (by omega) ?_
  exact key n im b 0 u none (fun z hz => by cases hz) (Nat.le_refl _) (gLe.rf _) (by rw [← hn, List.take_length]; exact hbel) (by rw [← hn, List.drop_length]; exact hb) (by rw [← hn, List.take_length]; omega)
