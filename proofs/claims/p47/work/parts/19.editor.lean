/-! EDITOR: roles 4 (itself), 5 (passed), 6 (places); the path of the POINTER is role 3 -/
def edAt (ad : Nat → Nat) (mc : Nat → Option gC) (w tk : Option Nat) (len : Int32) (pr : Nat → Option Nat) (pl : Nat → Int32) : Prop :=
  mc 4 = some (.inl (2, [va_rf w, va_rf tk, .int len, .ref (ad 5), .ref (ad 6)])) ∧ mc 5 = some (.inr (1, 6, .inr pr)) ∧ mc 6 = some (.inr (0, 6, .inl pl))
def pathAt (im : gIm) (ad : Nat → Nat) (mc : Nat → Option gC) (pa N : Nat) (f : Nat → Int32) : Prop := im pa = some (.inr (0, N, .inl f)) ∨ (ad 3 = pa ∧ mc 3 = some (.inr (0, N, .inl f)))
theorem pathAt.l {im ad mc pa N f} (h : pathAt im ad mc pa N f) : gL (im, ad, mc) pa (.inr (0, N, .inl f)) := by
  rcases h with h | ⟨h1, h2⟩
  · exact Or.inl h
  · exact Or.inr ⟨3, h1, h2⟩
theorem pathAt.mono {im im' : gIm} {ad mc mc' pa N f} (h : pathAt im ad mc pa N f) (hle : gLe im im') (h3 : mc' 3 = mc 3) : pathAt im' ad mc' pa N f := by
  rcases h with h | ⟨h1, h2⟩
  · exact Or.inl (hle _ _ h)
  · exact Or.inr ⟨h1, by rw [h3]; exact h2⟩
/-- the way that follow has noted -/
def chain (im : gIm) (pr : Nat → Option Nat) (pl : Nat → Int32) : Nat → Tr → List Int32 → Prop
  | _, _, [] => True
  | i, t, s :: r => ∃ a j c, pr i = some a ∧ isV im a t ∧ placeT t s = some j ∧ kid t j = some c ∧ pl i = nI j ∧ chain im pr pl (i + 1) c r
theorem belT_app : ∀ (p q : List Int32) (t : Tr), belT t (p ++ q) = (belT t p).bind (fun u => belT u q)
  | [], q, t => rfl
  | s :: p, q, t => by
    rw [List.cons_append, belT, belT]
    cases stp t s with
    | none => rfl
    | some c => exact belT_app p q c
theorem chain_at {im : gIm} {pr : Nat → Option Nat} {pl : Nat → Int32} : ∀ (ss : List Int32) (k i : Nat) (t : Tr) (s : Int32), chain im pr pl k t ss → ss[i]? = some s → ∃ ti a j c, belT t (ss.take i) = some ti ∧ pr (k + i) = some a ∧ isV im a ti ∧ placeT ti s = some j ∧ kid ti j = some c ∧ pl (k + i) = nI j
  | [], k, i, t, s, h, hs => by simp at hs
  | x :: r, k, 0, t, s, h, hs => by
    simp at hs; subst hs
    obtain ⟨a, j, c, h1, h2, h3, h4, h5, -⟩ := h
    exact ⟨t, a, j, c, rfl, h1, h2, h3, h4, h5⟩
  | x :: r, k, i + 1, t, s, h, hs => by
    obtain ⟨a, j, c, h1, h2, h3, h4, h5, h6⟩ := h
    obtain ⟨ti, a', j', c', g1, g2, g3, g4, g5, g6⟩ := chain_at r (k + 1) i c s h6 (by simpa using hs)
    refine ⟨ti, a', j', c', ?_, by rw [← g2]; congr 1; omega, g3, g4, g5, by rw [← g6]; congr 1; omega⟩
    rw [List.take_succ_cons, belT_of h3 h4]
    exact g1
abbrev mX2_begin (d kc ks : Nat) : gM := (RX2, cX2_begin, 2, none, [], "begin", d, kc, ks)
abbrev kX2_begin (d kc ks : Nat) (as : List Value) (G : gG) (Q : Option Value → gG → Prop) (X : String → gG → Prop) : Prop := Ctr yX2_begin cX2_begin 2 none d kc ks as G Q X
theorem oX2_begin {d kc ks : Nat} {as : List Value} {G : gG} {Q : Option Value → gG → Prop} {X : String → gG → Prop} {L : List (Option Value)} (hL : gEnt as = L) (hlen : (lg_sl as).length ≤ 2) (g : GW (mX2_begin d kc ks) Q X G 0 0 0 L []) : kX2_begin d kc ks as G Q X := Ctr.of (by decide +kernel) rfl rfl hL hlen g
theorem c_edBegin {G : gG} {b : Nat} {w tk : Option Nat} {len : Int32} {pr : Nat → Option Nat} {pl : Nat → Int32} (he : edAt G.2.1 G.2.2 w tk len pr pl) :
    kX2_begin 0 0 0 [.ref (G.2.1 4), .ref b] G (fun v G' => v = none ∧ gS G 4 (.inl (2, [.ref b, .null, .int len, .ref (G.2.1 5), .ref (G.2.1 6)])) = G') noX := by
  obtain ⟨h4, h5, h6⟩ := he
  refine oX2_begin (L := [some (.ref (G.2.1 4)), some (.ref b), none, none, none, none, none, none, none, none, none, none]) rfl (Nat.le_of_ble_eq_true rfl) ?_
  refine GW.aload0 dX2_begin_0 (g := ?_)
  refine GW.aload1 dX2_begin_1 (g := ?_)
  refine GW.putf (r := 4) fl_X2_21 dX2_begin_2 (by first | rfl | assumption) (Nat.le_of_ble_eq_true rfl) (by first | exact ⟨rfl, rfl⟩ | exact fitq _ _ rfl) (by first | exact Or.inl rfl | exact Or.inr ⟨rfl, rfl⟩) (by first | rfl | assumption) ?_
  refine GW.aload0 dX2_begin_5 (g := ?_)
  refine GW.null dX2_begin_6 ?_
  refine GW.putf (r := 4) fl_X2_25 dX2_begin_7 (by first | rfl | assumption) (Nat.le_of_ble_eq_true rfl) (by first | exact ⟨rfl, rfl⟩ | exact fitq _ _ rfl) (by first | exact Or.inl rfl | exact Or.inr ⟨rfl, rfl⟩) (by first | rfl | assumption) ?_
  rw [gS_gS]
  refine GW.vreturn dX2_begin_10 rfl (by first | (dsimp only [mX2_begin, gM.dp, gM.kc, gM.ks]; omega) | exact Nat.le_of_ble_eq_true rfl | exact Nat.le_refl _ | omega) (by first | (dsimp only [mX2_begin, gM.dp, gM.kc, gM.ks]; omega) | exact Nat.le_of_ble_eq_true rfl | exact Nat.le_refl _ | omega) ?_
  exact ⟨rfl, rfl⟩
abbrev mX2_isAllowed (d kc ks : Nat) : gM := (RX2, cX2_isAllowed, 1, (some .boolean), [], "isAllowed", d, kc, ks)
abbrev kX2_isAllowed (d kc ks : Nat) (as : List Value) (G : gG) (Q : Option Value → gG → Prop) (X : String → gG → Prop) : Prop := Ctr yX2_isAllowed cX2_isAllowed 1 (some .boolean) d kc ks as G Q X
theorem oX2_isAllowed {d kc ks : Nat} {as : List Value} {G : gG} {Q : Option Value → gG → Prop} {X : String → gG → Prop} {L : List (Option Value)} (hL : gEnt as = L) (hlen : (lg_sl as).length ≤ 1) (g : GW (mX2_isAllowed d kc ks) Q X G 0 0 0 L []) : kX2_isAllowed d kc ks as G Q X := Ctr.of (by decide +kernel) rfl rfl hL hlen g
theorem c_isAllowed {G : gG} {w : Nat} {t : Tr} {tk : Option Nat} {len : Int32} {pr : Nat → Option Nat} {pl : Nat → Int32} (he : edAt G.2.1 G.2.2 (some w) tk len pr pl) (hv : isV G.1 w t) (hs : sml t) :
    kX2_isAllowed 0 0 0 [.ref (G.2.1 4)] G (ans G (fun x => x = .int (bI (szT t ≤ 50 ∧ dpT t ≤ 7)))) noX := by
  obtain ⟨h4, h5, h6⟩ := he
  obtain ⟨kr, pr', hn, -, -⟩ := hv.node
  have hn : gL G w (.inl (8, _)) := Or.inl hn
  have h4l : gL G (G.2.1 4) (.inl (2, _)) := Or.inr ⟨4, rfl, h4⟩
  have hd := dpT_le t
  unfold sml at hs
  refine oX2_isAllowed (L := [some (.ref (G.2.1 4)), none, none, none, none, none, none, none, none, none, none, none]) rfl (Nat.le_of_ble_eq_true rfl) ?_
  generalize hQ : ans G _ = Q
  have no : ¬ (szT t ≤ 50 ∧ dpT t ≤ 7) → GW (mX2_isAllowed 0 0 0) Q noX G 0 0 28 [some (.ref (G.2.1 4)), none, none, none, none, none, none, none, none, none, none, none] [] := by
    intro h
    refine GW.iconst (v := 0) dX2_isAllowed_28 (by decide) ?_
    refine GW.ireturn dX2_isAllowed_29 (Or.inr ⟨rfl, by first | exact Or.inl rfl | exact Or.inr rfl | assumption⟩) (by first | (dsimp only [mX2_isAllowed, gM.dp, gM.kc, gM.ks]; omega) | exact Nat.le_of_ble_eq_true rfl | exact Nat.le_refl _ | omega) (by first | (dsimp only [mX2_isAllowed, gM.dp, gM.kc, gM.ks]; omega) | exact Nat.le_of_ble_eq_true rfl | exact Nat.le_refl _ | omega) ?_
    subst hQ
    exact ⟨_, rfl, rfl, by rw [bI_f h]⟩
  refine GW.aload0 dX2_isAllowed_0 (g := ?_)
  refine GW.getf fl_X2_21 dX2_isAllowed_1 (by assumption) (by rfl) ?_
  refine GW.getf fl_X2_28 dX2_isAllowed_4 (by assumption) (by rfl) ?_
  refine GW.bipush (v := 50) dX2_isAllowed_7 (by decide) ?_
  refine GW.icmp_gt (tgt := 28) dX2_isAllowed_9 (by decide) (fun h9 => ?_) (fun h9 => ?_)
  · exact no fun h => absurd ((mI_lt (a := 50) (by omega) (by omega)).mp h9) (by omega)
  · refine GW.aload0 dX2_isAllowed_12 (g := ?_)
    refine GW.getf fl_X2_21 dX2_isAllowed_13 (by assumption) (by rfl) ?_
    refine GW.getf fl_X2_32 dX2_isAllowed_16 (by assumption) (by rfl) ?_
    refine GW.bipush (v := 7) dX2_isAllowed_19 (by decide) ?_
    refine GW.icmp_gt (tgt := 28) dX2_isAllowed_21 (by decide) (fun h21 => ?_) (fun h21 => ?_)
    · exact no fun h => absurd ((mI_lt (a := 7) (by omega) (by omega)).mp h21) (by omega)
    · refine GW.iconst (v := 1) dX2_isAllowed_24 (by decide) ?_
      refine GW.goto (tgt := 29) dX2_isAllowed_25 (by decide) ?_
      refine GW.ireturn dX2_isAllowed_29 (Or.inr ⟨rfl, by first | exact Or.inl rfl | exact Or.inr rfl | assumption⟩) (by first | (dsimp only [mX2_isAllowed, gM.dp, gM.kc, gM.ks]; omega) | exact Nat.le_of_ble_eq_true rfl | exact Nat.le_refl _ | omega) (by first | (dsimp only [mX2_isAllowed, gM.dp, gM.kc, gM.ks]; omega) | exact Nat.le_of_ble_eq_true rfl | exact Nat.le_refl _ | omega) ?_
      subst hQ
      refine ⟨_, rfl, rfl, ?_⟩
      rw [bI_t]
      refine ⟨?_, ?_⟩
      · rcases Nat.lt_or_ge 50 (szT t) with q | q
        · exact absurd ((mI_lt (a := 50) (by omega) (by omega)).mpr q) h9
        · exact q
      · rcases Nat.lt_or_ge 7 (dpT t) with q | q
        · exact absurd ((mI_lt (a := 7) (by omega) (by omega)).mpr q) h21
        · exact q
abbrev mX2_follow (d kc ks : Nat) : gM := (RX2, cX2_follow, 5, (some (.object "MarlStore$Value")), [], "follow", d, kc, ks)
abbrev kX2_follow (d kc ks : Nat) (as : List Value) (G : gG) (Q : Option Value → gG → Prop) (X : String → gG → Prop) : Prop := Ctr yX2_follow cX2_follow 5 (some (.object "MarlStore$Value")) d kc ks as G Q X
theorem oX2_follow {d kc ks : Nat} {as : List Value} {G : gG} {Q : Option Value → gG → Prop} {X : String → gG → Prop} {L : List (Option Value)} (hL : gEnt as = L) (hlen : (lg_sl as).length ≤ 5) (g : GW (mX2_follow d kc ks) Q X G 0 0 0 L []) : kX2_follow d kc ks as G Q X := Ctr.of (by decide +kernel) rfl rfl hL hlen g
theorem c_follow {G : gG} {w pa N n : Nat} {f : Nat → Int32} {t : Tr} {tk : Option Nat} {len : Int32} {pr : Nat → Option Nat} {pl : Nat → Int32} (he : edAt G.2.1 G.2.2 (some w) tk len pr pl) (hv : isV G.1 w t) (hs : sml t) (hpa : pathAt G.1 G.2.1 G.2.2 pa N f) (hn : n ≤ N) (hN : N < 2 ^ 20) (hn6 : n ≤ 6) :
    kX2_follow 1 0 0 [.ref (G.2.1 4), .ref pa, .int (nI n)] G (fun v G' => ∃ r mc' pr' pl', v = some (va_rf r) ∧ (G.1, G.2.1, mc') = G' ∧ (∀ q, q ≠ 4 → q ≠ 5 → q ≠ 6 → mc' q = G.2.2 q) ∧ edAt G.2.1 mc' (some w) tk (nI n) pr' pl' ∧ isO G.1 r (belT t (stps f 0 n)) ∧
      (∀ u, belT t (stps f 0 n) = some u → chain G.1 pr' pl' 0 t (stps f 0 n))) noX := by
  obtain ⟨im, ad, mc⟩ := G
  obtain ⟨h4, h5, h6⟩ := he
  have h4 : mc 4 = some (.inl (2, [va_rf (some w), va_rf tk, .int len, .ref (ad 5), .ref (ad 6)])) := h4
  have h5 : mc 5 = some (.inr (1, 6, .inr pr)) := h5
  have h6 : mc 6 = some (.inr (0, 6, .inl pl)) := h6
  have hv : isV im w t := hv
  have hpl0 := hpa.l
  refine oX2_follow (L := [some (.ref (ad 4)), some (.ref pa), some (.int (nI n)), none, none, none, none, none, none, none, none, none]) rfl (Nat.le_of_ble_eq_true rfl) ?_
  generalize hQ : (fun (v : Option Value) (G' : gG) => ∃ r mc' pr' pl', v = some (va_rf r) ∧ ((im, ad, mc).1, (im, ad, mc).2.1, mc') = G' ∧ (∀ q, q ≠ 4 → q ≠ 5 → q ≠ 6 → mc' q = (im, ad, mc).2.2 q) ∧ edAt (im, ad, mc).2.1 mc' (some w) tk (nI n) pr' pl' ∧ isO (im, ad, mc).1 r (belT t (stps f 0 n)) ∧
      (∀ u, belT t (stps f 0 n) = some u → chain (im, ad, mc).1 pr' pl' 0 t (stps f 0 n))) = Q
  refine GW.iload2 dX2_follow_0 ?_
  refine GW.if_lt (tgt := 16) dX2_follow_1 (by decide) (fun h1 => ?_) (fun h1 => ?_)
  · exact absurd h1 (mI_nonneg (by omega))
  · refine GW.iload2 dX2_follow_4 ?_
    refine GW.aload1 dX2_follow_5 (g := ?_)
    refine GW.alen dX2_follow_6 (by assumption) (by decide) rfl ?_
    refine GW.icmp_gt (tgt := 16) dX2_follow_7 (by decide) (fun h7 => ?_) (fun h7 => ?_)
    · exact absurd ((mI_lt (by omega) (by omega)).mp h7) (by omega)
    · refine GW.iload2 dX2_follow_10 ?_
      refine GW.bipush (v := 6) dX2_follow_11 (by decide) ?_
      refine GW.icmp_le (tgt := 18) dX2_follow_13 (by decide) (fun h13 => ?_) (fun h13 => ?_)
      · refine GW.aload0 dX2_follow_18 (g := ?_)
        refine GW.iload2 dX2_follow_19 ?_
        refine GW.putf (r := 4) fl_X2_94 dX2_follow_20 (by first | rfl | assumption) (Nat.le_of_ble_eq_true rfl) (by first | exact ⟨rfl, rfl⟩ | exact fitq _ _ rfl) (by first | exact Or.inl rfl | exact Or.inr ⟨rfl, rfl⟩) (by first | rfl | assumption) ?_
        have e4 : (gS (im, ad, mc) 4 (.inl (2, [va_rf (some w), va_rf tk, .int (nI n), .ref (ad 5), .ref (ad 6)]))) = (im, ad, (gS (im, ad, mc) 4 (.inl (2, [va_rf (some w), va_rf tk, .int (nI n), .ref (ad 5), .ref (ad 6)]))).2.2) := rfl
        obtain ⟨mc1, hm1⟩ : ∃ mc1, mc1 = (gS (im, ad, mc) 4 (.inl (2, [va_rf (some w), va_rf tk, .int (nI n), .ref (ad 5), .ref (ad 6)]))).2.2 := ⟨_, rfl⟩
        show GW _ _ _ (gS (im, ad, mc) 4 (.inl (2, [va_rf (some w), va_rf tk, .int (nI n), .ref (ad 5), .ref (ad 6)]))) _ _ _ _ _
        rw [e4, ← hm1]
        have g4 : mc1 4 = some (.inl (2, [va_rf (some w), va_rf tk, .int (nI n), .ref (ad 5), .ref (ad 6)])) := by rw [hm1]; rfl
        have go : ∀ q, q ≠ 4 → mc1 q = mc q := fun q hq => by rw [hm1]; show (if q = 4 then _ else _) = _; rw [if_neg hq]
        have g4l : gL (im, ad, mc1) (ad 4) (.inl (2, [va_rf (some w), va_rf tk, .int (nI n), .ref (ad 5), .ref (ad 6)])) := Or.inr ⟨4, rfl, g4⟩
        refine GW.aload0 dX2_follow_23 (g := ?_)
        refine GW.getf fl_X2_21 dX2_follow_24 (by assumption) (by rfl) ?_
        refine GW.astore3 dX2_follow_27 (g := ?_)
        refine GW.iconst (v := 0) dX2_follow_28 (by decide) ?_
        refine GW.istore4 dX2_follow_29 (g := ?_)
        have fin : ∀ (r : Option Nat) (i : Nat) (mc' : Nat → Option gC) (pr' : Nat → Option Nat) (pl' : Nat → Int32), (∀ q, q ≠ 4 → q ≠ 5 → q ≠ 6 → mc' q = mc q) → edAt ad mc' (some w) tk (nI n) pr' pl' → isO im r (belT t (stps f 0 n)) → (∀ u, belT t (stps f 0 n) = some u → chain im pr' pl' 0 t (stps f 0 n)) →
            GW (mX2_follow 1 0 0) Q noX (im, ad, mc') 0 0 82 [some (.ref (ad 4)), some (.ref pa), some (.int (nI n)), some (va_rf r), some (.int (nI i)), none, none, none, none, none, none, none] [] := by
          intro r i mc' pr' pl' a1 a2 a3 a4
          refine GW.aload3 dX2_follow_82 (g := ?_)
          refine GW.areturn dX2_follow_83 (Or.inl ⟨_, rfl⟩) (by first | (dsimp only [mX2_follow, gM.dp, gM.kc, gM.ks]; omega) | exact Nat.le_of_ble_eq_true rfl | exact Nat.le_refl _ | omega) (by first | (dsimp only [mX2_follow, gM.dp, gM.kc, gM.ks]; omega) | exact Nat.le_of_ble_eq_true rfl | exact Nat.le_refl _ | omega) ?_
          subst hQ
          exact ⟨r, mc', pr', pl', rfl, rfl, a1, a2, a3, a4⟩
        have key : ∀ (m i : Nat) (r : Option Nat) (o : Option Tr) (mc' : Nat → Option gC) (pr' : Nat → Option Nat) (pl' : Nat → Int32), i + m = n → (∀ q, q ≠ 4 → q ≠ 5 → q ≠ 6 → mc' q = mc q) → edAt ad mc' (some w) tk (nI n) pr' pl' → isO im r o → (∀ u, o = some u → sml u) → belT t (stps f 0 n) = o.bind (fun u => belT u (stps f i m)) →
            (∀ u pr2 pl2, o = some u → (∀ q, q < i → pr2 q = pr' q ∧ pl2 q = pl' q) → chain im pr2 pl2 i u (stps f i m) → chain im pr2 pl2 0 t (stps f 0 n)) →
            GW (mX2_follow 1 0 0) Q noX (im, ad, mc') 0 0 31 [some (.ref (ad 4)), some (.ref pa), some (.int (nI n)), some (va_rf r), some (.int (nI i)), none, none, none, none, none, none, none] [] := by
          intro m
          induction m with
          | zero =>
            intro i r o mc' pr' pl' hi a1 a2 a3 a4 a5 a6
            have he : belT t (stps f 0 n) = o := by rw [a5]; cases o <;> rfl
            refine GW.iload4 dX2_follow_31 ?_
            refine GW.iload2 dX2_follow_33 ?_
            refine GW.icmp_ge (tgt := 82) dX2_follow_34 (by decide) (fun h34 => ?_) (fun h34 => ?_)
            · exact fin r i mc' pr' pl' a1 a2 (by rw [he]; exact a3) fun u hu => a6 u pr' pl' (he.symm.trans hu) (fun q _ => ⟨rfl, rfl⟩) trivial
            · exact absurd ((mI_le (by omega) (by omega)).mpr (by omega)) h34
          | succ m ih =>
            intro i r o mc' pr' pl' hi a1 a2 a3 a4 a5 a6
            refine GW.iload4 dX2_follow_31 ?_
            refine GW.iload2 dX2_follow_33 ?_
            refine GW.icmp_ge (tgt := 82) dX2_follow_34 (by decide) (fun h34 => ?_) (fun h34 => ?_)
            · exact absurd ((mI_le (by omega) (by omega)).mp h34) (by omega)
            · refine GW.aload3 dX2_follow_37 (g := ?_)
              refine GW.ifnull (tgt := 82) dX2_follow_38 (by decide) (fun h38 => ?_) (fun r38 h38 => ?_)
              · subst h38
                cases o with
                | some u => exact a3.elim
                | none => exact fin none i mc' pr' pl' a1 a2 (by rw [a5]; trivial) (fun u hu => by rw [a5] at hu; cases hu)
              · subst h38
                cases o with
                | none => exact a3.elim
                | some u =>
                  have a3 : isV im r38 u := a3
                  obtain ⟨kr, pq, hnd, -, -⟩ := a3.node
                  obtain ⟨b4, b5, b6⟩ := a2
                  have l4 : gL (im, ad, mc') (ad 4) (.inl (2, [va_rf (some w), va_rf tk, .int (nI n), .ref (ad 5), .ref (ad 6)])) := Or.inr ⟨4, rfl, b4⟩
                  have hix : gIx (nI i) i 6 := mI_ix (by omega) (by omega)
                  have hixN : gIx (nI i) i N := mI_ix (by omega) (by omega)
                  refine GW.aload0 dX2_follow_41 (g := ?_)
                  refine GW.getf fl_X2_11 dX2_follow_42 (by assumption) (by rfl) ?_
                  refine GW.iload4 dX2_follow_45 ?_
                  refine GW.aload3 dX2_follow_47 (g := ?_)
                  refine GW.aast (r := 5) dX2_follow_48 (by first | assumption | rfl) (by assumption) (by decide) (by first | assumption | rfl) (fun z hz => by cases hz; exact ⟨_, Or.inl hnd⟩) ?_
                  have l4 : gL (gS (im, ad, mc') 5 (.inr (1, 6, .inr (va_up pr' i (some r38))))) (ad 4) (.inl (2, [va_rf (some w), va_rf tk, .int (nI n), .ref (ad 5), .ref (ad 6)])) := Or.inr ⟨4, rfl, b4⟩
                  have lp : gL (gS (im, ad, mc') 5 (.inr (1, 6, .inr (va_up pr' i (some r38))))) pa (.inr (0, N, .inl f)) := (hpa.mono (gLe.rf _) (mc' := (gS (im, ad, mc') 5 (.inr (1, 6, .inr (va_up pr' i (some r38))))).2.2) (a1 3 (by decide) (by decide) (by decide))).l
                  have hnd' : gL (gS (im, ad, mc') 5 (.inr (1, 6, .inr (va_up pr' i (some r38))))) r38 (.inl (8, _)) := Or.inl hnd
                  refine GW.aload0 dX2_follow_49 (g := ?_)
                  refine GW.getf fl_X2_17 dX2_follow_50 (by assumption) (by rfl) ?_
                  refine GW.iload4 dX2_follow_53 ?_
                  refine GW.aload3 dX2_follow_55 (g := ?_)
                  refine GW.aload1 dX2_follow_56 (g := ?_)
                  refine GW.iload4 dX2_follow_57 ?_
                  refine GW.iald dX2_follow_59 (by assumption) (by assumption) ?_
                  refine GW.callV0 cv_X2_80 mt_X8_placeOf (c_placeOf (G := gS (im, ad, mc') 5 (.inr (1, 6, .inr (va_up pr' i (some r38))))) a3 (a4 u rfl) (f i)) dX2_follow_60 (by assumption) rfl rfl rfl rfl (by first | (dsimp only [mX2_follow, gM.dp, gM.kc, gM.ks]; omega) | exact Nat.le_of_ble_eq_true rfl | exact Nat.le_refl _ | omega) (by decide) (by first | (dsimp only [mX2_follow, gM.dp, gM.kc, gM.ks]; omega) | exact Nat.le_of_ble_eq_true rfl | exact Nat.le_refl _ | omega) (by first | (dsimp only [mX2_follow, gM.dp, gM.kc, gM.ks]; omega) | exact Nat.le_of_ble_eq_true rfl | exact Nat.le_refl _ | omega) (by first | exact Nat.le_of_ble_eq_true rfl | (simp [va_rf_cat]; done) | (simp [va_rf_cat, Value.category]; done)) rfl (fun _ _ h => h.elim) (fun v60 G60 hq => ?_)
                  obtain ⟨z, rfl, rfl, rfl⟩ := hq
                  refine GW.iast (r := 6) dX2_follow_63 (by first | assumption | rfl) (by assumption) (by first | assumption | rfl) ?_
                  obtain ⟨mc2, hm2⟩ : ∃ mc2, mc2 = (gS (gS (im, ad, mc') 5 (.inr (1, 6, .inr (va_up pr' i (some r38))))) 6 (.inr (0, 6, .inl (upd pl' i (oI (placeT u (f i))))))).2.2 := ⟨_, rfl⟩
                  rw [show gS (gS (im, ad, mc') 5 (.inr (1, 6, .inr (va_up pr' i (some r38))))) 6 (.inr (0, 6, .inl (upd pl' i (oI (placeT u (f i)))))) = (im, ad, mc2) from by rw [hm2]; rfl]
                  have e4 : mc2 4 = mc' 4 := by rw [hm2]; rfl
                  have e5 : mc2 5 = some (.inr (1, 6, .inr (va_up pr' i (some r38)))) := by rw [hm2]; rfl
                  have e6 : mc2 6 = some (.inr (0, 6, .inl (upd pl' i (oI (placeT u (f i)))))) := by rw [hm2]; rfl
                  have eo : ∀ q, q ≠ 4 → q ≠ 5 → q ≠ 6 → mc2 q = mc q := fun q q4 q5 q6 => by
                    rw [hm2]; show (if q = 6 then _ else if q = 5 then _ else mc' q) = _
                    rw [if_neg q6, if_neg q5]; exact a1 q q4 q5 q6
                  have l4 : gL (im, ad, mc2) (ad 4) (.inl (2, [va_rf (some w), va_rf tk, .int (nI n), .ref (ad 5), .ref (ad 6)])) := Or.inr ⟨4, rfl, e4.trans b4⟩
                  have l6 : gL (im, ad, mc2) (ad 6) (.inr (0, 6, .inl (upd pl' i (oI (placeT u (f i)))))) := Or.inr ⟨6, rfl, e6⟩
                  have hnd2 : gL (im, ad, mc2) r38 (.inl (8, _)) := Or.inl hnd
                  refine GW.aload3 dX2_follow_64 (g := ?_)
                  refine GW.aload0 dX2_follow_65 (g := ?_)
                  refine GW.getf fl_X2_17 dX2_follow_66 (by assumption) (by rfl) ?_
                  refine GW.iload4 dX2_follow_69 ?_
                  refine GW.iald dX2_follow_71 (by assumption) (by assumption) ?_
                  rw [show upd pl' i (oI (placeT u (f i))) i = oI (placeT u (f i)) from by simp [upd]]
                  refine GW.callV0 cv_X2_83 mt_X8_partAt (c_partAt (G := (im, ad, mc2)) a3 (a4 u rfl) (oI (placeT u (f i)))) dX2_follow_72 (by assumption) rfl rfl rfl rfl (by first | (dsimp only [mX2_follow, gM.dp, gM.kc, gM.ks]; omega) | exact Nat.le_of_ble_eq_true rfl | exact Nat.le_refl _ | omega) (by decide) (by first | (dsimp only [mX2_follow, gM.dp, gM.kc, gM.ks]; omega) | exact Nat.le_of_ble_eq_true rfl | exact Nat.le_refl _ | omega) (by first | (dsimp only [mX2_follow, gM.dp, gM.kc, gM.ks]; omega) | exact Nat.le_of_ble_eq_true rfl | exact Nat.le_refl _ | omega) (by first | exact Nat.le_of_ble_eq_true rfl | (simp [va_rf_cat]; done) | (simp [va_rf_cat, Value.category]; done)) rfl (fun _ _ h => h.elim) (fun v72 G72 hq => ?_)
                  obtain ⟨r', rfl, rfl, hq⟩ := hq
                  rw [partT_placeT (a4 u rfl)] at hq
                  refine GW.astore3 dX2_follow_75 (g := ?_)
                  refine GW.inc4 dX2_follow_76 (g := ?_)
                  refine GW.goto (tgt := 31) dX2_follow_79 (by decide) ?_
                  rw [mI_succ]
                  refine ih (i + 1) r' (stp u (f i)) mc2 _ _ (by omega) eo ⟨e4.trans b4, e5, e6⟩ hq ?_ ?_ ?_
                  · intro c hc
                    obtain ⟨j, g1, g2⟩ := stp_some hc
                    exact (a4 u rfl).kid g2
                  · rw [a5, stps_succ]; rfl
                  · intro c pr2 pl2 hc hag hch
                    obtain ⟨j, g1, g2⟩ := stp_some hc
                    refine a6 u pr2 pl2 rfl (fun q hq => ?_) ?_
                    · obtain ⟨w1, w2⟩ := hag q (by omega)
                      exact ⟨by rw [w1]; simp [va_up]; omega, by rw [w2]; simp [upd]; omega⟩
                    · obtain ⟨w1, w2⟩ := hag i (by omega)
                      rw [stps_succ]
                      exact ⟨r38, j, c, by rw [w1]; simp [va_up], a3, g1, g2, by rw [w2]; simp [upd, g1, oI], hch⟩
        exact key n 0 (some w) (some t) mc1 pr pl (by omega) (fun q q4 q5 q6 => go q q4) ⟨g4, (go 5 (by decide)).trans h5, (go 6 (by decide)).trans h6⟩ hv (fun u hu => by cases hu; exact hs) rfl (fun u pr2 pl2 hu hag hch => by cases hu; exact hch)
      · exact absurd ((mI_le (b := 6) (by omega) (by omega)).mpr hn6) h13
