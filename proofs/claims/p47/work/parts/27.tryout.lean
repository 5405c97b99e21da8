/-! MARLSTORE: tryOut, writeInverse (takenOut is role 8) -/
theorem doAdd_some {t t' v : Tr} {ss : List Int32} {s : Int32} (h : doAdd t ss s v = some t') : ∃ u j, belT t ss = some u ∧ addT u s = some j ∧ t' = plug t ss (addP u j s v) := by
  unfold doAdd at h
  cases hb : belT t ss with
  | none => rw [hb] at h; cases h
  | some u =>
    rw [hb] at h
    cases ha : addT u s with
    | none => simp [ha] at h
    | some j => simp [ha] at h; exact ⟨u, j, rfl, ha, h.symm⟩
theorem doDrop_some {t t' : Tr} {ss : List Int32} {s : Int32} (h : doDrop t ss s = some t') : ∃ u j c, belT t ss = some u ∧ placeT u s = some j ∧ kid u j = some c ∧ t' = plug t ss (remP u j) ∧ tkDrop t ss s = some c := by
  unfold doDrop at h
  cases hb : belT t ss with
  | none => rw [hb] at h; cases h
  | some u =>
    rw [hb] at h
    cases ha : placeT u s with
    | none => simp [ha] at h
    | some j =>
      simp [ha] at h
      obtain ⟨x, h1, h2⟩ := kid_ex (placeT_lt ha)
      exact ⟨u, j, x.2, rfl, ha, h2, h.symm, by unfold tkDrop; rw [hb]; exact stp_eq ha h2⟩
theorem doPut_some {t t' v : Tr} {ss : List Int32} (h : doPut t ss v = some t') : ∃ u, belT t ss = some u ∧ t' = plug t ss v := by
  unfold doPut at h
  cases hb : belT t ss with
  | none => rw [hb] at h; cases h
  | some u => rw [hb] at h; cases h; exact ⟨u, rfl, rfl⟩
theorem szT_doAdd {t t' v : Tr} {ss : List Int32} {s : Int32} (h : doAdd t ss s v = some t') : szT t' = szT t + szT v := by
  obtain ⟨u, j, h1, h2, rfl⟩ := doAdd_some h
  have := szT_plug ss t u (addP u j s v) h1
  have := szT_addP (u := v) (s := s) (addT_le h2)
  omega
theorem szT_doDrop {t t' : Tr} {ss : List Int32} {s : Int32} (h : doDrop t ss s = some t') : szT t' < szT t := by
  obtain ⟨u, j, c, h1, h2, h3, rfl, -⟩ := doDrop_some h
  have := szT_plug ss t u (remP u j) h1
  have := szT_remP h3
  have := szT_pos c
  omega
theorem szT_doPut {t t' v u : Tr} {ss : List Int32} (h : doPut t ss v = some t') (hu : belT t ss = some u) : szT t' + szT u = szT t + szT v := by
  obtain ⟨u', h1, rfl⟩ := doPut_some h
  exact szT_plug ss t u v hu
theorem szT_opRun {o : OpT} {t t' : Tr} (h : opRun o t = some t') : szT t' ≤ szT t + opSz o := by
  unfold opRun at h
  unfold opSz
  split at h
  · cases hv : o.2.2.2 with
    | none => rw [hv] at h; cases h
    | some v => rw [hv] at h; have := szT_doAdd h; simp only; omega
  · split at h
    · have := szT_doDrop h; omega
    · cases hv : o.2.2.2 with
      | none => rw [hv] at h; cases h
      | some v =>
        rw [hv] at h
        have h : doPut t o.2.1 v = some t' := h
        obtain ⟨u, h1, -⟩ := doPut_some h
        have := szT_doPut h h1
        simp only; omega
/-- one after the other: where it fails, or what comes of it -/
def goR : List OpT → Tr → Nat → Nat ⊕ Tr
  | [], t, _ => .inr t
  | o :: os, t, k => match opRun o t with
    | none => .inl k
    | some t' => goR os t' (k + 1)
/-- what each took out -/
def tks : List OpT → Tr → List (Option Tr)
  | [], _ => []
  | o :: os, t => match opRun o t with
    | none => []
    | some t' => opTk o t :: tks os t'
def sumSz (os : List OpT) : Nat := (os.map opSz).sum
def tryV (os : List OpT) (t : Tr) : Int32 := match goR os t 0 with
  | .inl k => nI k
  | .inr t1 => if szT t1 ≤ 50 ∧ dpT t1 ≤ 7 then -1 else nI os.length
def tkAt (im : gIm) (mc : Nat → Option gC) (tl : List (Option Tr)) : Prop := ∃ tr, mc 8 = some (.inr (1, 20, .inr tr)) ∧ ∀ (j : Nat) (x : Option Tr), tl[j]? = some x → isO im (tr j) x
abbrev mX10_tryOut (d kc ks : Nat) : gM := (RX10, cX10_tryOut, 5, (some .int), [], "tryOut", d, kc, ks)
abbrev kX10_tryOut (d kc ks : Nat) (as : List Value) (G : gG) (Q : Option Value → gG → Prop) (X : String → gG → Prop) : Prop := Ctr yX10_tryOut cX10_tryOut 5 (some .int) d kc ks as G Q X
theorem oX10_tryOut {d kc ks : Nat} {as : List Value} {G : gG} {Q : Option Value → gG → Prop} {X : String → gG → Prop} {L : List (Option Value)} (hL : gEnt as = L) (hlen : (lg_sl as).length ≤ 5) (g : GW (mX10_tryOut d kc ks) Q X G 0 0 0 L []) : kX10_tryOut d kc ks as G Q X := Ctr.of (by decide +kernel) rfl rfl hL hlen g
set_option maxHeartbeats 4000000 in
theorem c_tryOut {G : gG} {cl pc qc i b S : Nat} {os : List OpT} {t : Tr} {w0 tk0 : Option Nat} {len0 : Int32} {pr0 : Nat → Option Nat} {pl0 : Nat → Int32} {tr0 : Nat → Option Nat} (h9 : frG G) (h0 : msAt G.2.1 G.2.2 cl pc qc) (he : edAt G.2.1 G.2.2 w0 tk0 len0 pr0 pl0) (h8 : G.2.2 8 = some (.inr (1, 20, .inr tr0))) (hp : ptAt G.1 G.2.1 G.2.2 i os) (hi : i < 8) (hok : ∀ o ∈ os, opOk o) (hv : isV G.1 b t) (hS : szT t + sumSz os ≤ S) (hSb : S < 2 ^ 17) :
    kX10_tryOut 6 300 (20 * (3 * S + 44)) [.ref (G.2.1 0), .ref (G.2.1 (30 + i)), .ref b] G (fun v G' => ∃ im' mc' w' t' tk len pr pl, v = some (.int (tryV os t)) ∧ gLe G.1 im' ∧ (im', G.2.1, mc') = G' ∧ (∀ q, q ≠ 4 → q ≠ 5 → q ≠ 6 → q ≠ 8 → mc' q = G.2.2 q) ∧ edAt G.2.1 mc' (some w') tk len pr pl ∧ isV im' w' t' ∧ (∃ tr, mc' 8 = some (.inr (1, 20, .inr tr))) ∧ (∀ t1, goR os t 0 = .inr t1 → t' = t1 ∧ tkAt im' mc' (tks os t))) noX := by
  obtain ⟨im, ad, mc⟩ := G
  obtain ⟨hl20, hpa, hd, hpb, hpc⟩ := id hp
  have hv : isV im b t := hv
  have h0' : mc 0 = some (.inl (10, [.ref (ad 1), .ref cl, .ref (ad 2), .ref (ad 4), .ref (ad 7), .int (nI pc), .ref (ad 8), .ref (ad 9), .ref (ad 13), .int 0, .ref (ad 19), .ref (ad 21), .int (nI qc), .ref (ad 14)])) := h0
  have h4 : mc 4 = some (.inl (2, [va_rf w0, va_rf tk0, .int len0, .ref (ad 5), .ref (ad 6)])) := he.1
  have hpa : mc (30 + i) = some (.inl (4, [.int (nI os.length), .ref (ad (40 + i))])) := hpa
  have l0 : gL (im, ad, mc) (ad 0) (.inl (10, _)) := Or.inr ⟨0, rfl, h0⟩
  have l4 : gL (im, ad, mc) (ad 4) (.inl (2, _)) := Or.inr ⟨4, rfl, h4⟩
  refine oX10_tryOut (L := [some (.ref (ad 0)), some (.ref (ad (30 + i))), some (.ref b), none, none, none, none, none, none, none, none, none]) rfl (Nat.le_of_ble_eq_true rfl) ?_
  generalize hQ : (fun (v : Option Value) (G' : gG) => ∃ im' mc' w' t' tk len pr pl, v = some (.int (tryV os t)) ∧ gLe (im, ad, mc).1 im' ∧ (im', (im, ad, mc).2.1, mc') = G' ∧ (∀ q, q ≠ 4 → q ≠ 5 → q ≠ 6 → q ≠ 8 → mc' q = (im, ad, mc).2.2 q) ∧ edAt (im, ad, mc).2.1 mc' (some w') tk len pr pl ∧ isV im' w' t' ∧ (∃ tr, mc' 8 = some (.inr (1, 20, .inr tr))) ∧ (∀ t1, goR os t 0 = .inr t1 → t' = t1 ∧ tkAt im' mc' (tks os t))) = Q
  refine GW.aload0 dX10_tryOut_0 (g := ?_)
  refine GW.getf fl_X10_34 dX10_tryOut_1 (by assumption) (by rfl) ?_
  refine GW.aload2 dX10_tryOut_4 (g := ?_)
  refine GW.callV cv_X10_148 mt_X2_begin (c_edBegin (G := (im, ad, mc)) he) dX10_tryOut_5 (by assumption) rfl rfl rfl rfl (by first | (dsimp only [mX10_tryOut, gM.dp, gM.kc, gM.ks]; omega) | exact Nat.le_of_ble_eq_true rfl | exact Nat.le_refl _ | omega) (by decide) (by first | omega | (dsimp only [mX10_tryOut, gM.dp, gM.kc, gM.ks]; omega)) (by first | omega | (dsimp only [mX10_tryOut, gM.dp, gM.kc, gM.ks]; omega)) (by first | exact Nat.le_of_ble_eq_true rfl | (simp [va_rf_cat]; done) | (simp [va_rf_cat, Value.category]; done)) rfl (fun _ _ h => h.elim) (fun v5 G5 hq => ?_)
  obtain ⟨rfl, rfl⟩ := hq
  obtain ⟨mc1, hm1⟩ : ∃ mc1, mc1 = (fun q => if q = 4 then some (Sum.inl (2, [.ref b, .null, .int len0, .ref (ad 5), .ref (ad 6)])) else mc q : Nat → Option gC) := ⟨_, rfl⟩
  rw [show gS (im, ad, mc) 4 (.inl (2, [.ref b, .null, .int len0, .ref ((im, ad, mc).2.1 5), .ref ((im, ad, mc).2.1 6)])) = (im, ad, mc1) from by rw [hm1]; rfl]
  have ko : ∀ q, q ≠ 4 → mc1 q = mc q := fun q hq => by rw [hm1]; exact if_neg hq
  have he1 : edAt ad mc1 (some b) none len0 pr0 pl0 := ⟨by rw [hm1]; rfl, (ko 5 (by decide)).trans he.2.1, (ko 6 (by decide)).trans he.2.2⟩
  refine GW.iconst (v := 0) dX10_tryOut_8 (by decide) ?_
  refine GW.istore3 dX10_tryOut_9 (g := ?_)
  have key : ∀ (m j : Nat) (im1 : gIm) (mc1 : Nat → Option gC) (w1 : Nat) (t1 : Tr) (tk1 : Option Nat) (len1 : Int32) (pr1 : Nat → Option Nat) (pl1 : Nat → Int32) (pre : List (Option Tr)) (tr : Nat → Option Nat) (l4 : Option Value), (∀ z, l4 = some z → z.category ≠ 2) → j + m = os.length → gLe im im1 → (∀ q, q ≠ 4 → q ≠ 5 → q ≠ 6 → q ≠ 8 → mc1 q = mc q) → edAt ad mc1 (some w1) tk1 len1 pr1 pl1 → isV im1 w1 t1 →
      goR os t 0 = goR (os.drop j) t1 j → szT t1 + sumSz (os.drop j) ≤ S → mc1 8 = some (.inr (1, 20, .inr tr)) → pre.length = j → tks os t = pre ++ tks (os.drop j) t1 → (∀ (j' : Nat) (x : Option Tr), pre[j']? = some x → isO im1 (tr j') x) →
      GW (mX10_tryOut 6 300 (20 * (3 * S + 44))) Q noX (im1, ad, mc1) (15 * j) (j * (3 * S + 44)) 10 [some (.ref (ad 0)), some (.ref (ad (30 + i))), some (.ref b), some (.int (nI j)), l4, none, none, none, none, none, none, none] [] := by
    intro m
    induction m with
    | zero =>
      intro j im1 mc1 w1 t1 tk1 len1 pr1 pl1 pre tr l4' hc4 hj hle hfr hed hvv hgo hsz h81 hpl htk hpre
      have hjl : j = os.length := by omega
      subst hjl
      rw [List.drop_length] at hgo htk hsz
      have hgo : goR os t 0 = .inr t1 := hgo
      have htk : tks os t = pre := by rw [htk]; simp [tks]
      have k30 : mc1 (30 + i) = some (.inl (4, [.int (nI os.length), .ref (ad (40 + i))])) := (hfr _ (by omega) (by omega) (by omega) (by omega)).trans hpa
      have l30 : gL (im1, ad, mc1) (ad (30 + i)) (.inl (4, [.int (nI os.length), .ref (ad (40 + i))])) := Or.inr ⟨30 + i, rfl, k30⟩
      have l0 : gL (im1, ad, mc1) (ad 0) (.inl (10, _)) := Or.inr ⟨0, rfl, (hfr 0 (by decide) (by decide) (by decide) (by decide)).trans h0'⟩
      have l4 : gL (im1, ad, mc1) (ad 4) (.inl (2, _)) := Or.inr ⟨4, rfl, hed.1⟩
      have hfinal : ∀ (x : Int32), x = tryV os t → Q (some (.int x)) (im1, ad, mc1) := by
        intro x hx
        subst hQ hx
        exact ⟨im1, mc1, w1, t1, tk1, len1, pr1, pl1, rfl, hle, rfl, hfr, hed, hvv, ⟨tr, h81⟩, fun t2 ht2 => by
          rw [hgo] at ht2
          cases ht2
          exact ⟨rfl, tr, h81, by rw [htk]; exact hpre⟩⟩
      have hks : os.length * (3 * S + 44) ≤ 20 * (3 * S + 44) := Nat.mul_le_mul_right _ hl20
      refine GW.iload3 dX10_tryOut_10 ?_
      refine GW.aload1 dX10_tryOut_11 (g := ?_)
      refine GW.getf fl_X10_191 dX10_tryOut_12 (by assumption) (by rfl) ?_
      refine GW.icmp_ge (tgt := 72) dX10_tryOut_15 (by decide) (fun h15 => ?_) (fun h15 => ?_)
      · refine GW.aload0 dX10_tryOut_72 (g := ?_)
        refine GW.getf fl_X10_34 dX10_tryOut_73 (by assumption) (by rfl) ?_
        refine GW.callV cv_X10_411 mt_X2_isAllowed (c_isAllowed (G := (im1, ad, mc1)) hed hvv (by unfold sml; omega)) dX10_tryOut_76 (by assumption) rfl rfl rfl rfl (by first | (dsimp only [mX10_tryOut, gM.dp, gM.kc, gM.ks]; omega) | exact Nat.le_of_ble_eq_true rfl | exact Nat.le_refl _ | omega) (by decide) (by first | omega | (dsimp only [mX10_tryOut, gM.dp, gM.kc, gM.ks]; omega)) (by first | omega | (dsimp only [mX10_tryOut, gM.dp, gM.kc, gM.ks]; omega)) (by first | exact Nat.le_of_ble_eq_true rfl | (simp [va_rf_cat]; done) | (simp [va_rf_cat, Value.category]; done)) rfl (fun _ _ h => h.elim) (fun v76 G76 hq => ?_)
        obtain ⟨z, rfl, rfl, rfl⟩ := hq
        refine GW.if_eq (tgt := 86) dX10_tryOut_79 (by decide) (fun h79 => ?_) (fun h79 => ?_)
        · have hno : ¬ (szT t1 ≤ 50 ∧ dpT t1 ≤ 7) := fun h => by
            have h79 : bI (szT t1 ≤ 50 ∧ dpT t1 ≤ 7) = 0 := h79
            rw [bI_t h] at h79
            exact absurd h79 (by decide)
          refine GW.aload1 dX10_tryOut_86 (g := ?_)
          refine GW.getf fl_X10_191 dX10_tryOut_87 (by assumption) (by rfl) ?_
          refine GW.ireturn dX10_tryOut_90 (Or.inl rfl) (by dsimp only [mX10_tryOut, gM.kc]; omega) (by dsimp only [mX10_tryOut, gM.ks]; omega) ?_
          refine hfinal _ ?_
          unfold tryV
          rw [hgo]
          simp only
          rw [if_neg hno]
          try rfl
        · have hyes : szT t1 ≤ 50 ∧ dpT t1 ≤ 7 := by
            by_cases h : szT t1 ≤ 50 ∧ dpT t1 ≤ 7
            · exact h
            · exact absurd (bI_f h) h79
          refine GW.iconst (v := -1) dX10_tryOut_82 (by decide) ?_
          refine GW.goto (tgt := 90) dX10_tryOut_83 (by decide) ?_
          refine GW.ireturn dX10_tryOut_90 (Or.inl rfl) (by dsimp only [mX10_tryOut, gM.kc]; omega) (by dsimp only [mX10_tryOut, gM.ks]; omega) ?_
          refine hfinal _ ?_
          unfold tryV
          rw [hgo]
          simp only
          rw [if_pos hyes]
      · exact absurd ((mI_le (by omega) (by omega)).mpr (Nat.le_refl _)) h15
    | succ m ih =>
      intro j im1 mc1 w1 t1 tk1 len1 pr1 pl1 pre tr l4' hc4 hj hle hfr hed hvv hgo hsz h81 hpl htk hpre
      obtain ⟨o, hoj⟩ : ∃ o, os[j]? = some o := ⟨_, List.getElem?_eq_getElem (by omega)⟩
      have hom := List.mem_of_getElem? hoj
      have hdr : os.drop j = o :: os.drop (j + 1) := by
        rw [List.drop_eq_getElem_cons (by omega)]
        congr 1
        exact (List.getElem?_eq_some_iff.mp hoj).2
      have k30 : mc1 (30 + i) = some (.inl (4, [.int (nI os.length), .ref (ad (40 + i))])) := (hfr _ (by omega) (by omega) (by omega) (by omega)).trans hpa
      have l30 : gL (im1, ad, mc1) (ad (30 + i)) (.inl (4, [.int (nI os.length), .ref (ad (40 + i))])) := Or.inr ⟨30 + i, rfl, k30⟩
      have hpt : ptAt im1 ad mc1 i os := ⟨hl20, k30, hd, (hfr _ (by omega) (by omega) (by omega) (by omega)).trans hpb, fun j x hj => by
        obtain ⟨oa, w1, w2⟩ := hpc j x hj
        exact ⟨oa, w1, w2.mono hle⟩⟩
      have l0 : gL (im1, ad, mc1) (ad 0) (.inl (10, _)) := Or.inr ⟨0, rfl, (hfr 0 (by decide) (by decide) (by decide) (by decide)).trans h0'⟩
      have l4 : gL (im1, ad, mc1) (ad 4) (.inl (2, _)) := Or.inr ⟨4, rfl, hed.1⟩
      have l8 : gL (im1, ad, mc1) (ad 8) (.inr (1, 20, .inr tr)) := Or.inr ⟨8, rfl, h81⟩
      have hix : gIx (nI j) j 20 := mI_ix (by omega) (by omega)
      have h91 : frG (im1, ad, mc1) := fun q hq => (hfr q (by omega) (by omega) (by omega) (by omega)).trans (h9 q hq)
      have hsum : sumSz (os.drop j) = opSz o + sumSz (os.drop (j + 1)) := by rw [hdr]; simp [sumSz]
      have hmul : (j + 1) * (3 * S + 44) = j * (3 * S + 44) + (3 * S + 44) := Nat.succ_mul _ _
      have hks : (j + 1) * (3 * S + 44) ≤ 20 * (3 * S + 44) := Nat.mul_le_mul_right _ (by omega)
      refine GW.iload3 dX10_tryOut_10 ?_
      refine GW.aload1 dX10_tryOut_11 (g := ?_)
      refine GW.getf fl_X10_191 dX10_tryOut_12 (by assumption) (by rfl) ?_
      refine GW.icmp_ge (tgt := 72) dX10_tryOut_15 (by decide) (fun h15 => ?_) (fun h15 => ?_)
      · exact absurd ((mI_le (by omega) (by omega)).mp h15) (by omega)
      · refine GW.iload3 dX10_tryOut_18 ?_
        refine GW.aload0 dX10_tryOut_19 (g := ?_)
        refine GW.getf fl_X10_45 dX10_tryOut_20 (by assumption) (by rfl) ?_
        refine GW.alen dX10_tryOut_23 (by assumption) (by decide) rfl ?_
        refine GW.icmp_ge (tgt := 72) dX10_tryOut_24 (by decide) (fun h24 => ?_) (fun h24 => ?_)
        · exact absurd ((mI_le (a := 20) (by omega) (by omega)).mp h24) (by omega)
        · refine GW.aload1 dX10_tryOut_27 (g := ?_)
          refine GW.iload3 dX10_tryOut_28 ?_
          refine GW.callV cv_X10_239 mt_X4_operationAt (c_operationAt (G := (im1, ad, mc1)) hpt hoj) dX10_tryOut_29 (by assumption) rfl rfl rfl rfl (by first | (dsimp only [mX10_tryOut, gM.dp, gM.kc, gM.ks]; omega) | exact Nat.le_of_ble_eq_true rfl | exact Nat.le_refl _ | omega) (by decide) (by first | omega | (dsimp only [mX10_tryOut, gM.dp, gM.kc, gM.ks]; omega)) (by first | omega | (dsimp only [mX10_tryOut, gM.dp, gM.kc, gM.ks]; omega)) (by first | exact Nat.le_of_ble_eq_true rfl | (simp [va_rf_cat]; done) | (simp [va_rf_cat, Value.category]; done)) rfl (fun _ _ h => h.elim) (fun v29 G29 hq => ?_)
          obtain ⟨oa, rfl, rfl, hoa⟩ := hq
          refine GW.astore4 dX10_tryOut_32 (g := ?_)
          refine GW.aload4 dX10_tryOut_34 (g := ?_)
          refine GW.ifnull (tgt := 51) dX10_tryOut_36 (by decide) (fun h36 => ?_) (fun r36 h36 => ?_)
          · cases h36
          · cases h36
            refine GW.aload0 dX10_tryOut_39 (g := ?_)
            refine GW.getf fl_X10_34 dX10_tryOut_40 (by assumption) (by rfl) ?_
            refine GW.aload4 dX10_tryOut_43 (g := ?_)
            refine GW.callV cv_X10_414 mt_X2_perform (c_perform (G := (im1, ad, mc1)) h91 hed hvv hoa (hok o hom) (by omega)) dX10_tryOut_45 (by assumption) rfl rfl rfl rfl (by first | (dsimp only [mX10_tryOut, gM.dp, gM.kc, gM.ks]; omega) | exact Nat.le_of_ble_eq_true rfl | exact Nat.le_refl _ | omega) (by decide) (by first | omega | (dsimp only [mX10_tryOut, gM.dp, gM.kc, gM.ks]; omega)) (by first | omega | (dsimp only [mX10_tryOut, gM.dp, gM.kc, gM.ks]; omega)) (by first | exact Nat.le_of_ble_eq_true rfl | (simp [va_rf_cat]; done) | (simp [va_rf_cat, Value.category]; done)) rfl (fun _ _ h => h.elim) (fun v45 G45 hq => ?_)
            obtain ⟨im2, mc2, w2, tk2, len2, pr2, pl2, rfl, hle2, rfl, hfr2, hed2, hv2, htk2⟩ := hq
            have hfr3 : ∀ q, q ≠ 4 → q ≠ 5 → q ≠ 6 → q ≠ 8 → mc2 q = mc q := fun q a b c d => (hfr2 q a b c).trans (hfr q a b c d)
            have h82 : mc2 8 = some (.inr (1, 20, .inr tr)) := (hfr2 8 (by decide) (by decide) (by decide)).trans h81
            cases hrun : opRun o t1 with
            | none =>
              rw [hrun] at hv2
              have hgo2 : goR os t 0 = .inl j := by rw [hgo, hdr]; simp only [goR, hrun]
              simp only [Option.isSome_none]
              refine GW.if_ne (tgt := 53) dX10_tryOut_48 (by decide) (fun h48 => ?_) (fun h48 => ?_)
              · exact absurd rfl h48
              · refine GW.iload3 dX10_tryOut_51 ?_
                refine GW.ireturn dX10_tryOut_52 (Or.inl rfl) (by dsimp only [mX10_tryOut, gM.kc]; omega) (by dsimp only [mX10_tryOut, gM.ks]; omega) ?_
                subst hQ
                refine ⟨im2, mc2, w2, t1, tk2, len2, pr2, pl2, ?_, hle.tr hle2, rfl, hfr3, hed2, hv2, ⟨tr, h82⟩, fun t2 ht2 => by rw [hgo2] at ht2; cases ht2⟩
                unfold tryV
                rw [hgo2]
            | some t2 =>
              rw [hrun] at hv2
              have hv2 : isV im2 w2 t2 := hv2
              have hsz2 := szT_opRun hrun
              simp only [Option.isSome_some, if_true]
              refine GW.if_ne (tgt := 53) dX10_tryOut_48 (by decide) (fun h48 => ?_) (fun h48 => ?_)
              · have l0 : gL (im2, ad, mc2) (ad 0) (.inl (10, _)) := Or.inr ⟨0, rfl, (hfr3 0 (by decide) (by decide) (by decide) (by decide)).trans h0'⟩
                have l4 : gL (im2, ad, mc2) (ad 4) (.inl (2, _)) := Or.inr ⟨4, rfl, hed2.1⟩
                refine GW.aload0 dX10_tryOut_53 (g := ?_)
                refine GW.getf fl_X10_45 dX10_tryOut_54 (by assumption) (by rfl) ?_
                refine GW.iload3 dX10_tryOut_57 ?_
                refine GW.aload0 dX10_tryOut_58 (g := ?_)
                refine GW.getf fl_X10_34 dX10_tryOut_59 (by assumption) (by rfl) ?_
                refine GW.getf fl_X10_418 dX10_tryOut_62 (by assumption) (by rfl) ?_
                refine GW.aast (v := tk2) (r := 8) dX10_tryOut_65 h82 hix (by decide) rfl (fun w hw => by
                  subst hw
                  cases hx : opTk o t1 with
                  | none => rw [hx] at htk2; exact htk2.elim
                  | some x => rw [hx] at htk2; obtain ⟨_, _, h, _⟩ := isV.node htk2; exact ⟨_, Or.inl h⟩) ?_
                obtain ⟨mc3, hm3⟩ : ∃ mc3, mc3 = (fun q => if q = 8 then some (Sum.inr (1, 20, Sum.inr (va_up tr j tk2))) else mc2 q : Nat → Option gC) := ⟨_, rfl⟩
                rw [show gS (im2, ad, mc2) 8 (.inr (1, 20, .inr (va_up tr j tk2))) = (im2, ad, mc3) from by rw [hm3]; rfl]
                have ko3 : ∀ q, q ≠ 8 → mc3 q = mc2 q := fun q hq => by rw [hm3]; exact if_neg hq
                refine GW.inc3 dX10_tryOut_66 (g := ?_)
                refine GW.goto (tgt := 10) dX10_tryOut_69 (by decide) ?_
                rw [mI_succ]
                have h3s : 3 * szT t1 ≤ 3 * S := by omega
                refine GW.widen (k' := 15 * (j + 1)) (n' := (j + 1) * (3 * S + 44)) (by omega) (by omega) ?_
                refine ih (j + 1) im2 mc3 w2 t2 tk2 len2 pr2 pl2 (pre ++ [opTk o t1]) (va_up tr j tk2) _ (fun z hz => by cases hz; rw [va_rf_cat]; decide) (by omega) (hle.tr hle2) (fun q a b c d => (ko3 q d).trans (hfr3 q a b c d)) ⟨(ko3 4 (by decide)).trans hed2.1, (ko3 5 (by decide)).trans hed2.2.1, (ko3 6 (by decide)).trans hed2.2.2⟩ hv2 ?_ (by omega) (by rw [hm3]; rfl) (by simp [hpl]) ?_ ?_
                · rw [hgo, hdr]; simp only [goR, hrun]
                · rw [htk, hdr, tks, hrun]; simp
                · intro j' x hx
                  rcases Nat.lt_or_ge j' pre.length with q | q
                  · rw [List.getElem?_append_left q] at hx
                    have := (hpre j' x hx).mono hle2
                    rw [show va_up tr j tk2 j' = tr j' from by simp [va_up]; omega]
                    exact this
                  · rw [List.getElem?_append_right q] at hx
                    have hz : j' - pre.length < 1 := (List.getElem?_eq_some_iff.mp hx).1
                    have : j' = pre.length := by omega
                    subst this
                    simp at hx
                    subst hx
                    rw [show va_up tr j tk2 pre.length = tk2 from by simp [va_up, hpl]]
                    exact htk2
              · exact absurd h48 (by decide)
  refine GW.widen (k' := 15 * 0) (n' := 0 * (3 * S + 44)) (by omega) (by omega) ?_
  exact key os.length 0 im mc1 b t none len0 pr0 pl0 [] tr0 none (fun z hz => by cases hz) (by omega) (gLe.rf _) (fun q a _ _ _ => ko q a) he1 hv rfl (by simpa using hS) ((ko 8 (by decide)).trans h8) rfl rfl (fun j' x hx => by simp at hx)
