/-! MARLSTORE: writeInverse -/
/-- the inverse, from the last to the first -/
def invL (os : List OpT) (tl : List (Option Tr)) : List OpT := ((os.zip tl).map (fun x => opInv x.1 x.2)).reverse
theorem tks_len : ∀ (os : List OpT) (t t1 : Tr) (k : Nat), goR os t k = .inr t1 → (tks os t).length = os.length
  | [], _, _, _, _ => rfl
  | o :: os, t, t1, k, h => by
    rw [goR] at h
    rw [tks]
    cases hr : opRun o t with
    | none => rw [hr] at h; cases h
    | some t' =>
      rw [hr] at h
      simp only [List.length_cons]
      rw [tks_len os t' t1 (k + 1) h]
abbrev mX10_writeInverse (d kc ks : Nat) : gM := (RX10, cX10_writeInverse, 5, none, [], "writeInverse", d, kc, ks)
abbrev kX10_writeInverse (d kc ks : Nat) (as : List Value) (G : gG) (Q : Option Value → gG → Prop) (X : String → gG → Prop) : Prop := Ctr yX10_writeInverse cX10_writeInverse 5 none d kc ks as G Q X
theorem oX10_writeInverse {d kc ks : Nat} {as : List Value} {G : gG} {Q : Option Value → gG → Prop} {X : String → gG → Prop} {L : List (Option Value)} (hL : gEnt as = L) (hlen : (lg_sl as).length ≤ 5) (g : GW (mX10_writeInverse d kc ks) Q X G 0 0 0 L []) : kX10_writeInverse d kc ks as G Q X := Ctr.of (by decide +kernel) rfl rfl hL hlen g
theorem c_writeInverse {G : gG} {cl pc qc i i2 : Nat} {os : List OpT} {tl : List (Option Tr)} (h9 : frG G) (h0 : msAt G.2.1 G.2.2 cl pc qc) (hp : ptAt G.1 G.2.1 G.2.2 i os) (hi : i < 8) (hp2 : ptAt G.1 G.2.1 G.2.2 i2 []) (hi2 : i2 < 8) (hne : i ≠ i2) (hok : ∀ o ∈ os, opOk o) (ht : tkAt G.1 G.2.2 tl) (htl : tl.length = os.length) :
    kX10_writeInverse 3 20 80 [.ref (G.2.1 0), .ref (G.2.1 (30 + i)), .ref (G.2.1 (30 + i2))] G (fun v G' => v = none ∧ ∃ im' mc', gLe G.1 im' ∧ (im', G.2.1, mc') = G' ∧ (∀ q, q ≠ 30 + i2 → q ≠ 40 + i2 → mc' q = G.2.2 q) ∧ ptAt im' G.2.1 mc' i2 (invL os tl)) noX := by
  obtain ⟨im, ad, mc⟩ := G
  obtain ⟨hl20, hpa, hd, hpb, hpc⟩ := id hp
  obtain ⟨tr, h8, htr⟩ := ht
  have h8 : mc 8 = some (.inr (1, 20, .inr tr)) := h8
  have h0' : mc 0 = some (.inl (10, [.ref (ad 1), .ref cl, .ref (ad 2), .ref (ad 4), .ref (ad 7), .int (nI pc), .ref (ad 8), .ref (ad 9), .ref (ad 13), .int 0, .ref (ad 19), .ref (ad 21), .int (nI qc), .ref (ad 14)])) := h0
  have hpa : mc (30 + i) = some (.inl (4, [.int (nI os.length), .ref (ad (40 + i))])) := hpa
  have l30 : gL (im, ad, mc) (ad (30 + i)) (.inl (4, [.int (nI os.length), .ref (ad (40 + i))])) := Or.inr ⟨30 + i, rfl, hpa⟩
  refine oX10_writeInverse (L := [some (.ref (ad 0)), some (.ref (ad (30 + i))), some (.ref (ad (30 + i2))), none, none, none, none, none, none, none, none, none]) rfl (Nat.le_of_ble_eq_true rfl) ?_
  generalize hQ : (fun (v : Option Value) (G' : gG) => v = none ∧ ∃ im' mc', gLe (im, ad, mc).1 im' ∧ (im', (im, ad, mc).2.1, mc') = G' ∧ (∀ q, q ≠ 30 + i2 → q ≠ 40 + i2 → mc' q = (im, ad, mc).2.2 q) ∧ ptAt im' (im, ad, mc).2.1 mc' i2 (invL os tl)) = Q
  refine GW.aload1 dX10_writeInverse_0 (g := ?_)
  refine GW.getf fl_X10_191 dX10_writeInverse_1 (by assumption) (by rfl) ?_
  refine GW.iconst (v := 1) dX10_writeInverse_4 (by decide) ?_
  refine GW.isub dX10_writeInverse_5 ?_
  refine GW.istore3 dX10_writeInverse_6 (g := ?_)
  have key : ∀ (j : Nat) (im1 : gIm) (mc1 : Nat → Option gC) (dn : List OpT) (l4 : Option Value), (∀ z, l4 = some z → z.category ≠ 2) → j ≤ os.length → gLe im im1 → (∀ q, q ≠ 30 + i2 → q ≠ 40 + i2 → mc1 q = mc q) → ptAt im1 ad mc1 i2 dn → dn.length = os.length - j → dn ++ invL (os.take j) (tl.take j) = invL os tl →
      GW (mX10_writeInverse 3 20 80) Q noX (im1, ad, mc1) (os.length - j) (4 * (os.length - j)) 7 [some (.ref (ad 0)), some (.ref (ad (30 + i))), some (.ref (ad (30 + i2))), some (.int (nI j - 1)), l4, none, none, none, none, none, none, none] [] := by
    intro j
    induction j with
    | zero =>
      intro im1 mc1 dn l4' hc4 hj hle hfr hpd hdl hdn
      refine GW.iload3 dX10_writeInverse_7 ?_
      refine GW.if_lt (tgt := 53) dX10_writeInverse_8 (by decide) (fun h8 => ?_) (fun h8 => ?_)
      · refine GW.vreturn dX10_writeInverse_53 rfl (by dsimp only [mX10_writeInverse, gM.kc]; omega) (by dsimp only [mX10_writeInverse, gM.ks]; omega) ?_
        subst hQ
        refine ⟨rfl, im1, mc1, hle, rfl, hfr, ?_⟩
        rw [← hdn]
        simpa [invL] using hpd
      · exact absurd (by decide) h8
    | succ j ih =>
      intro im1 mc1 dn l4' hc4 hj hle hfr hpd hdl hdn
      obtain ⟨o, hoj⟩ : ∃ o, os[j]? = some o := ⟨_, List.getElem?_eq_getElem (by omega)⟩
      obtain ⟨x, hxj⟩ : ∃ x, tl[j]? = some x := ⟨_, List.getElem?_eq_getElem (by omega)⟩
      have hom := List.mem_of_getElem? hoj
      have k30 : mc1 (30 + i) = some (.inl (4, [.int (nI os.length), .ref (ad (40 + i))])) := (hfr _ (by omega) (by omega)).trans hpa
      have hpt : ptAt im1 ad mc1 i os := ⟨hl20, k30, hd, (hfr _ (by omega) (by omega)).trans hpb, fun j x hj => by
        obtain ⟨oa, w1, w2⟩ := hpc j x hj
        exact ⟨oa, w1, w2.mono hle⟩⟩
      have l30 : gL (im1, ad, mc1) (ad (30 + i)) (.inl (4, [.int (nI os.length), .ref (ad (40 + i))])) := Or.inr ⟨30 + i, rfl, k30⟩
      have l0 : gL (im1, ad, mc1) (ad 0) (.inl (10, _)) := Or.inr ⟨0, rfl, (hfr 0 (by omega) (by omega)).trans h0'⟩
      have l8 : gL (im1, ad, mc1) (ad 8) (.inr (1, 20, .inr tr)) := Or.inr ⟨8, rfl, (hfr 8 (by omega) (by omega)).trans h8⟩
      have hix : gIx (nI j) j 20 := mI_ix (by omega) (by omega)
      have h91 : frG (im1, ad, mc1) := fun q hq => (hfr q (by omega) (by omega)).trans (h9 q hq)
      have hxo : isO im1 (tr j) x := (htr j x hxj).mono hle
      rw [show nI (j + 1) - 1 = nI j from mI_pred (by omega)]
      refine GW.iload3 dX10_writeInverse_7 ?_
      refine GW.if_lt (tgt := 53) dX10_writeInverse_8 (by decide) (fun h8 => ?_) (fun h8 => ?_)
      · exact absurd h8 (mI_nonneg (by omega))
      · refine GW.aload1 dX10_writeInverse_11 (g := ?_)
        refine GW.iload3 dX10_writeInverse_12 ?_
        refine GW.callV cv_X10_239 mt_X4_operationAt (c_operationAt (G := (im1, ad, mc1)) hpt hoj) dX10_writeInverse_13 (by assumption) rfl rfl rfl rfl (by first | (dsimp only [mX10_writeInverse, gM.dp, gM.kc, gM.ks]; omega) | exact Nat.le_of_ble_eq_true rfl | exact Nat.le_refl _ | omega) (by decide) (by first | omega | (dsimp only [mX10_writeInverse, gM.dp, gM.kc, gM.ks]; omega)) (by first | omega | (dsimp only [mX10_writeInverse, gM.dp, gM.kc, gM.ks]; omega)) (by first | exact Nat.le_of_ble_eq_true rfl | (simp [va_rf_cat]; done) | (simp [va_rf_cat, Value.category]; done)) rfl (fun _ _ h => h.elim) (fun v13 G13 hq => ?_)
        obtain ⟨oa, rfl, rfl, hoa⟩ := hq
        refine GW.astore4 dX10_writeInverse_16 (g := ?_)
        refine GW.aload4 dX10_writeInverse_18 (g := ?_)
        refine GW.ifnull (tgt := 47) dX10_writeInverse_20 (by decide) (fun h20 => ?_) (fun r20 h20 => ?_)
        · cases h20
        · cases h20
          refine GW.iload3 dX10_writeInverse_23 ?_
          refine GW.aload0 dX10_writeInverse_24 (g := ?_)
          refine GW.getf fl_X10_45 dX10_writeInverse_25 (by assumption) (by rfl) ?_
          refine GW.alen dX10_writeInverse_28 (by assumption) (by decide) rfl ?_
          refine GW.icmp_ge (tgt := 47) dX10_writeInverse_29 (by decide) (fun h29 => ?_) (fun h29 => ?_)
          · exact absurd ((mI_le (a := 20) (by omega) (by omega)).mp h29) (by omega)
          · obtain ⟨pa0, f0, vr0, hoc, -⟩ := id hoa
            have loa : gL (im1, ad, mc1) oa (.inl (3, _)) := Or.inl hoc
            refine GW.aload2 dX10_writeInverse_32 (g := ?_)
            refine GW.aload4 dX10_writeInverse_33 (g := ?_)
            refine GW.aload0 dX10_writeInverse_35 (g := ?_)
            refine GW.getf fl_X10_45 dX10_writeInverse_36 (by assumption) (by rfl) ?_
            refine GW.iload3 dX10_writeInverse_39 ?_
            refine GW.aald dX10_writeInverse_40 (by assumption) (by assumption) (by decide) ?_
            refine GW.callV cv_X10_421 mt_X3_inverse (c_inverse (G := (im1, ad, mc1)) h91 hoa (hok o hom) hxo) dX10_writeInverse_41 (by assumption) rfl rfl rfl rfl (by first | (dsimp only [mX10_writeInverse, gM.dp, gM.kc, gM.ks]; omega) | exact Nat.le_of_ble_eq_true rfl | exact Nat.le_refl _ | omega) (by decide) (by first | omega | (dsimp only [mX10_writeInverse, gM.dp, gM.kc, gM.ks]; omega)) (by first | omega | (dsimp only [mX10_writeInverse, gM.dp, gM.kc, gM.ks]; omega)) (by first | exact Nat.le_of_ble_eq_true rfl | (simp [va_rf_cat]; done) | (simp [va_rf_cat, Value.category]; done)) rfl (fun _ _ h => h.elim) (fun v41 G41 hq => ?_)
            obtain ⟨c2, im2, rfl, hle2, rfl, hop2⟩ := hq
            have hpd2 : ptAt im2 ad mc1 i2 dn := by
              obtain ⟨z1, z2, hd2, z3, z4⟩ := hpd
              exact ⟨z1, z2, hd2, z3, fun j x hj => by
                obtain ⟨oa, w1, w2⟩ := z4 j x hj
                exact ⟨oa, w1, w2.mono hle2⟩⟩
            have l2 : gL (im2, ad, mc1) (ad (30 + i2)) (.inl (4, [.int (nI dn.length), .ref (ad (40 + i2))])) := Or.inr ⟨30 + i2, rfl, hpd2.2.1⟩
            refine GW.callV cv_X10_205 mt_X4_append (c_append (G := (im2, ad, mc1)) hpd2 hi2 (by omega) hop2) dX10_writeInverse_44 (by assumption) rfl rfl rfl rfl (by first | (dsimp only [mX10_writeInverse, gM.dp, gM.kc, gM.ks]; omega) | exact Nat.le_of_ble_eq_true rfl | exact Nat.le_refl _ | omega) (by decide) (by first | omega | (dsimp only [mX10_writeInverse, gM.dp, gM.kc, gM.ks]; omega)) (by first | omega | (dsimp only [mX10_writeInverse, gM.dp, gM.kc, gM.ks]; omega)) (by first | exact Nat.le_of_ble_eq_true rfl | (simp [va_rf_cat]; done) | (simp [va_rf_cat, Value.category]; done)) rfl (fun _ _ h => h.elim) (fun v44 G44 hq => ?_)
            obtain ⟨mc2, rfl, rfl, ho2, hpd3⟩ := hq
            refine GW.inc3m dX10_writeInverse_47 (g := ?_)
            refine GW.goto (tgt := 7) dX10_writeInverse_50 (by decide) ?_
            refine GW.widen (k' := os.length - j) (n' := 4 * (os.length - j)) (by omega) (by omega) ?_
            refine ih im2 mc2 (dn ++ [opInv o x]) _ (fun z hz => by cases hz; rw [va_rf_cat]; decide) (by omega) (hle.tr hle2) (fun q a b => (ho2 q a b).trans (hfr q a b)) hpd3 (by simp; omega) ?_
            rw [← hdn, List.append_assoc]
            congr 1
            rw [List.take_succ, List.take_succ, hoj, hxj]
            unfold invL
            have hlen : (os.take j).length = (tl.take j).length := by simp; omega
            rw [show (some o).toList = [o] from rfl, show (some x).toList = [x] from rfl, List.zip_append hlen]
            simp
  refine GW.widen (k' := os.length - os.length) (n' := 4 * (os.length - os.length)) (by omega) (by omega) ?_
  exact key os.length im mc [] none (fun z hz => by cases hz) (Nat.le_refl _) (gLe.rf _) (fun _ _ _ => rfl) hp2 (by simp) (by rw [List.take_length, show tl.take os.length = tl from by rw [← htl]; exact List.take_length]; rfl)
