/-! EDITOR: addAt, dropAt, putAt -/
def doAdd (t : Tr) (ss : List Int32) (s : Int32) (v : Tr) : Option Tr := (belT t ss).bind fun u => (addT u s).map fun j => plug t ss (addP u j s v)
def doDrop (t : Tr) (ss : List Int32) (s : Int32) : Option Tr := (belT t ss).bind fun u => (placeT u s).map fun j => plug t ss (remP u j)
def tkDrop (t : Tr) (ss : List Int32) (s : Int32) : Option Tr := (belT t ss).bind fun u => stp u s
def doPut (t : Tr) (ss : List Int32) (v : Tr) : Option Tr := (belT t ss).map fun _ => plug t ss v
theorem szT_addP {t u : Tr} {j : Nat} {s : Int32} (h : j ≤ wd t) : szT (addP t j s u) = szT t + szT u := by
  unfold addP
  rw [szT_of, szT_kids t]
  unfold insK
  rw [szL_app]
  have h1 : szL (kids t.2.2) = szL ((kids t.2.2).take j) + szL ((kids t.2.2).drop j) := by rw [← szL_app, List.take_append_drop]
  rw [h1]
  simp only [szL, List.map_cons, List.sum_cons]
  omega
theorem szT_remP {t c : Tr} {j : Nat} (h : kid t j = some c) : szT (remP t j) + szT c = szT t := by
  obtain ⟨x, h1, h2⟩ := kid_ex (kid_lt h)
  cases h.symm.trans h2
  unfold remP
  rw [szT_of, szT_kids t, List.eraseIdx_eq_take_drop_succ, szL_app]
  have h3 : szL (kids t.2.2) = szL ((kids t.2.2).take j) + szL ((kids t.2.2).drop j) := by rw [← szL_app, List.take_append_drop]
  rw [h3, szL_drop h1]
  omega
/-- what a change in the EDITOR leaves: o the new whole (the old one if there is none), tko what it took out -/
def edPost (G : gG) (t : Tr) (o tko : Option Tr) : Option Value → gG → Prop := fun v G' => ∃ im' mc' w' tk' len pr pl, v = some (.int (if o.isSome then 1 else 0)) ∧ gLe G.1 im' ∧ (im', G.2.1, mc') = G' ∧ (∀ q, q ≠ 4 → q ≠ 5 → q ≠ 6 → mc' q = G.2.2 q) ∧ edAt G.2.1 mc' (some w') tk' len pr pl ∧ isV im' w' (o.getD t) ∧ isO im' tk' tko
theorem stps_len (f : Nat → Int32) (i n : Nat) : (stps f i n).length = n := by unfold stps; simp
theorem gS_tri (im : gIm) (ad : Nat → Nat) (mc : Nat → Option gC) (r : Nat) (c : gC) : gS (im, ad, mc) r c = (im, ad, fun q => if q = r then some c else mc q) := rfl
abbrev mX2_addAt (d kc ks : Nat) : gM := (RX2, cX2_addAt, 7, (some .boolean), [], "addAt", d, kc, ks)
abbrev kX2_addAt (d kc ks : Nat) (as : List Value) (G : gG) (Q : Option Value → gG → Prop) (X : String → gG → Prop) : Prop := Ctr yX2_addAt cX2_addAt 7 (some .boolean) d kc ks as G Q X
theorem oX2_addAt {d kc ks : Nat} {as : List Value} {G : gG} {Q : Option Value → gG → Prop} {X : String → gG → Prop} {L : List (Option Value)} (hL : gEnt as = L) (hlen : (lg_sl as).length ≤ 7) (g : GW (mX2_addAt d kc ks) Q X G 0 0 0 L []) : kX2_addAt d kc ks as G Q X := Ctr.of (by decide +kernel) rfl rfl hL hlen g
theorem c_addAt {G : gG} {w pa N n b : Nat} {f : Nat → Int32} {t vt : Tr} {s : Int32} {tk : Option Nat} {len : Int32} {pr : Nat → Option Nat} {pl : Nat → Int32} (h9 : frG G) (he : edAt G.2.1 G.2.2 (some w) tk len pr pl) (hv : isV G.1 w t) (hb : isV G.1 b vt) (hs : szT t + szT vt < 2 ^ 18) (hpa : pathAt G.1 G.2.1 G.2.2 pa N f) (hn : n ≤ N) (hN : N < 2 ^ 20) (hn6 : n ≤ 6) :
    kX2_addAt 4 15 (3 * szT t + 44) [.ref (G.2.1 4), .ref pa, .int (nI n), .int s, va_rf (some b)] G (edPost G t (doAdd t (stps f 0 n) s vt) none) noX := by
  obtain ⟨im, ad, mc⟩ := G
  have hst : sml t := by unfold sml; omega
  refine oX2_addAt (L := [some (.ref (ad 4)), some (.ref pa), some (.int (nI n)), some (.int s), some (va_rf (some b)), none, none, none, none, none, none, none]) rfl (Nat.le_of_ble_eq_true rfl) ?_
  generalize hQ : edPost (im, ad, mc) t (doAdd t (stps f 0 n) s vt) none = Q
  obtain ⟨h4, h5, h6⟩ := id he
  have l4 : gL (im, ad, mc) (ad 4) (.inl (2, _)) := Or.inr ⟨4, rfl, h4⟩
  refine GW.aload0 dX2_addAt_0 (g := ?_)
  refine GW.aload1 dX2_addAt_1 (g := ?_)
  refine GW.iload2 dX2_addAt_2 ?_
  refine GW.callV cv_X2_64 mt_X2_follow (c_follow (G := (im, ad, mc)) he hv hst hpa hn hN hn6) dX2_addAt_3 (by assumption) rfl rfl rfl rfl (by first | (dsimp only [mX2_addAt, gM.dp, gM.kc, gM.ks]; omega) | exact Nat.le_of_ble_eq_true rfl | exact Nat.le_refl _ | omega) (by decide) (by first | omega | (dsimp only [mX2_addAt, gM.dp, gM.kc, gM.ks]; omega)) (by first | omega | (dsimp only [mX2_addAt, gM.dp, gM.kc, gM.ks]; omega)) (by first | exact Nat.le_of_ble_eq_true rfl | (simp [va_rf_cat]; done) | (simp [va_rf_cat, Value.category]; done)) rfl (fun _ _ h => h.elim) (fun v3 G3 hq => ?_)
  obtain ⟨r, mc1, pr1, pl1, rfl, rfl, ho1, he1, hr, hc⟩ := hq
  obtain ⟨g4, g5, g6⟩ := id he1
  have g4 : mc1 4 = some (.inl (2, [va_rf (some w), va_rf tk, .int (nI n), .ref (ad 5), .ref (ad 6)])) := g4
  refine GW.astore5 dX2_addAt_6 (g := ?_)
  refine GW.aload0 dX2_addAt_8 (g := ?_)
  refine GW.null dX2_addAt_9 ?_
  refine GW.putf (r := 4) fl_X2_25 dX2_addAt_10 (by first | rfl | assumption) (Nat.le_of_ble_eq_true rfl) (by first | exact ⟨rfl, rfl⟩ | exact fitq _ _ rfl) (by first | exact Or.inl rfl | exact Or.inr ⟨rfl, rfl⟩) (by first | rfl | assumption) ?_
  obtain ⟨mc2, hm2⟩ : ∃ mc2, mc2 = (fun q => if q = 4 then some (Sum.inl (2, [va_rf (some w), .null, .int (nI n), .ref (ad 5), .ref (ad 6)])) else mc1 q : Nat → Option gC) := ⟨_, rfl⟩
  rw [show gS (im, ad, mc1) 4 (.inl (2, [va_rf (some w), va_rf tk, .int (nI n), .ref (ad 5), .ref (ad 6)].set 1 .null)) = (im, ad, mc2) from by rw [hm2]; rfl]
  have k4 : mc2 4 = some (.inl (2, [va_rf (some w), va_rf none, .int (nI n), .ref (ad 5), .ref (ad 6)])) := by rw [hm2]; rfl
  have ko : ∀ q, q ≠ 4 → mc2 q = mc1 q := fun q hq => by rw [hm2]; exact if_neg hq
  have he2 : edAt ad mc2 (some w) none (nI n) pr1 pl1 := ⟨k4, (ko 5 (by decide)).trans g5, (ko 6 (by decide)).trans g6⟩
  have kfr : ∀ q, q ≠ 4 → q ≠ 5 → q ≠ 6 → mc2 q = mc q := fun q q4 q5 q6 => (ko q q4).trans (ho1 q q4 q5 q6)
  have h92 : frG (im, ad, mc2) := fun q hq => (kfr q (by omega) (by omega) (by omega)).trans (h9 q hq)
  have hv : isV im w t := hv
  have hb : isV im b vt := hb
  have no : doAdd t (stps f 0 n) s vt = none → ∀ (l5 l6 : Option Value) (pc : Nat), (pc = 23 ∨ pc = 38) → GW (mX2_addAt 4 15 (3 * szT t + 44)) Q noX (im, ad, mc2) 0 0 pc [some (.ref (ad 4)), some (.ref pa), some (.int (nI n)), some (.int s), some (va_rf (some b)), l5, l6, none, none, none, none, none] [] := by
    intro hno l5 l6 pc hpc
    have fin : Q (some (.int 0)) (im, ad, mc2) := by
      subst hQ
      exact ⟨im, mc2, w, none, nI n, pr1, pl1, by rw [hno]; rfl, gLe.rf _, rfl, kfr, he2, by rw [hno]; exact hv, trivial⟩
    rcases hpc with rfl | rfl
    · refine GW.iconst (v := 0) dX2_addAt_23 (by decide) ?_
      refine GW.ireturn dX2_addAt_24 (Or.inr ⟨rfl, by first | exact Or.inl rfl | exact Or.inr rfl | assumption⟩) (by first | (dsimp only [mX2_addAt, gM.dp, gM.kc, gM.ks]; omega) | exact Nat.le_of_ble_eq_true rfl | exact Nat.le_refl _ | omega) (by first | (dsimp only [mX2_addAt, gM.dp, gM.kc, gM.ks]; omega) | exact Nat.le_of_ble_eq_true rfl | exact Nat.le_refl _ | omega) ?_
      exact fin
    · refine GW.iconst (v := 0) dX2_addAt_38 (by decide) ?_
      refine GW.ireturn dX2_addAt_39 (Or.inr ⟨rfl, by first | exact Or.inl rfl | exact Or.inr rfl | assumption⟩) (by first | (dsimp only [mX2_addAt, gM.dp, gM.kc, gM.ks]; omega) | exact Nat.le_of_ble_eq_true rfl | exact Nat.le_refl _ | omega) (by first | (dsimp only [mX2_addAt, gM.dp, gM.kc, gM.ks]; omega) | exact Nat.le_of_ble_eq_true rfl | exact Nat.le_refl _ | omega) ?_
      exact fin
  refine GW.aload5 dX2_addAt_13 (g := ?_)
  refine GW.ifnull (tgt := 23) dX2_addAt_15 (by decide) (fun h15 => ?_) (fun r15 h15 => ?_)
  · subst h15
    refine no ?_ _ _ 23 (Or.inl rfl)
    unfold doAdd
    cases hbt : belT t (stps f 0 n) with
    | none => rfl
    | some u => rw [hbt] at hr; exact hr.elim
  · subst h15
    cases hbt : belT t (stps f 0 n) with
    | none => rw [hbt] at hr; exact hr.elim
    | some u =>
      rw [hbt] at hr
      have hr : isV im r15 u := hr
      have hch := hc u hbt
      have hsu := belT_sz _ t u hbt
      have hwu := kids_len u.2.2
      have hsml : sml u := by unfold sml; omega
      obtain ⟨kr, pq, hnd, -, -⟩ := hr.node
      have hnd : gL (im, ad, mc2) r15 (.inl (8, _)) := Or.inl hnd
      refine GW.aload4 dX2_addAt_18 (g := ?_)
      refine GW.ifnonnull (tgt := 25) dX2_addAt_20 (by decide) (fun r20 h20 => ?_) (fun h20 => ?_)
      · cases h20
        refine GW.aload5 dX2_addAt_25 (g := ?_)
        refine GW.iload3 dX2_addAt_27 ?_
        refine GW.callV cv_X2_68 mt_X8_placeToAdd (c_placeToAdd (G := (im, ad, mc2)) hr hsml s) dX2_addAt_28 (by assumption) rfl rfl rfl rfl (by first | (dsimp only [mX2_addAt, gM.dp, gM.kc, gM.ks]; omega) | exact Nat.le_of_ble_eq_true rfl | exact Nat.le_refl _ | omega) (by decide) (by first | omega | (dsimp only [mX2_addAt, gM.dp, gM.kc, gM.ks]; omega)) (by first | omega | (dsimp only [mX2_addAt, gM.dp, gM.kc, gM.ks]; omega)) (by first | exact Nat.le_of_ble_eq_true rfl | (simp [va_rf_cat]; done) | (simp [va_rf_cat, Value.category]; done)) rfl (fun _ _ h => h.elim) (fun v28 G28 hq => ?_)
        obtain ⟨z, rfl, rfl, rfl⟩ := hq
        refine GW.istore6 dX2_addAt_31 (g := ?_)
        refine GW.iload6 dX2_addAt_33 ?_
        have hlt : ∀ j, addT u s = some j → j < 2 ^ 31 := fun j h => by have := addT_le h; unfold wd at this; unfold szT at *; omega
        refine GW.if_ge (tgt := 40) dX2_addAt_35 (by decide) (fun h35 => ?_) (fun h35 => ?_)
        · cases hadd : addT u s with
          | none => rw [hadd] at h35; exact absurd h35 (by decide)
          | some j =>
            have hj := addT_le hadd
            have hsa := szT_addP (u := vt) (s := s) hj
            have hp := pcost_le (stps f 0 n) t
            rw [stps_len] at hp
            have hwu : wd u ≤ szT u := by unfold wd szT; omega
            refine GW.aload0 dX2_addAt_40 (g := ?_)
            refine GW.aload5 dX2_addAt_41 (g := ?_)
            refine GW.iload6 dX2_addAt_43 ?_
            refine GW.iload3 dX2_addAt_45 ?_
            refine GW.aload4 dX2_addAt_46 (g := ?_)
            refine GW.callV cv_X2_72 mt_X8_withAdded (c_withAdded (G := (im, ad, mc2)) h92 hr hb hadd hsml (by unfold sml; omega)) dX2_addAt_48 (by assumption) rfl rfl rfl rfl (by first | (dsimp only [mX2_addAt, gM.dp, gM.kc, gM.ks]; omega) | exact Nat.le_of_ble_eq_true rfl | exact Nat.le_refl _ | omega) (by decide) (by first | omega | (dsimp only [mX2_addAt, gM.dp, gM.kc, gM.ks]; omega)) (by first | omega | (dsimp only [mX2_addAt, gM.dp, gM.kc, gM.ks]; omega)) (by first | exact Nat.le_of_ble_eq_true rfl | (simp [va_rf_cat]; done) | (simp [va_rf_cat, Value.category]; done)) rfl (fun _ _ h => h.elim) (fun v48 G48 hq => ?_)
            obtain ⟨c2, im2, rfl, hle2, rfl, hv2⟩ := hq
            have l42 : gL (im2, ad, mc2) (ad 4) (.inl (2, _)) := Or.inr ⟨4, rfl, k4⟩
            have hch2 : chain im2 pr1 pl1 0 t (stps f 0 n) := chain.mono hle2 _ _ _ hch
            refine GW.callV cv_X2_76 mt_X2_rebuild (c_rebuild (G := (im2, ad, mc2)) (K := pcost t (stps f 0 n)) h92 he2 hv2 hch2 hbt (stps_len f 0 n) hn6 (by omega) (Nat.le_refl _)) dX2_addAt_51 (by assumption) rfl rfl rfl rfl (by first | (dsimp only [mX2_addAt, gM.dp, gM.kc, gM.ks]; omega) | exact Nat.le_of_ble_eq_true rfl | exact Nat.le_refl _ | omega) (by decide) (by first | omega | (dsimp only [mX2_addAt, gM.dp, gM.kc, gM.ks]; omega)) (by first | omega | (dsimp only [mX2_addAt, gM.dp, gM.kc, gM.ks]; omega)) (by first | exact Nat.le_of_ble_eq_true rfl | (simp [va_rf_cat]; done) | (simp [va_rf_cat, Value.category]; done)) rfl (fun _ _ h => h.elim) (fun v51 G51 hq => ?_)
            obtain ⟨c3, im3, mc3, rfl, hle3, rfl, ho3, he3, hv3⟩ := hq
            refine GW.iconst (v := 1) dX2_addAt_54 (by decide) ?_
            refine GW.ireturn dX2_addAt_55 (Or.inr ⟨rfl, by first | exact Or.inl rfl | exact Or.inr rfl | assumption⟩) (by first | (dsimp only [mX2_addAt, gM.dp, gM.kc, gM.ks]; omega) | exact Nat.le_of_ble_eq_true rfl | exact Nat.le_refl _ | omega) (by first | (dsimp only [mX2_addAt, gM.dp, gM.kc, gM.ks]; omega) | exact Nat.le_of_ble_eq_true rfl | exact Nat.le_refl _ | omega) ?_
            subst hQ
            have hdo : doAdd t (stps f 0 n) s vt = some (plug t (stps f 0 n) (addP u j s vt)) := by unfold doAdd; rw [hbt]; simp [hadd]
            exact ⟨im3, mc3, c3, none, nI n, pr1, pl1, by rw [hdo]; rfl, hle2.tr hle3, rfl, fun q q4 q5 q6 => (ho3 q q4).trans (kfr q q4 q5 q6), he3, by rw [hdo]; exact hv3, trivial⟩
        · refine no ?_ _ _ 38 (Or.inr rfl)
          have : addT u s = none := (oI_neg hlt).mp (by
            rcases Int32.lt_or_le (oI (addT u s)) 0 with q | q
            · exact q
            · exact absurd q h35)
          unfold doAdd
          rw [hbt]; simp [this]
      · cases h20
abbrev mX2_dropAt (d kc ks : Nat) : gM := (RX2, cX2_dropAt, 6, (some .boolean), [], "dropAt", d, kc, ks)
abbrev kX2_dropAt (d kc ks : Nat) (as : List Value) (G : gG) (Q : Option Value → gG → Prop) (X : String → gG → Prop) : Prop := Ctr yX2_dropAt cX2_dropAt 6 (some .boolean) d kc ks as G Q X
theorem oX2_dropAt {d kc ks : Nat} {as : List Value} {G : gG} {Q : Option Value → gG → Prop} {X : String → gG → Prop} {L : List (Option Value)} (hL : gEnt as = L) (hlen : (lg_sl as).length ≤ 6) (g : GW (mX2_dropAt d kc ks) Q X G 0 0 0 L []) : kX2_dropAt d kc ks as G Q X := Ctr.of (by decide +kernel) rfl rfl hL hlen g
theorem c_dropAt {G : gG} {w pa N n : Nat} {f : Nat → Int32} {t : Tr} {s : Int32} {tk : Option Nat} {len : Int32} {pr : Nat → Option Nat} {pl : Nat → Int32} (h9 : frG G) (he : edAt G.2.1 G.2.2 (some w) tk len pr pl) (hv : isV G.1 w t) (hs : szT t < 2 ^ 18) (hpa : pathAt G.1 G.2.1 G.2.2 pa N f) (hn : n ≤ N) (hN : N < 2 ^ 20) (hn6 : n ≤ 6) :
    kX2_dropAt 4 15 (3 * szT t + 44) [.ref (G.2.1 4), .ref pa, .int (nI n), .int s] G (edPost G t (doDrop t (stps f 0 n) s) (tkDrop t (stps f 0 n) s)) noX := by
  obtain ⟨im, ad, mc⟩ := G
  have hst : sml t := by unfold sml; omega
  refine oX2_dropAt (L := [some (.ref (ad 4)), some (.ref pa), some (.int (nI n)), some (.int s), none, none, none, none, none, none, none, none]) rfl (Nat.le_of_ble_eq_true rfl) ?_
  generalize hQ : edPost (im, ad, mc) t (doDrop t (stps f 0 n) s) (tkDrop t (stps f 0 n) s) = Q
  obtain ⟨h4, h5, h6⟩ := id he
  have l4 : gL (im, ad, mc) (ad 4) (.inl (2, _)) := Or.inr ⟨4, rfl, h4⟩
  refine GW.aload0 dX2_dropAt_0 (g := ?_)
  refine GW.aload1 dX2_dropAt_1 (g := ?_)
  refine GW.iload2 dX2_dropAt_2 ?_
  refine GW.callV cv_X2_64 mt_X2_follow (c_follow (G := (im, ad, mc)) he hv hst hpa hn hN hn6) dX2_dropAt_3 (by assumption) rfl rfl rfl rfl (by first | (dsimp only [mX2_dropAt, gM.dp, gM.kc, gM.ks]; omega) | exact Nat.le_of_ble_eq_true rfl | exact Nat.le_refl _ | omega) (by decide) (by first | omega | (dsimp only [mX2_dropAt, gM.dp, gM.kc, gM.ks]; omega)) (by first | omega | (dsimp only [mX2_dropAt, gM.dp, gM.kc, gM.ks]; omega)) (by first | exact Nat.le_of_ble_eq_true rfl | (simp [va_rf_cat]; done) | (simp [va_rf_cat, Value.category]; done)) rfl (fun _ _ h => h.elim) (fun v3 G3 hq => ?_)
  obtain ⟨r, mc1, pr1, pl1, rfl, rfl, ho1, he1, hr, hc⟩ := hq
  obtain ⟨g4, g5, g6⟩ := id he1
  have g4 : mc1 4 = some (.inl (2, [va_rf (some w), va_rf tk, .int (nI n), .ref (ad 5), .ref (ad 6)])) := g4
  refine GW.astore4 dX2_dropAt_6 (g := ?_)
  refine GW.aload0 dX2_dropAt_8 (g := ?_)
  refine GW.null dX2_dropAt_9 ?_
  refine GW.putf (r := 4) fl_X2_25 dX2_dropAt_10 (by first | rfl | assumption) (Nat.le_of_ble_eq_true rfl) (by first | exact ⟨rfl, rfl⟩ | exact fitq _ _ rfl) (by first | exact Or.inl rfl | exact Or.inr ⟨rfl, rfl⟩) (by first | rfl | assumption) ?_
  obtain ⟨mc2, hm2⟩ : ∃ mc2, mc2 = (fun q => if q = 4 then some (Sum.inl (2, [va_rf (some w), .null, .int (nI n), .ref (ad 5), .ref (ad 6)])) else mc1 q : Nat → Option gC) := ⟨_, rfl⟩
  rw [show gS (im, ad, mc1) 4 (.inl (2, [va_rf (some w), va_rf tk, .int (nI n), .ref (ad 5), .ref (ad 6)].set 1 .null)) = (im, ad, mc2) from by rw [hm2]; rfl]
  have k4 : mc2 4 = some (.inl (2, [va_rf (some w), va_rf none, .int (nI n), .ref (ad 5), .ref (ad 6)])) := by rw [hm2]; rfl
  have ko : ∀ q, q ≠ 4 → mc2 q = mc1 q := fun q hq => by rw [hm2]; exact if_neg hq
  have he2 : edAt ad mc2 (some w) none (nI n) pr1 pl1 := ⟨k4, (ko 5 (by decide)).trans g5, (ko 6 (by decide)).trans g6⟩
  have kfr : ∀ q, q ≠ 4 → q ≠ 5 → q ≠ 6 → mc2 q = mc q := fun q q4 q5 q6 => (ko q q4).trans (ho1 q q4 q5 q6)
  have h92 : frG (im, ad, mc2) := fun q hq => (kfr q (by omega) (by omega) (by omega)).trans (h9 q hq)
  have hv : isV im w t := hv
  have no : doDrop t (stps f 0 n) s = none → tkDrop t (stps f 0 n) s = none → ∀ (l4 l5 : Option Value) (pc : Nat), (pc = 18 ∨ pc = 33) → GW (mX2_dropAt 4 15 (3 * szT t + 44)) Q noX (im, ad, mc2) 0 0 pc [some (.ref (ad 4)), some (.ref pa), some (.int (nI n)), some (.int s), l4, l5, none, none, none, none, none, none] [] := by
    intro hno htk l4 l5 pc hpc
    have fin : Q (some (.int 0)) (im, ad, mc2) := by
      subst hQ
      exact ⟨im, mc2, w, none, nI n, pr1, pl1, by rw [hno]; rfl, gLe.rf _, rfl, kfr, he2, by rw [hno]; exact hv, by rw [htk]; trivial⟩
    rcases hpc with rfl | rfl
    · refine GW.iconst (v := 0) dX2_dropAt_18 (by decide) ?_
      refine GW.ireturn dX2_dropAt_19 (Or.inr ⟨rfl, by first | exact Or.inl rfl | exact Or.inr rfl | assumption⟩) (by first | (dsimp only [mX2_dropAt, gM.dp, gM.kc, gM.ks]; omega) | exact Nat.le_of_ble_eq_true rfl | exact Nat.le_refl _ | omega) (by first | (dsimp only [mX2_dropAt, gM.dp, gM.kc, gM.ks]; omega) | exact Nat.le_of_ble_eq_true rfl | exact Nat.le_refl _ | omega) ?_
      exact fin
    · refine GW.iconst (v := 0) dX2_dropAt_33 (by decide) ?_
      refine GW.ireturn dX2_dropAt_34 (Or.inr ⟨rfl, by first | exact Or.inl rfl | exact Or.inr rfl | assumption⟩) (by first | (dsimp only [mX2_dropAt, gM.dp, gM.kc, gM.ks]; omega) | exact Nat.le_of_ble_eq_true rfl | exact Nat.le_refl _ | omega) (by first | (dsimp only [mX2_dropAt, gM.dp, gM.kc, gM.ks]; omega) | exact Nat.le_of_ble_eq_true rfl | exact Nat.le_refl _ | omega) ?_
      exact fin
  refine GW.aload4 dX2_dropAt_13 (g := ?_)
  refine GW.ifnonnull (tgt := 20) dX2_dropAt_15 (by decide) (fun r15 h15 => ?_) (fun h15 => ?_)
  · subst h15
    cases hbt : belT t (stps f 0 n) with
    | none => rw [hbt] at hr; exact hr.elim
    | some u =>
      rw [hbt] at hr
      have hr : isV im r15 u := hr
      have hch := hc u hbt
      have hsu := belT_sz _ t u hbt
      have hwu := kids_len u.2.2
      have hsml : sml u := by unfold sml; omega
      obtain ⟨kr, pq, hnd, -, -⟩ := hr.node
      have hnd : gL (im, ad, mc2) r15 (.inl (8, _)) := Or.inl hnd
      refine GW.aload4 dX2_dropAt_20 (g := ?_)
      refine GW.iload3 dX2_dropAt_22 ?_
      refine GW.callV cv_X2_80 mt_X8_placeOf (c_placeOf (G := (im, ad, mc2)) hr hsml s) dX2_dropAt_23 (by assumption) rfl rfl rfl rfl (by first | (dsimp only [mX2_dropAt, gM.dp, gM.kc, gM.ks]; omega) | exact Nat.le_of_ble_eq_true rfl | exact Nat.le_refl _ | omega) (by decide) (by first | omega | (dsimp only [mX2_dropAt, gM.dp, gM.kc, gM.ks]; omega)) (by first | omega | (dsimp only [mX2_dropAt, gM.dp, gM.kc, gM.ks]; omega)) (by first | exact Nat.le_of_ble_eq_true rfl | (simp [va_rf_cat]; done) | (simp [va_rf_cat, Value.category]; done)) rfl (fun _ _ h => h.elim) (fun v23 G23 hq => ?_)
      obtain ⟨z, rfl, rfl, rfl⟩ := hq
      refine GW.istore5 dX2_dropAt_26 (g := ?_)
      refine GW.iload5 dX2_dropAt_28 ?_
      have hlt : ∀ j, placeT u s = some j → j < 2 ^ 31 := fun j h => by have := placeT_lt h; unfold wd at this; unfold szT at *; omega
      refine GW.if_ge (tgt := 35) dX2_dropAt_30 (by decide) (fun h30 => ?_) (fun h30 => ?_)
      · cases hpl : placeT u s with
        | none => rw [hpl] at h30; exact absurd h30 (by decide)
        | some j =>
          have hj := placeT_lt hpl
          obtain ⟨x, hx1, hx2⟩ := kid_ex hj
          have hsr := szT_remP hx2
          have hp := pcost_le (stps f 0 n) t
          rw [stps_len] at hp
          have hwu : wd u ≤ szT u := by unfold wd szT; omega
          refine GW.aload0 dX2_dropAt_35 (g := ?_)
          refine GW.aload4 dX2_dropAt_36 (g := ?_)
          refine GW.iload5 dX2_dropAt_38 ?_
          refine GW.callV cv_X2_83 mt_X8_partAt (c_partAt (G := (im, ad, mc2)) hr hsml (nI j)) dX2_dropAt_40 (by assumption) rfl rfl rfl rfl (by first | (dsimp only [mX2_dropAt, gM.dp, gM.kc, gM.ks]; omega) | exact Nat.le_of_ble_eq_true rfl | exact Nat.le_refl _ | omega) (by decide) (by first | omega | (dsimp only [mX2_dropAt, gM.dp, gM.kc, gM.ks]; omega)) (by first | omega | (dsimp only [mX2_dropAt, gM.dp, gM.kc, gM.ks]; omega)) (by first | exact Nat.le_of_ble_eq_true rfl | (simp [va_rf_cat]; done) | (simp [va_rf_cat, Value.category]; done)) rfl (fun _ _ h => h.elim) (fun v40 G40 hq => ?_)
          obtain ⟨rv, rfl, rfl, hq⟩ := hq
          rw [partT_mI (by omega), hx2] at hq
          refine GW.putf (r := 4) fl_X2_25 dX2_dropAt_43 (by first | rfl | assumption) (Nat.le_of_ble_eq_true rfl) (by first | exact ⟨rfl, rfl⟩ | exact fitq _ _ rfl) (by first | exact Or.inl rfl | exact Or.inr ⟨rfl, rfl⟩) (by first | rfl | assumption) ?_
          obtain ⟨mc3, hm3⟩ : ∃ mc3, mc3 = (fun q => if q = 4 then some (Sum.inl (2, [va_rf (some w), va_rf rv, .int (nI n), .ref (ad 5), .ref (ad 6)])) else mc2 q : Nat → Option gC) := ⟨_, rfl⟩
          rw [show gS (im, ad, mc2) 4 (.inl (2, [va_rf (some w), va_rf none, .int (nI n), .ref (ad 5), .ref (ad 6)].set 1 (va_rf rv))) = (im, ad, mc3) from by rw [hm3]; rfl]
          have k43 : mc3 4 = some (.inl (2, [va_rf (some w), va_rf rv, .int (nI n), .ref (ad 5), .ref (ad 6)])) := by rw [hm3]; rfl
          have ko3 : ∀ q, q ≠ 4 → mc3 q = mc2 q := fun q hq => by rw [hm3]; exact if_neg hq
          have he3 : edAt ad mc3 (some w) rv (nI n) pr1 pl1 := ⟨k43, (ko3 5 (by decide)).trans he2.2.1, (ko3 6 (by decide)).trans he2.2.2⟩
          have kfr3 : ∀ q, q ≠ 4 → q ≠ 5 → q ≠ 6 → mc3 q = mc q := fun q q4 q5 q6 => (ko3 q q4).trans (kfr q q4 q5 q6)
          have h93 : frG (im, ad, mc3) := fun q hq => (kfr3 q (by omega) (by omega) (by omega)).trans (h9 q hq)
          obtain ⟨kr3, pq3, hnd3, -, -⟩ := hr.node
          have hnd3 : gL (im, ad, mc3) r15 (.inl (8, _)) := Or.inl hnd3
          refine GW.aload0 dX2_dropAt_46 (g := ?_)
          refine GW.aload4 dX2_dropAt_47 (g := ?_)
          refine GW.iload5 dX2_dropAt_49 ?_
          refine GW.callV cv_X2_87 mt_X8_withoutPart (c_withoutPart (G := (im, ad, mc3)) h93 hr hj hsml (by unfold sml; omega)) dX2_dropAt_51 (by assumption) rfl rfl rfl rfl (by first | (dsimp only [mX2_dropAt, gM.dp, gM.kc, gM.ks]; omega) | exact Nat.le_of_ble_eq_true rfl | exact Nat.le_refl _ | omega) (by decide) (by first | omega | (dsimp only [mX2_dropAt, gM.dp, gM.kc, gM.ks]; omega)) (by first | omega | (dsimp only [mX2_dropAt, gM.dp, gM.kc, gM.ks]; omega)) (by first | exact Nat.le_of_ble_eq_true rfl | (simp [va_rf_cat]; done) | (simp [va_rf_cat, Value.category]; done)) rfl (fun _ _ h => h.elim) (fun v51 G51 hq => ?_)
          obtain ⟨c2, im2, rfl, hle2, rfl, hv2⟩ := hq
          have l42 : gL (im2, ad, mc3) (ad 4) (.inl (2, _)) := Or.inr ⟨4, rfl, k43⟩
          have hch2 : chain im2 pr1 pl1 0 t (stps f 0 n) := chain.mono hle2 _ _ _ hch
          refine GW.callV cv_X2_76 mt_X2_rebuild (c_rebuild (G := (im2, ad, mc3)) (K := pcost t (stps f 0 n)) h93 he3 hv2 hch2 hbt (stps_len f 0 n) hn6 (by have := szT_pos x.2; omega) (Nat.le_refl _)) dX2_dropAt_54 (by assumption) rfl rfl rfl rfl (by first | (dsimp only [mX2_dropAt, gM.dp, gM.kc, gM.ks]; omega) | exact Nat.le_of_ble_eq_true rfl | exact Nat.le_refl _ | omega) (by decide) (by first | omega | (dsimp only [mX2_dropAt, gM.dp, gM.kc, gM.ks]; omega)) (by first | omega | (dsimp only [mX2_dropAt, gM.dp, gM.kc, gM.ks]; omega)) (by first | exact Nat.le_of_ble_eq_true rfl | (simp [va_rf_cat]; done) | (simp [va_rf_cat, Value.category]; done)) rfl (fun _ _ h => h.elim) (fun v54 G54 hq => ?_)
          obtain ⟨c3, im3, mc4, rfl, hle3, rfl, ho3, he4, hv3⟩ := hq
          refine GW.iconst (v := 1) dX2_dropAt_57 (by decide) ?_
          refine GW.ireturn dX2_dropAt_58 (Or.inr ⟨rfl, by first | exact Or.inl rfl | exact Or.inr rfl | assumption⟩) (by first | (dsimp only [mX2_dropAt, gM.dp, gM.kc, gM.ks]; omega) | exact Nat.le_of_ble_eq_true rfl | exact Nat.le_refl _ | omega) (by first | (dsimp only [mX2_dropAt, gM.dp, gM.kc, gM.ks]; omega) | exact Nat.le_of_ble_eq_true rfl | exact Nat.le_refl _ | omega) ?_
          subst hQ
          have hdo : doDrop t (stps f 0 n) s = some (plug t (stps f 0 n) (remP u j)) := by unfold doDrop; rw [hbt]; simp [hpl]
          have htk : tkDrop t (stps f 0 n) s = some x.2 := by unfold tkDrop; rw [hbt]; exact stp_eq hpl hx2
          exact ⟨im3, mc4, c3, rv, nI n, pr1, pl1, by rw [hdo]; rfl, hle2.tr hle3, rfl, fun q q4 q5 q6 => (ho3 q q4).trans (kfr3 q q4 q5 q6), he4, by rw [hdo]; exact hv3, by rw [htk]; exact hq.mono (hle2.tr hle3)⟩
      · have hpn : placeT u s = none := (oI_neg hlt).mp (by
          rcases Int32.lt_or_le (oI (placeT u s)) 0 with q | q
          · exact q
          · exact absurd q h30)
        refine no ?_ ?_ _ _ 33 (Or.inr rfl)
        · unfold doDrop
          rw [hbt]; simp [hpn]
        · unfold tkDrop stp
          rw [hbt]; simp [hpn]
  · subst h15
    have hbt : belT t (stps f 0 n) = none := by
      cases hbt : belT t (stps f 0 n) with
      | none => rfl
      | some u => rw [hbt] at hr; exact hr.elim
    refine no ?_ ?_ _ _ 18 (Or.inl rfl)
    · unfold doDrop; rw [hbt]; rfl
    · unfold tkDrop; rw [hbt]; rfl
abbrev mX2_putAt (d kc ks : Nat) : gM := (RX2, cX2_putAt, 5, (some .boolean), [], "putAt", d, kc, ks)
abbrev kX2_putAt (d kc ks : Nat) (as : List Value) (G : gG) (Q : Option Value → gG → Prop) (X : String → gG → Prop) : Prop := Ctr yX2_putAt cX2_putAt 5 (some .boolean) d kc ks as G Q X
theorem oX2_putAt {d kc ks : Nat} {as : List Value} {G : gG} {Q : Option Value → gG → Prop} {X : String → gG → Prop} {L : List (Option Value)} (hL : gEnt as = L) (hlen : (lg_sl as).length ≤ 5) (g : GW (mX2_putAt d kc ks) Q X G 0 0 0 L []) : kX2_putAt d kc ks as G Q X := Ctr.of (by decide +kernel) rfl rfl hL hlen g
theorem c_putAt {G : gG} {w pa N n b : Nat} {f : Nat → Int32} {t vt : Tr} {tk : Option Nat} {len : Int32} {pr : Nat → Option Nat} {pl : Nat → Int32} (h9 : frG G) (he : edAt G.2.1 G.2.2 (some w) tk len pr pl) (hv : isV G.1 w t) (hb : isV G.1 b vt) (hs : szT t + szT vt < 2 ^ 18) (hpa : pathAt G.1 G.2.1 G.2.2 pa N f) (hn : n ≤ N) (hN : N < 2 ^ 20) (hn6 : n ≤ 6) :
    kX2_putAt 4 15 (3 * szT t + 44) [.ref (G.2.1 4), .ref pa, .int (nI n), va_rf (some b)] G (edPost G t (doPut t (stps f 0 n) vt) (belT t (stps f 0 n))) noX := by
  obtain ⟨im, ad, mc⟩ := G
  have hst : sml t := by unfold sml; omega
  refine oX2_putAt (L := [some (.ref (ad 4)), some (.ref pa), some (.int (nI n)), some (va_rf (some b)), none, none, none, none, none, none, none, none]) rfl (Nat.le_of_ble_eq_true rfl) ?_
  generalize hQ : edPost (im, ad, mc) t (doPut t (stps f 0 n) vt) (belT t (stps f 0 n)) = Q
  obtain ⟨h4, h5, h6⟩ := id he
  have l4 : gL (im, ad, mc) (ad 4) (.inl (2, _)) := Or.inr ⟨4, rfl, h4⟩
  refine GW.aload0 dX2_putAt_0 (g := ?_)
  refine GW.aload1 dX2_putAt_1 (g := ?_)
  refine GW.iload2 dX2_putAt_2 ?_
  refine GW.callV cv_X2_64 mt_X2_follow (c_follow (G := (im, ad, mc)) he hv hst hpa hn hN hn6) dX2_putAt_3 (by assumption) rfl rfl rfl rfl (by first | (dsimp only [mX2_putAt, gM.dp, gM.kc, gM.ks]; omega) | exact Nat.le_of_ble_eq_true rfl | exact Nat.le_refl _ | omega) (by decide) (by first | omega | (dsimp only [mX2_putAt, gM.dp, gM.kc, gM.ks]; omega)) (by first | omega | (dsimp only [mX2_putAt, gM.dp, gM.kc, gM.ks]; omega)) (by first | exact Nat.le_of_ble_eq_true rfl | (simp [va_rf_cat]; done) | (simp [va_rf_cat, Value.category]; done)) rfl (fun _ _ h => h.elim) (fun v3 G3 hq => ?_)
  obtain ⟨r, mc1, pr1, pl1, rfl, rfl, ho1, he1, hr, hc⟩ := hq
  obtain ⟨g4, g5, g6⟩ := id he1
  have g4 : mc1 4 = some (.inl (2, [va_rf (some w), va_rf tk, .int (nI n), .ref (ad 5), .ref (ad 6)])) := g4
  refine GW.astore4 dX2_putAt_6 (g := ?_)
  refine GW.aload0 dX2_putAt_8 (g := ?_)
  refine GW.aload4 dX2_putAt_9 (g := ?_)
  refine GW.putf (r := 4) fl_X2_25 dX2_putAt_11 (by first | rfl | assumption) (Nat.le_of_ble_eq_true rfl) (by first | exact ⟨rfl, rfl⟩ | exact fitq _ _ rfl) (by first | exact Or.inl rfl | exact Or.inr ⟨rfl, rfl⟩) (by first | rfl | assumption) ?_
  obtain ⟨mc2, hm2⟩ : ∃ mc2, mc2 = (fun q => if q = 4 then some (Sum.inl (2, [va_rf (some w), va_rf r, .int (nI n), .ref (ad 5), .ref (ad 6)])) else mc1 q : Nat → Option gC) := ⟨_, rfl⟩
  rw [show gS (im, ad, mc1) 4 (.inl (2, [va_rf (some w), va_rf tk, .int (nI n), .ref (ad 5), .ref (ad 6)].set 1 (va_rf r))) = (im, ad, mc2) from by rw [hm2]; rfl]
  have k4 : mc2 4 = some (.inl (2, [va_rf (some w), va_rf r, .int (nI n), .ref (ad 5), .ref (ad 6)])) := by rw [hm2]; rfl
  have ko : ∀ q, q ≠ 4 → mc2 q = mc1 q := fun q hq => by rw [hm2]; exact if_neg hq
  have he2 : edAt ad mc2 (some w) r (nI n) pr1 pl1 := ⟨k4, (ko 5 (by decide)).trans g5, (ko 6 (by decide)).trans g6⟩
  have kfr : ∀ q, q ≠ 4 → q ≠ 5 → q ≠ 6 → mc2 q = mc q := fun q q4 q5 q6 => (ko q q4).trans (ho1 q q4 q5 q6)
  have h92 : frG (im, ad, mc2) := fun q hq => (kfr q (by omega) (by omega) (by omega)).trans (h9 q hq)
  have hv : isV im w t := hv
  have hb : isV im b vt := hb
  have l42 : gL (im, ad, mc2) (ad 4) (.inl (2, _)) := Or.inr ⟨4, rfl, k4⟩
  refine GW.aload4 dX2_putAt_14 (g := ?_)
  refine GW.ifnull (tgt := 23) dX2_putAt_16 (by decide) (fun h16 => ?_) (fun r16 h16 => ?_)
  · subst h16
    have hbt : belT t (stps f 0 n) = none := by
      cases hbt : belT t (stps f 0 n) with
      | none => rfl
      | some u => rw [hbt] at hr; exact hr.elim
    have hdo : doPut t (stps f 0 n) vt = none := by unfold doPut; rw [hbt]; rfl
    refine GW.iconst (v := 0) dX2_putAt_23 (by decide) ?_
    refine GW.ireturn dX2_putAt_24 (Or.inr ⟨rfl, by first | exact Or.inl rfl | exact Or.inr rfl | assumption⟩) (by first | (dsimp only [mX2_putAt, gM.dp, gM.kc, gM.ks]; omega) | exact Nat.le_of_ble_eq_true rfl | exact Nat.le_refl _ | omega) (by first | (dsimp only [mX2_putAt, gM.dp, gM.kc, gM.ks]; omega) | exact Nat.le_of_ble_eq_true rfl | exact Nat.le_refl _ | omega) ?_
    subst hQ
    exact ⟨im, mc2, w, none, nI n, pr1, pl1, by rw [hdo]; rfl, gLe.rf _, rfl, kfr, he2, by rw [hdo]; exact hv, by rw [hbt]; trivial⟩
  · subst h16
    cases hbt : belT t (stps f 0 n) with
    | none => rw [hbt] at hr; exact hr.elim
    | some u =>
      rw [hbt] at hr
      have hr : isV im r16 u := hr
      have hch := hc u hbt
      have hp := pcost_le (stps f 0 n) t
      rw [stps_len] at hp
      refine GW.aload3 dX2_putAt_19 (g := ?_)
      refine GW.ifnonnull (tgt := 25) dX2_putAt_20 (by decide) (fun r20 h20 => ?_) (fun h20 => ?_)
      · cases h20
        refine GW.aload0 dX2_putAt_25 (g := ?_)
        refine GW.aload3 dX2_putAt_26 (g := ?_)
        refine GW.callV cv_X2_76 mt_X2_rebuild (c_rebuild (G := (im, ad, mc2)) (K := pcost t (stps f 0 n)) h92 he2 hb hch hbt (stps_len f 0 n) hn6 (by omega) (Nat.le_refl _)) dX2_putAt_27 (by assumption) rfl rfl rfl rfl (by first | (dsimp only [mX2_putAt, gM.dp, gM.kc, gM.ks]; omega) | exact Nat.le_of_ble_eq_true rfl | exact Nat.le_refl _ | omega) (by decide) (by first | omega | (dsimp only [mX2_putAt, gM.dp, gM.kc, gM.ks]; omega)) (by first | omega | (dsimp only [mX2_putAt, gM.dp, gM.kc, gM.ks]; omega)) (by first | exact Nat.le_of_ble_eq_true rfl | (simp [va_rf_cat]; done) | (simp [va_rf_cat, Value.category]; done)) rfl (fun _ _ h => h.elim) (fun v27 G27 hq => ?_)
        obtain ⟨c3, im3, mc3, rfl, hle3, rfl, ho3, he3, hv3⟩ := hq
        refine GW.iconst (v := 1) dX2_putAt_30 (by decide) ?_
        refine GW.ireturn dX2_putAt_31 (Or.inr ⟨rfl, by first | exact Or.inl rfl | exact Or.inr rfl | assumption⟩) (by first | (dsimp only [mX2_putAt, gM.dp, gM.kc, gM.ks]; omega) | exact Nat.le_of_ble_eq_true rfl | exact Nat.le_refl _ | omega) (by first | (dsimp only [mX2_putAt, gM.dp, gM.kc, gM.ks]; omega) | exact Nat.le_of_ble_eq_true rfl | exact Nat.le_refl _ | omega) ?_
        subst hQ
        have hdo : doPut t (stps f 0 n) vt = some (plug t (stps f 0 n) vt) := by unfold doPut; rw [hbt]; rfl
        exact ⟨im3, mc3, c3, some r16, nI n, pr1, pl1, by rw [hdo]; rfl, hle3, rfl, fun q q4 q5 q6 => (ho3 q q4).trans (kfr q q4 q5 q6), he3, by rw [hdo]; exact hv3, by rw [hbt]; exact hr.mono hle3⟩
      · cases h20
