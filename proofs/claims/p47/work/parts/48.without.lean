/-! THE WALK: without; MARLSTORE: findIn, found, dropFound -/
theorem dpT_kids {t : Tr} (h : wfT t) : dpT t = 1 + dpL (kids t.2.2) := by
  have e : dpF t.2.2 = dpL (kids t.2.2) := by
    have := dpF_of (kids t.2.2)
    rw [of_kids t.2.2 (wfF.pl _ h.2)] at this
    exact this
  unfold dpT
  rw [e]
theorem dpT_nd (k n : Int32) (zs : List (Int32 × Tr)) : dpT (nd k n zs) = 1 + dpL zs := by
  unfold dpT
  show 1 + dpF (ofKids zs) = _
  rw [dpF_of]
theorem dpL_setK : ∀ (xs : List (Int32 × Tr)) (j : Nat) (x : Int32 × Tr) (u : Tr), xs[j]? = some x → dpT u ≤ dpT x.2 → dpL (setK xs j u) ≤ dpL xs
  | [], j, x, u, h, _ => by simp at h
  | y :: ys, 0, x, u, h, hd => by
    simp at h
    subst h
    show max (dpT u) (dpL ys) ≤ max (dpT y.2) (dpL ys)
    omega
  | y :: ys, j + 1, x, u, h, hd => by
    have := dpL_setK ys j x u (by simpa using h) hd
    show max (dpT y.2) (dpL (setK ys j u)) ≤ max (dpT y.2) (dpL ys)
    omega
theorem dpL_er : ∀ (xs : List (Int32 × Tr)) (j : Nat), dpL (xs.eraseIdx j) ≤ dpL xs
  | [], _ => Nat.le_refl _
  | y :: ys, 0 => by
    show dpL ys ≤ max (dpT y.2) (dpL ys)
    omega
  | y :: ys, j + 1 => by
    have := dpL_er ys j
    show max (dpT y.2) (dpL (ys.eraseIdx j)) ≤ max (dpT y.2) (dpL ys)
    omega
theorem dpT_setP {t c u : Tr} {j : Nat} (ht : wfT t) (h : kid t j = some c) (hd : dpT u ≤ dpT c) : dpT (setP t j u) ≤ dpT t := by
  obtain ⟨x, h1, h2⟩ := kid_ex (kid_lt h)
  cases h.symm.trans h2
  rw [dpT_kids ht]
  show dpT (nd t.1 t.2.1 (setK (kids t.2.2) j u)) ≤ _
  rw [dpT_nd]
  have := dpL_setK (kids t.2.2) j x u h1 hd
  omega
theorem dpT_remP {t : Tr} {j : Nat} (ht : wfT t) : dpT (remP t j) ≤ dpT t := by
  rw [dpT_kids ht]
  show dpT (nd t.1 t.2.1 ((kids t.2.2).eraseIdx j)) ≤ _
  rw [dpT_nd]
  have := dpL_er (kids t.2.2) j
  omega
theorem dpT_plug : ∀ (ss : List Int32) (t u e : Tr), wfT t → belT t ss = some u → dpT e ≤ dpT u → dpT (plug t ss e) ≤ dpT t
  | [], t, u, e, _, h, hd => by cases h; exact hd
  | s :: r, t, u, e, ht, h, hd => by
    obtain ⟨j, c, h1, h2, h3⟩ := belT_cons h
    rw [plug_cons h1 h2]
    exact dpT_setP ht h2 (dpT_plug r c u e (ht.kid h2) h3 hd)
/-- as large as t at most, of the same kind -/
def lsT (u t : Tr) : Prop := u.1 = t.1 ∧ wfT u ∧ szT u ≤ szT t ∧ dpT u ≤ dpT t
theorem placeT_kid {u : Tr} (hw : wfT u) {j : Nat} {x : Int32 × Tr} (hx : (kids u.2.2)[j]? = some x) (hj : j < 2 ^ 31) : placeT u (stpK u.1 x j) = some j := by
  have hjl : j < wd u := (List.getElem?_eq_some_iff.mp hx).1
  unfold stpK
  by_cases h4 : u.1 = 4
  · rw [if_pos h4]
    obtain ⟨done, y, rest, e1, e2⟩ := split_at (xs := kids u.2.2) (j := j) hjl
    have hk := hw.1.2.2.2.2 h4
    rw [e1] at hx hk
    rw [e2, mid_get] at hx
    cases hx
    have := place4 (n := u.2.1) hk
    rw [← e1, ← h4, nd_self hw, ← e2] at this
    exact this
  · rw [if_neg h4]
    have := place3' (k := u.1) (n := u.2.1) (zs := kids u.2.2) h4 hjl hj
    rw [nd_self hw] at this
    exact this
section WALK
variable {im : gIm} {ad : Nat → Nat} {mc : Nat → Option gC} {t : Tr}
/-- the places from p + 1 on are done with -/
def wkD (im : gIm) (v : Nat → Option Nat) (t : Tr) (p : Nat) : Prop := ∀ q e, entE t q = some e → ∃ a u, v q = some a ∧ isV im a u ∧ lsT u e.1 ∧ ∀ j x, (kids e.1.2.2)[j]? = some x → q + 1 + off (kids e.1.2.2) j ≤ p → (kids u.2.2)[j]? = some x
abbrev mX9_without (d kc ks : Nat) : gM := (RX9, cX9_without, 7, (some (.object "MarlStore$Value")), [], "without", d, kc, ks)
abbrev kX9_without (d kc ks : Nat) (as : List Value) (G : gG) (Q : Option Value → gG → Prop) (X : String → gG → Prop) : Prop := Ctr yX9_without cX9_without 7 (some (.object "MarlStore$Value")) d kc ks as G Q X
theorem oX9_without {d kc ks : Nat} {as : List Value} {G : gG} {Q : Option Value → gG → Prop} {X : String → gG → Prop} {L : List (Option Value)} (hL : gEnt as = L) (hlen : (lg_sl as).length ≤ 7) (g : GW (mX9_without d kc ks) Q X G 0 0 0 L []) : kX9_without d kc ks as G Q X := Ctr.of (by decide +kernel) rfl rfl hL hlen g
set_option maxHeartbeats 4000000 in
theorem c_without {w : Int64} (hw : wkT im ad mc t) (hwf : wfT t) (hs : szT t ≤ 50) (h9 : frG (im, ad, mc)) :
    kX9_without 3 150 5400 [.ref (ad 14), .long w] (im, ad, mc) (fun r G' => ∃ a u im' mc', r = some (.ref a) ∧ gLe im im' ∧ (im', ad, mc') = G' ∧ (∀ q, q ≠ 15 → mc' q = mc q) ∧ isV im' a u ∧ lsT u t ∧ wkAny ad mc') noX := by
  obtain ⟨v, pa, st, lv, hwk, hent⟩ := id hw
  have hpos := szT_pos t
  have hst : sml t := by unfold sml; omega
  have l14 := wkAt.gl (G := (im, ad, mc)) hwk
  refine oX9_without (L := [some (.ref (ad 14)), some (.long w), none, none, none, none, none, none, none, none, none, none]) rfl (Nat.le_of_ble_eq_true rfl) ?_
  generalize hQ : (fun (r : Option Value) (G' : gG) => ∃ a u im' mc', r = some (.ref a) ∧ gLe im im' ∧ (im', ad, mc') = G' ∧ (∀ q, q ≠ 15 → mc' q = mc q) ∧ isV im' a u ∧ lsT u t ∧ wkAny ad mc') = Q
  have loop : ∀ (p : Nat) (im1 : gIm) (mc1 : Nat → Option gC) (v1 : Nat → Option Nat) (k n : Nat), p < szT t → gLe im im1 → (∀ q, q ≠ 15 → mc1 q = mc q) → wkAt ad mc1 (nI (szT t)) v1 pa st lv → wkD im1 v1 t p → k + 3 * p ≤ 150 → n + 108 * p ≤ 5400 →
      GW (mX9_without 3 150 5400) Q noX (im1, ad, mc1) k n 7 [some (.ref (ad 14)), some (.long w), none, some (.int (nI p)), none, none, none, none, none, none, none, none] [] := by
    intro p
    induction p with
    | zero =>
      intro im1 mc1 v1 k n hp hle ho w1 hd hk hn
      have l14 := wkAt.gl (G := (im1, ad, mc1)) w1
      have l15 : gL (im1, ad, mc1) (ad 15) (.inr (1, 50, .inr v1)) := Or.inr ⟨15, rfl, w1.2.1⟩
      have hix : gIx 0 0 50 := mI_ix (j := 0) (by omega) (by omega)
      obtain ⟨a, u, ha, hv, hls, -⟩ := hd 0 _ (ent_zero t)
      refine GW.iload3 dX9_without_7 ?_
      refine GW.if_le (tgt := 108) dX9_without_8 (by decide) (fun h8 => ?_) (fun h8 => ?_)
      · refine GW.aload0 dX9_without_108 (g := ?_)
        refine GW.getf fl_X9_11 dX9_without_109 (by assumption) (by rfl) ?_
        refine GW.iconst (v := 0) dX9_without_112 (by decide) ?_
        refine GW.aald dX9_without_113 (by assumption) (by assumption) (by decide) ?_
        rw [ha]
        refine GW.areturn dX9_without_114 (Or.inl ⟨_, rfl⟩) (by first | (dsimp only [mX9_without, gM.dp, gM.kc, gM.ks]; omega) | exact Nat.le_of_ble_eq_true rfl | exact Nat.le_refl _ | omega) (by first | (dsimp only [mX9_without, gM.dp, gM.kc, gM.ks]; omega) | exact Nat.le_of_ble_eq_true rfl | exact Nat.le_refl _ | omega) ?_
        subst hQ
        exact ⟨a, u, im1, mc1, rfl, hle, rfl, ho, hv, hls, _, v1, pa, st, lv, w1⟩
      · exact absurd (show nI 0 ≤ 0 by decide) h8
    | succ p ih =>
      intro im1 mc1 v1 k n hp hle ho w1 hd hk hn
      have l14 := wkAt.gl (G := (im1, ad, mc1)) w1
      have l15 : gL (im1, ad, mc1) (ad 15) (.inr (1, 50, .inr v1)) := Or.inr ⟨15, rfl, w1.2.1⟩
      have h91 : frG (im1, ad, mc1) := fun q hq => (ho q (by omega)).trans (h9 q hq)
      obtain ⟨e, he⟩ := ent_some (t := t) (q := p + 1) hp
      have hr := hent (p + 1) e he
      obtain ⟨q, e', j, x, hq1, he', hx, hpq, rfl⟩ := ent_par he (by omega)
      obtain ⟨a', u', ha', hv', hls', hk'⟩ := hd q e' he'
      have hxu := hk' j x hx (by omega)
      have hjl : j < wd u' := (List.getElem?_eq_some_iff.mp hxu).1
      have hsz' := ent_sz he'
      have hsu' : szT u' ≤ 50 := by have := hls'.2.2.1; omega
      have hsm' : sml u' := by unfold sml; omega
      have hwd' := hsm'.wd
      have hwd2 : wd u' ≤ 50 := by
        have := len_szL (kids u'.2.2)
        have := szT_kids u'
        unfold wd; omega
      have hpl : placeT u' (stpK e'.1.1 x j) = some j := by
        rw [← hls'.1]
        exact placeT_kid hls'.2.1 hxu (by omega)
      have hkid : kid u' j = some x.2 := kid_some hxu
      have down : ∀ q0 e0, entE t q0 = some e0 → q0 ≠ q → ∃ a u, v1 q0 = some a ∧ isV im1 a u ∧ lsT u e0.1 ∧ ∀ j x, (kids e0.1.2.2)[j]? = some x → q0 + 1 + off (kids e0.1.2.2) j ≤ p → (kids u.2.2)[j]? = some x := fun q0 e0 he0 _ => by
        obtain ⟨a, u, g1, g2, g3, g4⟩ := hd q0 e0 he0
        exact ⟨a, u, g1, g2, g3, fun j x hx hj => g4 j x hx (by omega)⟩
      /- what is put in place of the parent -/
      have put : ∀ (im2 : gIm) (c : Nat) (u2 : Tr) (k2 n2 : Nat), gLe im1 im2 → isV im2 c u2 → lsT u2 e'.1 → (∀ j', j' < j → (kids u2.2.2)[j']? = (kids u'.2.2)[j']?) → k2 + 3 * p ≤ 150 → n2 + 108 * p ≤ 5400 → ∀ (l4 l5 l6 : Option Value), GW (mX9_without 3 150 5400) Q noX (im2, ad, fun q' => if q' = 15 then some (.inr (1, 50, .inr (va_up v1 q (some c)))) else mc1 q') k2 n2 102 [some (.ref (ad 14)), some (.long w), none, some (.int (nI (p + 1))), l4, l5, l6, none, none, none, none, none] [] := by
        intro im2 c u2 k2 n2 hle2 hc hls2 hkk hk2 hn2 l4 l5 l6
        refine GW.inc3m dX9_without_102 (g := ?_)
        refine GW.goto (tgt := 7) dX9_without_105 (by decide) ?_
        rw [mI_pred (by omega), Nat.add_sub_cancel]
        refine GW.drop 4 ?_
        refine GW.drop 5 ?_
        refine GW.drop 6 ?_
        refine ih im2 _ (va_up v1 q (some c)) k2 n2 (by omega) (hle.tr hle2) (fun q' hq' => (if_neg hq').trans (ho q' hq')) ⟨(if_neg (by decide)).trans w1.1, if_pos rfl, (if_neg (by decide)).trans w1.2.2.1, (if_neg (by decide)).trans w1.2.2.2.1, (if_neg (by decide)).trans w1.2.2.2.2⟩ (fun q0 e0 he0 => ?_) hk2 hn2
        by_cases hq0 : q0 = q
        · subst hq0
          rw [he'] at he0
          cases he0
          refine ⟨c, u2, by simp [va_up], hc, hls2, fun j' y hy hj' => ?_⟩
          have hjj : j' < j := by
            rcases Nat.lt_or_ge j' j with g | g
            · exact g
            · have := off_mono (xs := kids e'.1.2.2) g
              omega
          rw [hkk j' hjj]
          exact hk' j' y hy (by omega)
        · obtain ⟨a, u, g1, g2, g3, g4⟩ := down q0 e0 he0 hq0
          exact ⟨a, u, by simp [va_up, hq0, g1], g2.mono hle2, g3, g4⟩
      have hq50 : q < 50 := by omega
      have hixq : gIx (nI q) q 50 := mI_ix hq50 (by omega)
      have hr1 : pa (p + 1) = nI q := hr.2.1
      have hr2 : st (p + 1) = stpK e'.1.1 x j := hr.2.2.1
      refine GW.iload3 dX9_without_7 ?_
      refine GW.if_le (tgt := 108) dX9_without_8 (by decide) (fun h8 => ?_) (fun h8 => ?_)
      · have := (mI_le (b := 0) (by omega) (by omega)).mp h8
        omega
      · refine GW.aload0 dX9_without_11 (g := ?_)
        refine GW.iload3 dX9_without_12 ?_
        refine GW.callV cv_X9_67 mt_X9_above (c_above (p := p + 1) w1 (by omega)) dX9_without_13 (by first | assumption | exact isV.gl (by assumption) | exact wkAt.gl (by assumption) | exact tbAt.gl (by assumption)) rfl rfl rfl rfl (by first | (dsimp only [mX9_without, gM.dp, gM.kc, gM.ks]; omega) | exact Nat.le_of_ble_eq_true rfl | exact Nat.le_refl _ | omega) (by decide) (by first | omega | (dsimp only [mX9_without, gM.dp, gM.kc, gM.ks]; omega)) (by first | omega | (dsimp only [mX9_without, gM.dp, gM.kc, gM.ks]; omega)) (by first | exact Nat.le_of_ble_eq_true rfl | (simp [va_rf_cat]; done) | (simp [va_rf_cat, Value.category]; done)) rfl (fun _ _ h => h.elim) (fun v13 G13 hq => ?_)
        obtain ⟨z, rfl, rfl, rfl⟩ := hq
        rw [if_neg (by omega), hr1]
        refine GW.istore4 dX9_without_16 (g := ?_)
        refine GW.aload0 dX9_without_18 (g := ?_)
        refine GW.iload4 dX9_without_19 ?_
        refine GW.callV cv_X9_56 mt_X9_valueAt (c_valueAt (p := q) w1 (by omega) hs) dX9_without_21 (by first | assumption | exact isV.gl (by assumption) | exact wkAt.gl (by assumption) | exact tbAt.gl (by assumption)) rfl rfl rfl rfl (by first | (dsimp only [mX9_without, gM.dp, gM.kc, gM.ks]; omega) | exact Nat.le_of_ble_eq_true rfl | exact Nat.le_refl _ | omega) (by decide) (by first | omega | (dsimp only [mX9_without, gM.dp, gM.kc, gM.ks]; omega)) (by first | omega | (dsimp only [mX9_without, gM.dp, gM.kc, gM.ks]; omega)) (by first | exact Nat.le_of_ble_eq_true rfl | (simp [va_rf_cat]; done) | (simp [va_rf_cat, Value.category]; done)) rfl (fun _ _ h => h.elim) (fun v21 G21 hq => ?_)
        obtain ⟨z, rfl, rfl, rfl⟩ := hq
        rw [ha']
        refine GW.astore5 dX9_without_24 (g := ?_)
        refine GW.aload5 dX9_without_26 (g := ?_)
        refine GW.ifnull (tgt := 102) dX9_without_28 (by decide) (fun h28 => ?_) (fun r28 h28 => ?_)
        · cases h28
        · cases h28
          refine GW.aload5 dX9_without_31 (g := ?_)
          refine GW.aload0 dX9_without_33 (g := ?_)
          refine GW.iload3 dX9_without_34 ?_
          refine GW.callV cv_X9_70 mt_X9_stepTo (c_stepTo (p := p + 1) w1 (by omega)) dX9_without_35 (by first | assumption | exact isV.gl (by assumption) | exact wkAt.gl (by assumption) | exact tbAt.gl (by assumption)) rfl rfl rfl rfl (by first | (dsimp only [mX9_without, gM.dp, gM.kc, gM.ks]; omega) | exact Nat.le_of_ble_eq_true rfl | exact Nat.le_refl _ | omega) (by decide) (by first | omega | (dsimp only [mX9_without, gM.dp, gM.kc, gM.ks]; omega)) (by first | omega | (dsimp only [mX9_without, gM.dp, gM.kc, gM.ks]; omega)) (by first | exact Nat.le_of_ble_eq_true rfl | (simp [va_rf_cat]; done) | (simp [va_rf_cat, Value.category]; done)) rfl (fun _ _ h => h.elim) (fun v35 G35 hq => ?_)
          obtain ⟨z, rfl, rfl, rfl⟩ := hq
          rw [if_neg (by omega), hr2]
          refine GW.callV cv_X9_83 mt_X8_placeOf (c_placeOf (G := (im1, ad, mc1)) hv' hsm' (stpK e'.1.1 x j)) dX9_without_38 (by first | assumption | exact isV.gl (by assumption) | exact wkAt.gl (by assumption) | exact tbAt.gl (by assumption)) rfl rfl rfl rfl (by first | (dsimp only [mX9_without, gM.dp, gM.kc, gM.ks]; omega) | exact Nat.le_of_ble_eq_true rfl | exact Nat.le_refl _ | omega) (by decide) (by first | omega | (dsimp only [mX9_without, gM.dp, gM.kc, gM.ks]; omega)) (by first | omega | (dsimp only [mX9_without, gM.dp, gM.kc, gM.ks]; omega)) (by first | exact Nat.le_of_ble_eq_true rfl | (simp [va_rf_cat]; done) | (simp [va_rf_cat, Value.category]; done)) rfl (fun _ _ h => h.elim) (fun v38 G38 hq => ?_)
          obtain ⟨z, rfl, rfl, rfl⟩ := hq
          rw [hpl]
          refine GW.istore6 dX9_without_41 (g := ?_)
          refine GW.lload1 dX9_without_43 ?_
          refine GW.iload3 dX9_without_44 ?_
          refine GW.callSN nn_X9_63 st_isIn mt_X10_isIn (c_isIn (G := (im1, ad, mc1)) (w := w) (i := nI (p + 1))) dX9_without_45 rfl rfl (by first | (dsimp only [mX9_without, gM.dp, gM.kc, gM.ks]; omega) | exact Nat.le_of_ble_eq_true rfl | exact Nat.le_refl _ | omega) (by decide) (by first | omega | (dsimp only [mX9_without, gM.dp, gM.kc, gM.ks]; omega)) (by first | omega | (dsimp only [mX9_without, gM.dp, gM.kc, gM.ks]; omega)) (by first | exact Nat.le_of_ble_eq_true rfl | (simp [va_rf_cat]; done) | (simp [va_rf_cat, Value.category]; done)) (fun v45 G45 hq => ?_)
          obtain ⟨z, rfl, rfl, rfl⟩ := hq
          refine GW.if_eq (tgt := 68) dX9_without_48 (by decide) (fun h48 => ?_) (fun h48 => ?_)
          · refine GW.aload5 dX9_without_68 (g := ?_)
            refine GW.iload6 dX9_without_70 ?_
            refine GW.callV cv_X9_48 mt_X8_partAt (c_partAt (G := (im1, ad, mc1)) hv' hsm' (nI j)) dX9_without_72 (by first | assumption | exact isV.gl (by assumption) | exact wkAt.gl (by assumption) | exact tbAt.gl (by assumption)) rfl rfl rfl rfl (by first | (dsimp only [mX9_without, gM.dp, gM.kc, gM.ks]; omega) | exact Nat.le_of_ble_eq_true rfl | exact Nat.le_refl _ | omega) (by decide) (by first | omega | (dsimp only [mX9_without, gM.dp, gM.kc, gM.ks]; omega)) (by first | omega | (dsimp only [mX9_without, gM.dp, gM.kc, gM.ks]; omega)) (by first | exact Nat.le_of_ble_eq_true rfl | (simp [va_rf_cat]; done) | (simp [va_rf_cat, Value.category]; done)) rfl (fun _ _ h => h.elim) (fun v72 G72 hq => ?_)
            obtain ⟨r1, rfl, rfl, hq1'⟩ := hq
            rw [partT_mI (by omega), hkid] at hq1'
            cases r1 with
            | none => exact hq1'.elim
            | some b1 =>
              refine GW.aload0 dX9_without_75 (g := ?_)
              refine GW.iload3 dX9_without_76 ?_
              refine GW.callV cv_X9_56 mt_X9_valueAt (c_valueAt (p := p + 1) w1 hp hs) dX9_without_77 (by first | assumption | exact isV.gl (by assumption) | exact wkAt.gl (by assumption) | exact tbAt.gl (by assumption)) rfl rfl rfl rfl (by first | (dsimp only [mX9_without, gM.dp, gM.kc, gM.ks]; omega) | exact Nat.le_of_ble_eq_true rfl | exact Nat.le_refl _ | omega) (by decide) (by first | omega | (dsimp only [mX9_without, gM.dp, gM.kc, gM.ks]; omega)) (by first | omega | (dsimp only [mX9_without, gM.dp, gM.kc, gM.ks]; omega)) (by first | exact Nat.le_of_ble_eq_true rfl | (simp [va_rf_cat]; done) | (simp [va_rf_cat, Value.category]; done)) rfl (fun _ _ h => h.elim) (fun v77 G77 hq => ?_)
              obtain ⟨z, rfl, rfl, rfl⟩ := hq
              obtain ⟨ap, up, hap, hvp, hlsp, -⟩ := hd (p + 1) _ he
              rw [hap]
              refine GW.acmp_eq (tgt := 102) dX9_without_80 (by decide) (fun h80 => ?_) (fun h80 => ?_)
              · have e15 : (fun q' => if q' = 15 then some (.inr (1, 50, .inr (va_up v1 q (some a')))) else mc1 q' : Nat → Option gC) = mc1 := funext fun q' => by
                  by_cases hq' : q' = 15
                  · subst hq'
                    have : va_up v1 q (some a') = v1 := funext fun z => by
                      by_cases hz : z = q
                      · subst hz; simp [va_up, ha']
                      · simp [va_up, hz]
                    rw [if_pos rfl, this]
                    exact w1.2.1.symm
                  · rw [if_neg hq']
                have := put im1 a' u' k n (gLe.rf _) hv' hls' (fun _ _ => rfl) (by omega) (by omega) (some (.int (nI q))) (some (va_rf (some a'))) (some (.int (nI j)))
                rw [e15] at this
                exact this
              · have hszp : szT (setP u' j up) ≤ szT u' := by
                  have h1 := szT_setP (u := up) hkid
                  have h2 : szT up ≤ szT x.2 := hlsp.2.2.1
                  omega
                refine GW.aload0 dX9_without_83 (g := ?_)
                refine GW.getf fl_X9_11 dX9_without_84 (by assumption) (by rfl) ?_
                refine GW.iload4 dX9_without_87 ?_
                refine GW.aload5 dX9_without_89 (g := ?_)
                refine GW.iload6 dX9_without_91 ?_
                refine GW.aload0 dX9_without_93 (g := ?_)
                refine GW.iload3 dX9_without_94 ?_
                refine GW.callV cv_X9_56 mt_X9_valueAt (c_valueAt (p := p + 1) w1 hp hs) dX9_without_95 (by first | assumption | exact isV.gl (by assumption) | exact wkAt.gl (by assumption) | exact tbAt.gl (by assumption)) rfl rfl rfl rfl (by first | (dsimp only [mX9_without, gM.dp, gM.kc, gM.ks]; omega) | exact Nat.le_of_ble_eq_true rfl | exact Nat.le_refl _ | omega) (by decide) (by first | omega | (dsimp only [mX9_without, gM.dp, gM.kc, gM.ks]; omega)) (by first | omega | (dsimp only [mX9_without, gM.dp, gM.kc, gM.ks]; omega)) (by first | exact Nat.le_of_ble_eq_true rfl | (simp [va_rf_cat]; done) | (simp [va_rf_cat, Value.category]; done)) rfl (fun _ _ h => h.elim) (fun v95 G95 hq => ?_)
                obtain ⟨z, rfl, rfl, rfl⟩ := hq
                rw [hap]
                refine GW.callV cv_X9_93 mt_X8_withPart (c_withPart (G := (im1, ad, mc1)) (u := up) h91 hv' hvp hjl hsm' (by unfold sml; omega)) dX9_without_98 (by first | assumption | exact isV.gl (by assumption) | exact wkAt.gl (by assumption) | exact tbAt.gl (by assumption)) rfl rfl rfl rfl (by first | (dsimp only [mX9_without, gM.dp, gM.kc, gM.ks]; omega) | exact Nat.le_of_ble_eq_true rfl | exact Nat.le_refl _ | omega) (by decide) (by first | omega | (dsimp only [mX9_without, gM.dp, gM.kc, gM.ks]; omega)) (by first | omega | (dsimp only [mX9_without, gM.dp, gM.kc, gM.ks]; omega)) (by first | exact Nat.le_of_ble_eq_true rfl | (simp [va_rf_cat]; done) | (simp [va_rf_cat, Value.category]; done)) rfl (fun _ _ h => h.elim) (fun v98 G98 hq => ?_)
                obtain ⟨c, im2, rfl, hle2, rfl, hc⟩ := hq
                obtain ⟨krc, pqc, hndc, -, -⟩ := hc.node
                have w15 : mc1 15 = some (.inr (1, 50, .inr v1)) := w1.2.1
                refine GW.aast (v := some c) (r := 15) dX9_without_101 w15 hixq (by decide) rfl (fun w hw => by cases hw; exact ⟨_, Or.inl hndc⟩) ?_
                rw [gS_tri]
                exact put im2 c (setP u' j up) _ _ hle2 hc ⟨hls'.1, wfT_setP hls'.2.1 hlsp.2.1, by have := hls'.2.2.1; omega, by have h1 := dpT_setP hls'.2.1 hkid hlsp.2.2.2; have := hls'.2.2.2; omega⟩ (fun j' hj' => by rw [kids_setP, setK_get, if_neg (by omega)]) (by omega) (by omega) _ _ _
          · have hszp : szT (remP u' j) ≤ szT u' := by
              have h1 := szT_remP hkid
              omega
            refine GW.aload0 dX9_without_51 (g := ?_)
            refine GW.getf fl_X9_11 dX9_without_52 (by assumption) (by rfl) ?_
            refine GW.iload4 dX9_without_55 ?_
            refine GW.aload5 dX9_without_57 (g := ?_)
            refine GW.iload6 dX9_without_59 ?_
            refine GW.callV cv_X9_90 mt_X8_withoutPart (c_withoutPart (G := (im1, ad, mc1)) h91 hv' hjl hsm' (by unfold sml; omega)) dX9_without_61 (by first | assumption | exact isV.gl (by assumption) | exact wkAt.gl (by assumption) | exact tbAt.gl (by assumption)) rfl rfl rfl rfl (by first | (dsimp only [mX9_without, gM.dp, gM.kc, gM.ks]; omega) | exact Nat.le_of_ble_eq_true rfl | exact Nat.le_refl _ | omega) (by decide) (by first | omega | (dsimp only [mX9_without, gM.dp, gM.kc, gM.ks]; omega)) (by first | omega | (dsimp only [mX9_without, gM.dp, gM.kc, gM.ks]; omega)) (by first | exact Nat.le_of_ble_eq_true rfl | (simp [va_rf_cat]; done) | (simp [va_rf_cat, Value.category]; done)) rfl (fun _ _ h => h.elim) (fun v61 G61 hq => ?_)
            obtain ⟨c, im2, rfl, hle2, rfl, hc⟩ := hq
            obtain ⟨krc, pqc, hndc, -, -⟩ := hc.node
            have w15 : mc1 15 = some (.inr (1, 50, .inr v1)) := w1.2.1
            refine GW.aast (v := some c) (r := 15) dX9_without_64 w15 hixq (by decide) rfl (fun w hw => by cases hw; exact ⟨_, Or.inl hndc⟩) ?_
            rw [gS_tri]
            refine GW.goto (tgt := 102) dX9_without_65 (by decide) ?_
            exact put im2 c (remP u' j) _ _ hle2 hc ⟨hls'.1, wfT_remP hls'.2.1 hjl, by have := hls'.2.2.1; omega, by have h1 := dpT_remP (j := j) hls'.2.1; have := hls'.2.2.2; omega⟩ (fun j' hj' => by
              show (kids (ofKids ((kids u'.2.2).eraseIdx j)))[j']? = _
              rw [kids_of, er_lt hj']) (by omega) (by omega) _ _ _
  refine GW.aload0 dX9_without_0 (g := ?_)
  refine GW.getf fl_X9_37 dX9_without_1 (by assumption) (by rfl) ?_
  refine GW.iconst (v := 1) dX9_without_4 (by decide) ?_
  refine GW.isub dX9_without_5 ?_
  rw [mI_pred (by omega)]
  refine GW.istore3 dX9_without_6 (g := ?_)
  refine loop (szT t - 1) im mc v 0 0 (by omega) (gLe.rf _) (fun _ _ => rfl) hwk (fun q e he => ?_) (by omega) (by omega)
  obtain ⟨⟨a, h1, h2⟩, -⟩ := hent q e he
  exact ⟨a, e.1, h1, h2, ⟨rfl, ent_wf hwf he, Nat.le_refl _, Nat.le_refl _⟩, fun j x hx _ => hx⟩
end WALK
section CH
variable {G : gG} {ds : Nat → Tr} {cl : Tr} {at_ : Nat} {ss : List Int32} {ps : List (List OpT)} {qs : List (List (Int32 × Int32))}
theorem St.wk {im im' : gIm} {ad : Nat → Nat} {mc mc' : Nat → Option gC} (h : St im ad mc ds cl at_ ss ps qs) (hle : gLe im im') (ho : ∀ q, q < 14 ∨ 18 < q → mc' q = mc q) (hd : wkAny ad mc') : St im' ad mc' ds cl at_ ss ps qs := by
  obtain ⟨-, -, -, ⟨d1, d2, d3, d4⟩, -⟩ := id h
  exact h.scr hle (fun q hq => by unfold _root_.Jvm.Pilot.CMarlStoreLaw_law_r1597_55c78a.scr at hq; exact ho q (by omega)) (d1.mono (ho 4 (by omega)) (ho 5 (by omega)) (ho 6 (by omega))) (d2.mono (ho 8 (by omega))) (d3.mono (ho 9 (by omega)) (ho 10 (by omega)) (ho 11 (by omega)) (ho 12 (by omega))) hd
theorem wkT.any {im : gIm} {ad : Nat → Nat} {mc : Nat → Option gC} {t : Tr} (h : wkT im ad mc t) : wkAny ad mc := by
  obtain ⟨v, pa, st, lv, h1, -⟩ := h
  exact ⟨_, v, pa, st, lv, h1⟩
/-- only ANY, DEEP and LAST -/
def okQ (qs : List (List (Int32 × Int32))) : Prop := ∀ q ∈ qs, ∀ x ∈ q, x.1 = 1 ∨ x.1 = 2 ∨ x.1 = 3
abbrev mX10_findIn (d kc ks : Nat) : gM := (RX10, cX10_findIn, 4, (some .long), [], "findIn", d, kc, ks)
abbrev kX10_findIn (d kc ks : Nat) (as : List Value) (G : gG) (Q : Option Value → gG → Prop) (X : String → gG → Prop) : Prop := Ctr yX10_findIn cX10_findIn 4 (some .long) d kc ks as G Q X
theorem oX10_findIn {d kc ks : Nat} {as : List Value} {G : gG} {Q : Option Value → gG → Prop} {X : String → gG → Prop} {L : List (Option Value)} (hL : gEnt as = L) (hlen : (lg_sl as).length ≤ 4) (g : GW (mX10_findIn d kc ks) Q X G 0 0 0 L []) : kX10_findIn d kc ks as G Q X := Ctr.of (by decide +kernel) rfl rfl hL hlen g
theorem c_findIn {i d : Nat} (hS : St G.1 G.2.1 G.2.2 ds cl at_ ss ps qs) (hok : okQ qs) (hi : i < 6) (hd : d < 6) (ht : okD (ds d)) :
    kX10_findIn 7 1 6 [.ref (G.2.1 0), .int (nI i), .int (nI d)] G (fun v G' => ∃ q, qs[i]? = some q ∧ v = some (.long (qfV (ds d) q)) ∧ ∃ mc', (G.1, G.2.1, mc') = G' ∧ St G.1 G.2.1 mc' ds cl at_ ss ps qs ∧ wkT G.1 G.2.1 mc' (ds d)) (fun E G' => qs.length ≤ i ∧ E = xI ∧ G = G') := by
  obtain ⟨im, ad, mc⟩ := G
  obtain ⟨⟨⟨cla, a1, a2⟩, a3, a4, a5⟩, ⟨b1, b2, b3, b4⟩, ⟨c1, c2, c3⟩, ⟨d1, d2, d3, d4⟩, f9⟩ := id hS
  obtain ⟨cnt, v, pa, st, lv, hwk⟩ := id d4
  have l0 : gL (im, ad, mc) (ad 0) (.inl (10, _)) := Or.inr ⟨0, rfl, a1⟩
  refine oX10_findIn (L := [some (.ref (ad 0)), some (.int (nI i)), some (.int (nI d)), none, none, none, none, none, none, none, none, none]) rfl (Nat.le_of_ble_eq_true rfl) ?_
  refine GW.aload0 dX10_findIn_0 (g := ?_)
  refine GW.iload1 dX10_findIn_1 ?_
  refine GW.callV cv_X10_316 mt_X10_queryOf (c_queryOf (G := (im, ad, mc)) a1 c1 hi c2) dX10_findIn_2 (by first | assumption | exact isV.gl (by assumption) | exact wkAt.gl (by assumption) | exact tbAt.gl (by assumption)) rfl rfl rfl rfl (by first | (dsimp only [mX10_findIn, gM.dp, gM.kc, gM.ks]; omega) | exact Nat.le_of_ble_eq_true rfl | exact Nat.le_refl _ | omega) (by decide) (by first | omega | (dsimp only [mX10_findIn, gM.dp, gM.kc, gM.ks]; omega)) (by first | omega | (dsimp only [mX10_findIn, gM.dp, gM.kc, gM.ks]; omega)) (by first | exact Nat.le_of_ble_eq_true rfl | (simp [va_rf_cat]; done) | (simp [va_rf_cat, Value.category]; done)) rfl (fun E G' hx => hx) (fun v2 G2 hq => ?_)
  obtain ⟨hil, rfl, rfl⟩ := hq
  obtain ⟨q, hqi⟩ : ∃ q, qs[i]? = some q := ⟨_, List.getElem?_eq_getElem hil⟩
  have hqy : qyAt ad mc i q := by
    have := c3 i hi
    rw [List.getD_eq_getElem?_getD, hqi] at this
    exact this
  refine GW.widen (k' := 1) (n' := 6) (by omega) (by omega) ?_
  have l14 := wkAt.gl (G := (im, ad, mc)) hwk
  refine GW.astore3 dX10_findIn_5 (g := ?_)
  refine GW.aload0 dX10_findIn_6 (g := ?_)
  refine GW.getf fl_X10_65 dX10_findIn_7 (by assumption) (by rfl) ?_
  refine GW.aload0 dX10_findIn_10 (g := ?_)
  refine GW.iload2 dX10_findIn_11 ?_
  refine GW.callV cv_X10_85 mt_X10_wholeOf (c_wholeOf (G := (im, ad, mc)) a1 a3 hd) dX10_findIn_12 (by first | assumption | exact isV.gl (by assumption) | exact wkAt.gl (by assumption) | exact tbAt.gl (by assumption)) rfl rfl rfl rfl (by first | (dsimp only [mX10_findIn, gM.dp, gM.kc, gM.ks]; omega) | exact Nat.le_of_ble_eq_true rfl | exact Nat.le_refl _ | omega) (by decide) (by first | omega | (dsimp only [mX10_findIn, gM.dp, gM.kc, gM.ks]; omega)) (by first | omega | (dsimp only [mX10_findIn, gM.dp, gM.kc, gM.ks]; omega)) (by first | exact Nat.le_of_ble_eq_true rfl | (simp [va_rf_cat]; done) | (simp [va_rf_cat, Value.category]; done)) rfl (fun _ _ h => h.elim) (fun v12 G12 hq => ?_)
  obtain ⟨a, rfl, rfl, hv⟩ := hq
  refine GW.callV cv_X10_425 mt_X9_fill (c_fill hwk hv ht.2.1) dX10_findIn_15 (by first | assumption | exact isV.gl (by assumption) | exact wkAt.gl (by assumption) | exact tbAt.gl (by assumption)) rfl rfl rfl rfl (by first | (dsimp only [mX10_findIn, gM.dp, gM.kc, gM.ks]; omega) | exact Nat.le_of_ble_eq_true rfl | exact Nat.le_refl _ | omega) (by decide) (by first | omega | (dsimp only [mX10_findIn, gM.dp, gM.kc, gM.ks]; omega)) (by first | omega | (dsimp only [mX10_findIn, gM.dp, gM.kc, gM.ks]; omega)) (by first | exact Nat.le_of_ble_eq_true rfl | (simp [va_rf_cat]; done) | (simp [va_rf_cat, Value.category]; done)) rfl (fun _ _ h => h.elim) (fun v15 G15 hq => ?_)
  obtain ⟨rfl, mc1, rfl, ho, hwt⟩ := hq
  have hS1 : St im ad mc1 ds cl at_ ss ps qs := hS.wk (gLe.rf _) ho hwt.any
  obtain ⟨⟨⟨cla1, a11, -⟩, -⟩, -⟩ := id hS1
  have l01 : gL (im, ad, mc1) (ad 0) (.inl (10, _)) := Or.inr ⟨0, rfl, a11⟩
  have hqy1 : qyAt ad mc1 i q := hqy.mono (ho _ (by omega)) (ho _ (by omega)) (ho _ (by omega))
  have l50 : gL (im, ad, mc1) (ad (50 + i)) (.inl (6, _)) := Or.inr ⟨50 + i, rfl, hqy1.2.1⟩
  refine GW.aload3 dX10_findIn_18 (g := ?_)
  refine GW.aload0 dX10_findIn_19 (g := ?_)
  refine GW.getf fl_X10_65 dX10_findIn_20 (by assumption) (by rfl) ?_
  refine GW.callV cv_X10_430 mt_X6_findIn (c_qfindIn hwt ht.2.1 hqy1 (hok q (List.mem_of_getElem? hqi))) dX10_findIn_23 (by first | assumption | exact isV.gl (by assumption) | exact wkAt.gl (by assumption) | exact tbAt.gl (by assumption)) rfl rfl rfl rfl (by first | (dsimp only [mX10_findIn, gM.dp, gM.kc, gM.ks]; omega) | exact Nat.le_of_ble_eq_true rfl | exact Nat.le_refl _ | omega) (by decide) (by first | omega | (dsimp only [mX10_findIn, gM.dp, gM.kc, gM.ks]; omega)) (by first | omega | (dsimp only [mX10_findIn, gM.dp, gM.kc, gM.ks]; omega)) (by first | exact Nat.le_of_ble_eq_true rfl | (simp [va_rf_cat]; done) | (simp [va_rf_cat, Value.category]; done)) rfl (fun _ _ h => h.elim) (fun v23 G23 hq => ?_)
  obtain ⟨z, rfl, rfl, rfl⟩ := hq
  refine GW.lreturn dX10_findIn_26 rfl (by first | (dsimp only [mX10_findIn, gM.dp, gM.kc, gM.ks]; omega) | exact Nat.le_of_ble_eq_true rfl | exact Nat.le_refl _ | omega) (by first | (dsimp only [mX10_findIn, gM.dp, gM.kc, gM.ks]; omega) | exact Nat.le_of_ble_eq_true rfl | exact Nat.le_refl _ | omega) ?_
  exact ⟨q, hqi, rfl, mc1, rfl, hS1, hwt⟩
abbrev mX10_found (d kc ks : Nat) : gM := (RX10, cX10_found, 3, (some .int), [], "found", d, kc, ks)
abbrev kX10_found (d kc ks : Nat) (as : List Value) (G : gG) (Q : Option Value → gG → Prop) (X : String → gG → Prop) : Prop := Ctr yX10_found cX10_found 3 (some .int) d kc ks as G Q X
theorem oX10_found {d kc ks : Nat} {as : List Value} {G : gG} {Q : Option Value → gG → Prop} {X : String → gG → Prop} {L : List (Option Value)} (hL : gEnt as = L) (hlen : (lg_sl as).length ≤ 3) (g : GW (mX10_found d kc ks) Q X G 0 0 0 L []) : kX10_found d kc ks as G Q X := Ctr.of (by decide +kernel) rfl rfl hL hlen g
theorem c_found {i d : Nat} {q : List (Int32 × Int32)} (hS : St G.1 G.2.1 G.2.2 ds cl at_ ss ps qs) (hok : okQ qs) (hi : qs[i]? = some q) (hd : d < 6) (ht : okD (ds d)) :
    kX10_found 8 1 6 [.ref (G.2.1 0), .int (nI i), .int (nI d)] G (fun v G' => v = some (.int (bcI (qfV (ds d) q))) ∧ ∃ mc', (G.1, G.2.1, mc') = G' ∧ St G.1 G.2.1 mc' ds cl at_ ss ps qs) noX := by
  obtain ⟨im, ad, mc⟩ := G
  obtain ⟨⟨⟨cla, a1, a2⟩, -⟩, -, ⟨c1, c2, c3⟩, -⟩ := id hS
  have c2 : qs.length ≤ 6 := c2
  have hil : i < qs.length := (List.getElem?_eq_some_iff.mp hi).1
  have l0 : gL (im, ad, mc) (ad 0) (.inl (10, _)) := Or.inr ⟨0, rfl, a1⟩
  refine oX10_found (L := [some (.ref (ad 0)), some (.int (nI i)), some (.int (nI d)), none, none, none, none, none, none, none, none, none]) rfl (Nat.le_of_ble_eq_true rfl) ?_
  refine GW.aload0 dX10_found_0 (g := ?_)
  refine GW.iload1 dX10_found_1 ?_
  refine GW.iload2 dX10_found_2 ?_
  refine GW.callV cv_X10_331 mt_X10_findIn (c_findIn (G := (im, ad, mc)) (i := i) (d := d) hS hok (by omega) hd ht) dX10_found_3 (by first | assumption | exact isV.gl (by assumption) | exact wkAt.gl (by assumption) | exact tbAt.gl (by assumption)) rfl rfl rfl rfl (by first | (dsimp only [mX10_found, gM.dp, gM.kc, gM.ks]; omega) | exact Nat.le_of_ble_eq_true rfl | exact Nat.le_refl _ | omega) (by decide) (by first | omega | (dsimp only [mX10_found, gM.dp, gM.kc, gM.ks]; omega)) (by first | omega | (dsimp only [mX10_found, gM.dp, gM.kc, gM.ks]; omega)) (by first | exact Nat.le_of_ble_eq_true rfl | (simp [va_rf_cat]; done) | (simp [va_rf_cat, Value.category]; done)) rfl (fun E G' hx => absurd hx.1 (by omega)) (fun v3 G3 hq => ?_)
  obtain ⟨q', hq', rfl, mc1, rfl, hS1, -⟩ := hq
  cases hi.symm.trans hq'
  refine GW.callS cs_X10_335 mt_J13_bitCount_95d88 (c_bitCount (G := (im, ad, mc1)) (w := qfV (ds d) q)) dX10_found_6 rfl rfl (by first | (dsimp only [mX10_found, gM.dp, gM.kc, gM.ks]; omega) | exact Nat.le_of_ble_eq_true rfl | exact Nat.le_refl _ | omega) (by decide) (by first | omega | (dsimp only [mX10_found, gM.dp, gM.kc, gM.ks]; omega)) (by first | omega | (dsimp only [mX10_found, gM.dp, gM.kc, gM.ks]; omega)) (by first | exact Nat.le_of_ble_eq_true rfl | (simp [va_rf_cat]; done) | (simp [va_rf_cat, Value.category]; done)) rfl (fun _ _ h => h.elim) (fun v6 G6 hq => ?_)
  obtain ⟨z, rfl, rfl, rfl⟩ := hq
  refine GW.ireturn dX10_found_9 (Or.inl rfl) (by first | (dsimp only [mX10_found, gM.dp, gM.kc, gM.ks]; omega) | exact Nat.le_of_ble_eq_true rfl | exact Nat.le_refl _ | omega) (by first | (dsimp only [mX10_found, gM.dp, gM.kc, gM.ks]; omega) | exact Nat.le_of_ble_eq_true rfl | exact Nat.le_refl _ | omega) ?_
  exact ⟨rfl, mc1, rfl, hS1⟩
abbrev mX10_dropFound (d kc ks : Nat) : gM := (RX10, cX10_dropFound, 3, (some .int), [], "dropFound", d, kc, ks)
abbrev kX10_dropFound (d kc ks : Nat) (as : List Value) (G : gG) (Q : Option Value → gG → Prop) (X : String → gG → Prop) : Prop := Ctr yX10_dropFound cX10_dropFound 3 (some .int) d kc ks as G Q X
theorem oX10_dropFound {d kc ks : Nat} {as : List Value} {G : gG} {Q : Option Value → gG → Prop} {X : String → gG → Prop} {L : List (Option Value)} (hL : gEnt as = L) (hlen : (lg_sl as).length ≤ 3) (g : GW (mX10_dropFound d kc ks) Q X G 0 0 0 L []) : kX10_dropFound d kc ks as G Q X := Ctr.of (by decide +kernel) rfl rfl hL hlen g
theorem c_dropFound {d : Nat} (hS : St G.1 G.2.1 G.2.2 ds cl at_ ss ps qs) (hok : okQ qs) (hd : d < 6) (ht : okD (ds d)) :
    kX10_dropFound 8 151 5406 [.ref (G.2.1 0), .int 0, .int (nI d)] G (fun v G' => (∃ w, v = some (.int w)) ∧ ∃ im' mc' u, gLe G.1 im' ∧ (im', G.2.1, mc') = G' ∧ okD u ∧ St im' G.2.1 mc' (updD ds d u) cl at_ (if at_ = d then ss.take (stl u ss) else ss) ps qs) (fun E G' => E = xI ∧ G = G') := by
  obtain ⟨im, ad, mc⟩ := G
  obtain ⟨⟨⟨cla, a1, a2⟩, a3, a4, a5⟩, ⟨b1, b2, b3, b4⟩, ⟨c1, c2, c3⟩, ⟨d1, d2, d3, d4⟩, f9⟩ := id hS
  obtain ⟨cnt, v, pa, st, lv, hwk⟩ := id d4
  have l0 : gL (im, ad, mc) (ad 0) (.inl (10, _)) := Or.inr ⟨0, rfl, a1⟩
  refine oX10_dropFound (L := [some (.ref (ad 0)), some (.int 0), some (.int (nI d)), none, none, none, none, none, none, none, none, none]) rfl (Nat.le_of_ble_eq_true rfl) ?_
  refine GW.aload0 dX10_dropFound_0 (g := ?_)
  refine GW.iload2 dX10_dropFound_1 ?_
  refine GW.aload0 dX10_dropFound_2 (g := ?_)
  refine GW.getf fl_X10_65 dX10_dropFound_3 (by assumption) (by rfl) ?_
  refine GW.aload0 dX10_dropFound_6 (g := ?_)
  refine GW.iload1 dX10_dropFound_7 ?_
  refine GW.iload2 dX10_dropFound_8 ?_
  refine GW.callV cv_X10_331 mt_X10_findIn (c_findIn (G := (im, ad, mc)) (i := 0) (d := d) hS hok (by omega) hd ht) dX10_dropFound_9 (by first | assumption | exact isV.gl (by assumption) | exact wkAt.gl (by assumption) | exact tbAt.gl (by assumption)) rfl rfl rfl rfl (by first | (dsimp only [mX10_dropFound, gM.dp, gM.kc, gM.ks]; omega) | exact Nat.le_of_ble_eq_true rfl | exact Nat.le_refl _ | omega) (by decide) (by first | omega | (dsimp only [mX10_dropFound, gM.dp, gM.kc, gM.ks]; omega)) (by first | omega | (dsimp only [mX10_dropFound, gM.dp, gM.kc, gM.ks]; omega)) (by first | exact Nat.le_of_ble_eq_true rfl | (simp [va_rf_cat]; done) | (simp [va_rf_cat, Value.category]; done)) rfl (fun E G' hx => ⟨hx.2.1, hx.2.2⟩) (fun v9 G9 hq => ?_)
  obtain ⟨q', hq', rfl, mc1, rfl, hS1, hwt⟩ := hq
  obtain ⟨v1, pa1, st1, lv1, hwk1, -⟩ := id hwt
  have l14 := wkAt.gl (G := (im, ad, mc1)) hwk1
  have f91 : frG (im, ad, mc1) := hS1.2.2.2.2
  refine GW.callV cv_X10_363 mt_X9_without (c_without (w := qfV (ds d) q') hwt ht.1 ht.2.1 f91) dX10_dropFound_12 (by first | assumption | exact isV.gl (by assumption) | exact wkAt.gl (by assumption) | exact tbAt.gl (by assumption)) rfl rfl rfl rfl (by first | (dsimp only [mX10_dropFound, gM.dp, gM.kc, gM.ks]; omega) | exact Nat.le_of_ble_eq_true rfl | exact Nat.le_refl _ | omega) (by decide) (by first | omega | (dsimp only [mX10_dropFound, gM.dp, gM.kc, gM.ks]; omega)) (by first | omega | (dsimp only [mX10_dropFound, gM.dp, gM.kc, gM.ks]; omega)) (by first | exact Nat.le_of_ble_eq_true rfl | (simp [va_rf_cat]; done) | (simp [va_rf_cat, Value.category]; done)) rfl (fun _ _ h => h.elim) (fun v12 G12 hq => ?_)
  obtain ⟨a, u, im2, mc2, rfl, hle, rfl, ho2, hv2, hls, hany⟩ := hq
  have hu : okD u := ⟨hls.2.1, Nat.le_trans hls.2.2.1 ht.2.1, Nat.le_trans hls.2.2.2 ht.2.2⟩
  have hS2 : St im2 ad mc2 ds cl at_ ss ps qs := hS1.wk hle (fun q hq => ho2 q (by omega)) hany
  obtain ⟨⟨⟨cla2, a12, a22⟩, a32, a42, a52⟩, -⟩ := id hS2
  have l02 : gL (im2, ad, mc2) (ad 0) (.inl (10, _)) := Or.inr ⟨0, rfl, a12⟩
  refine GW.callV cv_X10_216 mt_X10_changeTo (c_changeTo (G := (im2, ad, mc2)) (d := d) (b := a) (t := u) a12 a32 a42 a52 hd hv2 hu.sml) dX10_dropFound_15 (by first | assumption | exact isV.gl (by assumption) | exact wkAt.gl (by assumption) | exact tbAt.gl (by assumption)) rfl rfl rfl rfl (by first | (dsimp only [mX10_dropFound, gM.dp, gM.kc, gM.ks]; omega) | exact Nat.le_of_ble_eq_true rfl | exact Nat.le_refl _ | omega) (by decide) (by first | omega | (dsimp only [mX10_dropFound, gM.dp, gM.kc, gM.ks]; omega)) (by first | omega | (dsimp only [mX10_dropFound, gM.dp, gM.kc, gM.ks]; omega)) (by first | exact Nat.le_of_ble_eq_true rfl | (simp [va_rf_cat]; done) | (simp [va_rf_cat, Value.category]; done)) rfl (fun _ _ h => h.elim) (fun v15 G15 hq => ?_)
  obtain ⟨rfl, mc3, rfl, ho3, hdc3, hpt3⟩ := hq
  have hS3 : St im2 ad mc3 (updD ds d u) cl at_ (if at_ = d then ss.take (stl u ss) else ss) ps qs := hS2.doc (fun q h1 h2 _ => ho3 q h1 h2) hdc3 hpt3 a52
  obtain ⟨⟨⟨cla3, a13, a23⟩, a33, a43, a53⟩, -⟩ := id hS3
  have l03 : gL (im2, ad, mc3) (ad 0) (.inl (10, _)) := Or.inr ⟨0, rfl, a13⟩
  refine GW.aload0 dX10_dropFound_18 (g := ?_)
  refine GW.iload2 dX10_dropFound_19 ?_
  refine GW.callV cv_X10_85 mt_X10_wholeOf (c_wholeOf (G := (im2, ad, mc3)) a13 a33 hd) dX10_dropFound_20 (by first | assumption | exact isV.gl (by assumption) | exact wkAt.gl (by assumption) | exact tbAt.gl (by assumption)) rfl rfl rfl rfl (by first | (dsimp only [mX10_dropFound, gM.dp, gM.kc, gM.ks]; omega) | exact Nat.le_of_ble_eq_true rfl | exact Nat.le_refl _ | omega) (by decide) (by first | omega | (dsimp only [mX10_dropFound, gM.dp, gM.kc, gM.ks]; omega)) (by first | omega | (dsimp only [mX10_dropFound, gM.dp, gM.kc, gM.ks]; omega)) (by first | exact Nat.le_of_ble_eq_true rfl | (simp [va_rf_cat]; done) | (simp [va_rf_cat, Value.category]; done)) rfl (fun _ _ h => h.elim) (fun v20 G20 hq => ?_)
  obtain ⟨b, rfl, rfl, hvb⟩ := hq
  obtain ⟨kr, pq, hnd, -, -⟩ := hvb.node
  have lb : gL (im2, ad, mc3) b (.inl (8, _)) := Or.inl hnd
  refine GW.getf fl_X10_145 dX10_dropFound_23 (by assumption) (by rfl) ?_
  refine GW.ireturn dX10_dropFound_26 (Or.inl rfl) (by first | (dsimp only [mX10_dropFound, gM.dp, gM.kc, gM.ks]; omega) | exact Nat.le_of_ble_eq_true rfl | exact Nat.le_refl _ | omega) (by first | (dsimp only [mX10_dropFound, gM.dp, gM.kc, gM.ks]; omega) | exact Nat.le_of_ble_eq_true rfl | exact Nat.le_refl _ | omega) ?_
  exact ⟨⟨_, rfl⟩, im2, mc3, u, hle, rfl, hu, hS3⟩
end CH
