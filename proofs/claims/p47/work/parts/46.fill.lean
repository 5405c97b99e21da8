/-! THE WALK: enter, valueAt, above, stepTo, fill -/
section WALK
variable {im : gIm} {ad : Nat → Nat} {mc : Nat → Option gC} {cnt : Int32} {v : Nat → Option Nat} {pa st lv : Nat → Int32}
theorem wkAt.gl {G : gG} {cnt : Int32} {v : Nat → Option Nat} {pa st lv : Nat → Int32} (h : wkAt G.2.1 G.2.2 cnt v pa st lv) : gL G (G.2.1 14) (.inl (9, [.int cnt, .ref (G.2.1 15), .ref (G.2.1 16), .ref (G.2.1 17), .ref (G.2.1 18)])) := Or.inr ⟨14, rfl, h.1⟩
abbrev mX9_enter (d kc ks : Nat) : gM := (RX9, cX9_enter, 6, none, [], "enter", d, kc, ks)
abbrev kX9_enter (d kc ks : Nat) (as : List Value) (G : gG) (Q : Option Value → gG → Prop) (X : String → gG → Prop) : Prop := Ctr yX9_enter cX9_enter 6 none d kc ks as G Q X
theorem oX9_enter {d kc ks : Nat} {as : List Value} {G : gG} {Q : Option Value → gG → Prop} {X : String → gG → Prop} {L : List (Option Value)} (hL : gEnt as = L) (hlen : (lg_sl as).length ≤ 6) (g : GW (mX9_enter d kc ks) Q X G 0 0 0 L []) : kX9_enter d kc ks as G Q X := Ctr.of (by decide +kernel) rfl rfl hL hlen g
theorem c_enter {a p : Nat} {t : Tr} {par s l : Int32} (hw : wkAt ad mc cnt v pa st lv) (hv : isV im a t) (hp : p < 50) :
    kX9_enter 0 0 0 [.ref (ad 14), .int (nI p), .ref a, .int par, .int s, .int l] (im, ad, mc) (fun r G' => r = none ∧ ∃ mc', (im, ad, mc') = G' ∧ (∀ q, q < 15 ∨ 18 < q → mc' q = mc q) ∧ wkAt ad mc' cnt (va_up v p (some a)) (upd pa p par) (upd st p s) (upd lv p l)) noX := by
  obtain ⟨h14, h15, h16, h17, h18⟩ := id hw
  have l14 := wkAt.gl (G := (im, ad, mc)) hw
  have hix : gIx (nI p) p 50 := mI_ix hp (by omega)
  obtain ⟨kr, pq, hnd, -, -⟩ := hv.node
  refine oX9_enter (L := [some (.ref (ad 14)), some (.int (nI p)), some (.ref a), some (.int par), some (.int s), some (.int l), none, none, none, none, none, none]) rfl (Nat.le_of_ble_eq_true rfl) ?_
  refine GW.iload1 dX9_enter_0 ?_
  refine GW.if_lt (tgt := 40) dX9_enter_1 (by decide) (fun h1 => ?_) (fun h1 => ?_)
  · exact absurd h1 (mI_nonneg (by omega))
  · refine GW.iload1 dX9_enter_4 ?_
    refine GW.bipush (v := 50) dX9_enter_5 (by decide) ?_
    refine GW.icmp_ge (tgt := 40) dX9_enter_7 (by decide) (fun h7 => ?_) (fun h7 => ?_)
    · exact absurd ((mI_le (a := 50) (by omega) (by omega)).mp h7) (by omega)
    · refine GW.aload0 dX9_enter_10 (g := ?_)
      refine GW.getf fl_X9_11 dX9_enter_11 (by assumption) (by rfl) ?_
      refine GW.iload1 dX9_enter_14 ?_
      refine GW.aload2 dX9_enter_15 (g := ?_)
      refine GW.aast (v := some a) (r := 15) dX9_enter_16 h15 hix (by decide) rfl (fun w hw => by cases hw; exact ⟨_, Or.inl hnd⟩) ?_
      rw [gS_tri]
      obtain ⟨mc1, hm1⟩ : ∃ mc1, mc1 = (fun q => if q = 15 then some (.inr (1, 50, .inr (va_up v p (some a)))) else mc q : Nat → Option gC) := ⟨_, rfl⟩
      rw [← hm1]
      have ko1 : ∀ q, q ≠ 15 → mc1 q = mc q := fun q hq => by rw [hm1]; exact if_neg hq
      have k15 : mc1 15 = some (.inr (1, 50, .inr (va_up v p (some a)))) := by rw [hm1]; exact if_pos rfl
      have w1 : wkAt ad mc1 cnt (va_up v p (some a)) pa st lv := ⟨(ko1 14 (by decide)).trans h14, k15, (ko1 16 (by decide)).trans h16, (ko1 17 (by decide)).trans h17, (ko1 18 (by decide)).trans h18⟩
      have l14 := wkAt.gl (G := (im, ad, mc1)) w1
      have g16 := w1.2.2.1
      refine GW.aload0 dX9_enter_17 (g := ?_)
      refine GW.getf fl_X9_17 dX9_enter_18 (by assumption) (by rfl) ?_
      refine GW.iload1 dX9_enter_21 ?_
      refine GW.iload3 dX9_enter_22 ?_
      refine GW.iast (r := 16) dX9_enter_23 (by first | assumption | rfl) (by assumption) (by first | assumption | rfl) ?_
      rw [gS_tri]
      obtain ⟨mc2, hm2⟩ : ∃ mc2, mc2 = (fun q => if q = 16 then some (.inr (0, 50, .inl (upd pa p par))) else mc1 q : Nat → Option gC) := ⟨_, rfl⟩
      rw [← hm2]
      have ko2 : ∀ q, q ≠ 16 → mc2 q = mc1 q := fun q hq => by rw [hm2]; exact if_neg hq
      have k16 : mc2 16 = some (.inr (0, 50, .inl (upd pa p par))) := by rw [hm2]; exact if_pos rfl
      have w2 : wkAt ad mc2 cnt (va_up v p (some a)) (upd pa p par) st lv := ⟨(ko2 14 (by decide)).trans w1.1, (ko2 15 (by decide)).trans w1.2.1, k16, (ko2 17 (by decide)).trans w1.2.2.2.1, (ko2 18 (by decide)).trans w1.2.2.2.2⟩
      have l14 := wkAt.gl (G := (im, ad, mc2)) w2
      have g17 := w2.2.2.2.1
      refine GW.aload0 dX9_enter_24 (g := ?_)
      refine GW.getf fl_X9_21 dX9_enter_25 (by assumption) (by rfl) ?_
      refine GW.iload1 dX9_enter_28 ?_
      refine GW.iload4 dX9_enter_29 ?_
      refine GW.iast (r := 17) dX9_enter_31 (by first | assumption | rfl) (by assumption) (by first | assumption | rfl) ?_
      rw [gS_tri]
      obtain ⟨mc3, hm3⟩ : ∃ mc3, mc3 = (fun q => if q = 17 then some (.inr (0, 50, .inl (upd st p s))) else mc2 q : Nat → Option gC) := ⟨_, rfl⟩
      rw [← hm3]
      have ko3 : ∀ q, q ≠ 17 → mc3 q = mc2 q := fun q hq => by rw [hm3]; exact if_neg hq
      have k17 : mc3 17 = some (.inr (0, 50, .inl (upd st p s))) := by rw [hm3]; exact if_pos rfl
      have w3 : wkAt ad mc3 cnt (va_up v p (some a)) (upd pa p par) (upd st p s) lv := ⟨(ko3 14 (by decide)).trans w2.1, (ko3 15 (by decide)).trans w2.2.1, (ko3 16 (by decide)).trans w2.2.2.1, k17, (ko3 18 (by decide)).trans w2.2.2.2.2⟩
      have l14 := wkAt.gl (G := (im, ad, mc3)) w3
      have g18 := w3.2.2.2.2
      refine GW.aload0 dX9_enter_32 (g := ?_)
      refine GW.getf fl_X9_24 dX9_enter_33 (by assumption) (by rfl) ?_
      refine GW.iload1 dX9_enter_36 ?_
      refine GW.iload5 dX9_enter_37 ?_
      refine GW.iast (r := 18) dX9_enter_39 (by first | assumption | rfl) (by assumption) (by first | assumption | rfl) ?_
      rw [gS_tri]
      refine GW.vreturn dX9_enter_40 rfl (by first | (dsimp only [mX9_enter, gM.dp, gM.kc, gM.ks]; omega) | exact Nat.le_of_ble_eq_true rfl | exact Nat.le_refl _ | omega) (by first | (dsimp only [mX9_enter, gM.dp, gM.kc, gM.ks]; omega) | exact Nat.le_of_ble_eq_true rfl | exact Nat.le_refl _ | omega) ?_
      refine ⟨rfl, _, rfl, fun q hq => (if_neg (by omega)).trans ((ko3 q (by omega)).trans ((ko2 q (by omega)).trans (ko1 q (by omega)))), (if_neg (by decide)).trans w3.1, (if_neg (by decide)).trans w3.2.1, (if_neg (by decide)).trans w3.2.2.1, (if_neg (by decide)).trans w3.2.2.2.1, if_pos rfl⟩
abbrev mX9_valueAt (d kc ks : Nat) : gM := (RX9, cX9_valueAt, 2, (some (.object "MarlStore$Value")), [], "valueAt", d, kc, ks)
abbrev kX9_valueAt (d kc ks : Nat) (as : List Value) (G : gG) (Q : Option Value → gG → Prop) (X : String → gG → Prop) : Prop := Ctr yX9_valueAt cX9_valueAt 2 (some (.object "MarlStore$Value")) d kc ks as G Q X
theorem oX9_valueAt {d kc ks : Nat} {as : List Value} {G : gG} {Q : Option Value → gG → Prop} {X : String → gG → Prop} {L : List (Option Value)} (hL : gEnt as = L) (hlen : (lg_sl as).length ≤ 2) (g : GW (mX9_valueAt d kc ks) Q X G 0 0 0 L []) : kX9_valueAt d kc ks as G Q X := Ctr.of (by decide +kernel) rfl rfl hL hlen g
theorem c_valueAt {p n : Nat} (hw : wkAt ad mc (nI n) v pa st lv) (hp : p < n) (hn : n ≤ 50) :
    kX9_valueAt 0 0 0 [.ref (ad 14), .int (nI p)] (im, ad, mc) (ans (im, ad, mc) (fun w => w = va_rf (v p))) noX := by
  obtain ⟨h14, h15, h16, h17, h18⟩ := id hw
  have l14 := wkAt.gl (G := (im, ad, mc)) hw
  have l15 : gL (im, ad, mc) (ad 15) (.inr (1, 50, .inr v)) := Or.inr ⟨15, rfl, h15⟩
  have hix : gIx (nI p) p 50 := mI_ix (by omega) (by omega)
  refine oX9_valueAt (L := [some (.ref (ad 14)), some (.int (nI p)), none, none, none, none, none, none, none, none, none, none]) rfl (Nat.le_of_ble_eq_true rfl) ?_
  refine GW.iload1 dX9_valueAt_0 ?_
  refine GW.if_lt (tgt := 27) dX9_valueAt_1 (by decide) (fun h1 => ?_) (fun h1 => ?_)
  · exact absurd h1 (mI_nonneg (by omega))
  · refine GW.iload1 dX9_valueAt_4 ?_
    refine GW.aload0 dX9_valueAt_5 (g := ?_)
    refine GW.getf fl_X9_37 dX9_valueAt_6 (by assumption) (by rfl) ?_
    refine GW.icmp_ge (tgt := 27) dX9_valueAt_9 (by decide) (fun h9 => ?_) (fun h9 => ?_)
    · exact absurd ((mI_le (by omega) (by omega)).mp h9) (by omega)
    · refine GW.iload1 dX9_valueAt_12 ?_
      refine GW.bipush (v := 50) dX9_valueAt_13 (by decide) ?_
      refine GW.icmp_ge (tgt := 27) dX9_valueAt_15 (by decide) (fun h15 => ?_) (fun h15 => ?_)
      · exact absurd ((mI_le (a := 50) (by omega) (by omega)).mp h15) (by omega)
      · refine GW.aload0 dX9_valueAt_18 (g := ?_)
        refine GW.getf fl_X9_11 dX9_valueAt_19 (by assumption) (by rfl) ?_
        refine GW.iload1 dX9_valueAt_22 ?_
        refine GW.aald dX9_valueAt_23 (by assumption) (by assumption) (by decide) ?_
        refine GW.goto (tgt := 28) dX9_valueAt_24 (by decide) ?_
        refine GW.areturn dX9_valueAt_28 (Or.inl ⟨_, rfl⟩) (by first | (dsimp only [mX9_valueAt, gM.dp, gM.kc, gM.ks]; omega) | exact Nat.le_of_ble_eq_true rfl | exact Nat.le_refl _ | omega) (by first | (dsimp only [mX9_valueAt, gM.dp, gM.kc, gM.ks]; omega) | exact Nat.le_of_ble_eq_true rfl | exact Nat.le_refl _ | omega) ?_
        exact ⟨_, rfl, rfl, rfl⟩
abbrev mX9_above (d kc ks : Nat) : gM := (RX9, cX9_above, 2, (some .int), [], "above", d, kc, ks)
abbrev kX9_above (d kc ks : Nat) (as : List Value) (G : gG) (Q : Option Value → gG → Prop) (X : String → gG → Prop) : Prop := Ctr yX9_above cX9_above 2 (some .int) d kc ks as G Q X
theorem oX9_above {d kc ks : Nat} {as : List Value} {G : gG} {Q : Option Value → gG → Prop} {X : String → gG → Prop} {L : List (Option Value)} (hL : gEnt as = L) (hlen : (lg_sl as).length ≤ 2) (g : GW (mX9_above d kc ks) Q X G 0 0 0 L []) : kX9_above d kc ks as G Q X := Ctr.of (by decide +kernel) rfl rfl hL hlen g
theorem c_above {p : Nat} (hw : wkAt ad mc cnt v pa st lv) (hp : p < 50) :
    kX9_above 0 0 0 [.ref (ad 14), .int (nI p)] (im, ad, mc) (ans (im, ad, mc) (fun w => w = .int (if p = 0 then 0 else pa p))) noX := by
  obtain ⟨h14, h15, h16, h17, h18⟩ := id hw
  have l14 := wkAt.gl (G := (im, ad, mc)) hw
  have l16 : gL (im, ad, mc) (ad 16) (.inr (0, 50, .inl pa)) := Or.inr ⟨16, rfl, h16⟩
  have hix : gIx (nI p) p 50 := mI_ix (by omega) (by omega)
  refine oX9_above (L := [some (.ref (ad 14)), some (.int (nI p)), none, none, none, none, none, none, none, none, none, none]) rfl (Nat.le_of_ble_eq_true rfl) ?_
  refine GW.iload1 dX9_above_0 ?_
  refine GW.if_le (tgt := 19) dX9_above_1 (by decide) (fun h1 => ?_) (fun h1 => ?_)
  · have hz : p = 0 := by
      have := (mI_le (b := 0) (by omega) (by omega)).mp h1
      omega
    refine GW.iconst (v := 0) dX9_above_19 (by decide) ?_
    refine GW.ireturn dX9_above_20 (Or.inl rfl) (by first | (dsimp only [mX9_above, gM.dp, gM.kc, gM.ks]; omega) | exact Nat.le_of_ble_eq_true rfl | exact Nat.le_refl _ | omega) (by first | (dsimp only [mX9_above, gM.dp, gM.kc, gM.ks]; omega) | exact Nat.le_of_ble_eq_true rfl | exact Nat.le_refl _ | omega) ?_
    exact ⟨_, rfl, rfl, by rw [if_pos hz]⟩
  · have hz : p ≠ 0 := fun e => h1 (by rw [e]; decide)
    refine GW.iload1 dX9_above_4 ?_
    refine GW.bipush (v := 50) dX9_above_5 (by decide) ?_
    refine GW.icmp_ge (tgt := 19) dX9_above_7 (by decide) (fun h7 => ?_) (fun h7 => ?_)
    · exact absurd ((mI_le (a := 50) (by omega) (by omega)).mp h7) (by omega)
    · refine GW.aload0 dX9_above_10 (g := ?_)
      refine GW.getf fl_X9_17 dX9_above_11 (by assumption) (by rfl) ?_
      refine GW.iload1 dX9_above_14 ?_
      refine GW.iald dX9_above_15 (by assumption) (by assumption) ?_
      refine GW.goto (tgt := 20) dX9_above_16 (by decide) ?_
      refine GW.ireturn dX9_above_20 (Or.inl rfl) (by first | (dsimp only [mX9_above, gM.dp, gM.kc, gM.ks]; omega) | exact Nat.le_of_ble_eq_true rfl | exact Nat.le_refl _ | omega) (by first | (dsimp only [mX9_above, gM.dp, gM.kc, gM.ks]; omega) | exact Nat.le_of_ble_eq_true rfl | exact Nat.le_refl _ | omega) ?_
      exact ⟨_, rfl, rfl, by rw [if_neg hz]⟩
abbrev mX9_stepTo (d kc ks : Nat) : gM := (RX9, cX9_stepTo, 2, (some .int), [], "stepTo", d, kc, ks)
abbrev kX9_stepTo (d kc ks : Nat) (as : List Value) (G : gG) (Q : Option Value → gG → Prop) (X : String → gG → Prop) : Prop := Ctr yX9_stepTo cX9_stepTo 2 (some .int) d kc ks as G Q X
theorem oX9_stepTo {d kc ks : Nat} {as : List Value} {G : gG} {Q : Option Value → gG → Prop} {X : String → gG → Prop} {L : List (Option Value)} (hL : gEnt as = L) (hlen : (lg_sl as).length ≤ 2) (g : GW (mX9_stepTo d kc ks) Q X G 0 0 0 L []) : kX9_stepTo d kc ks as G Q X := Ctr.of (by decide +kernel) rfl rfl hL hlen g
theorem c_stepTo {p : Nat} (hw : wkAt ad mc cnt v pa st lv) (hp : p < 50) :
    kX9_stepTo 0 0 0 [.ref (ad 14), .int (nI p)] (im, ad, mc) (ans (im, ad, mc) (fun w => w = .int (if p = 0 then 0 else st p))) noX := by
  obtain ⟨h14, h15, h16, h17, h18⟩ := id hw
  have l14 := wkAt.gl (G := (im, ad, mc)) hw
  have l17 : gL (im, ad, mc) (ad 17) (.inr (0, 50, .inl st)) := Or.inr ⟨17, rfl, h17⟩
  have hix : gIx (nI p) p 50 := mI_ix (by omega) (by omega)
  refine oX9_stepTo (L := [some (.ref (ad 14)), some (.int (nI p)), none, none, none, none, none, none, none, none, none, none]) rfl (Nat.le_of_ble_eq_true rfl) ?_
  refine GW.iload1 dX9_stepTo_0 ?_
  refine GW.if_le (tgt := 19) dX9_stepTo_1 (by decide) (fun h1 => ?_) (fun h1 => ?_)
  · have hz : p = 0 := by
      have := (mI_le (b := 0) (by omega) (by omega)).mp h1
      omega
    refine GW.iconst (v := 0) dX9_stepTo_19 (by decide) ?_
    refine GW.ireturn dX9_stepTo_20 (Or.inl rfl) (by first | (dsimp only [mX9_stepTo, gM.dp, gM.kc, gM.ks]; omega) | exact Nat.le_of_ble_eq_true rfl | exact Nat.le_refl _ | omega) (by first | (dsimp only [mX9_stepTo, gM.dp, gM.kc, gM.ks]; omega) | exact Nat.le_of_ble_eq_true rfl | exact Nat.le_refl _ | omega) ?_
    exact ⟨_, rfl, rfl, by rw [if_pos hz]⟩
  · have hz : p ≠ 0 := fun e => h1 (by rw [e]; decide)
    refine GW.iload1 dX9_stepTo_4 ?_
    refine GW.bipush (v := 50) dX9_stepTo_5 (by decide) ?_
    refine GW.icmp_ge (tgt := 19) dX9_stepTo_7 (by decide) (fun h7 => ?_) (fun h7 => ?_)
    · exact absurd ((mI_le (a := 50) (by omega) (by omega)).mp h7) (by omega)
    · refine GW.aload0 dX9_stepTo_10 (g := ?_)
      refine GW.getf fl_X9_21 dX9_stepTo_11 (by assumption) (by rfl) ?_
      refine GW.iload1 dX9_stepTo_14 ?_
      refine GW.iald dX9_stepTo_15 (by assumption) (by assumption) ?_
      refine GW.goto (tgt := 20) dX9_stepTo_16 (by decide) ?_
      refine GW.ireturn dX9_stepTo_20 (Or.inl rfl) (by first | (dsimp only [mX9_stepTo, gM.dp, gM.kc, gM.ks]; omega) | exact Nat.le_of_ble_eq_true rfl | exact Nat.le_refl _ | omega) (by first | (dsimp only [mX9_stepTo, gM.dp, gM.kc, gM.ks]; omega) | exact Nat.le_of_ble_eq_true rfl | exact Nat.le_refl _ | omega) ?_
      exact ⟨_, rfl, rfl, by rw [if_neg hz]⟩
/-- the place q of the walk is right -/
def wkR (im : gIm) (v : Nat → Option Nat) (pa st lv : Nat → Int32) (q : Nat) (e : Ent) : Prop := (∃ a, v q = some a ∧ isV im a e.1) ∧ pa q = nI e.2.1 ∧ st q = e.2.2.1 ∧ lv q = nI e.2.2.2
/-- the walk is through the tree t -/
def wkT (im : gIm) (ad : Nat → Nat) (mc : Nat → Option gC) (t : Tr) : Prop := ∃ v pa st lv, wkAt ad mc (nI (szT t)) v pa st lv ∧ ∀ q e, entE t q = some e → wkR im v pa st lv q e
theorem wkR.up {q p : Nat} {e : Ent} {a : Nat} {par s l : Int32} (h : wkR im v pa st lv q e) (hne : q ≠ p) : wkR im (va_up v p (some a)) (upd pa p par) (upd st p s) (upd lv p l) q e := by
  obtain ⟨⟨b, h1, h2⟩, h3, h4, h5⟩ := h
  exact ⟨⟨b, by simp [va_up, hne, h1], h2⟩, by simp [upd, hne, h3], by simp [upd, hne, h4], by simp [upd, hne, h5]⟩
abbrev mX9_fill (d kc ks : Nat) : gM := (RX9, cX9_fill, 7, none, [], "fill", d, kc, ks)
abbrev kX9_fill (d kc ks : Nat) (as : List Value) (G : gG) (Q : Option Value → gG → Prop) (X : String → gG → Prop) : Prop := Ctr yX9_fill cX9_fill 7 none d kc ks as G Q X
theorem oX9_fill {d kc ks : Nat} {as : List Value} {G : gG} {Q : Option Value → gG → Prop} {X : String → gG → Prop} {L : List (Option Value)} (hL : gEnt as = L) (hlen : (lg_sl as).length ≤ 7) (g : GW (mX9_fill d kc ks) Q X G 0 0 0 L []) : kX9_fill d kc ks as G Q X := Ctr.of (by decide +kernel) rfl rfl hL hlen g
set_option maxHeartbeats 2000000 in
theorem c_fill {a : Nat} {t : Tr} (hw : wkAt ad mc cnt v pa st lv) (hv : isV im a t) (hs : szT t ≤ 50) :
    kX9_fill 1 0 0 [.ref (ad 14), .ref a] (im, ad, mc) (fun r G' => r = none ∧ ∃ mc', (im, ad, mc') = G' ∧ (∀ q, q < 14 ∨ 18 < q → mc' q = mc q) ∧ wkT im ad mc' t) noX := by
  obtain ⟨h14, h15, h16, h17, h18⟩ := id hw
  have hst : sml t := by unfold sml; omega
  have hpos := szT_pos t
  obtain ⟨kr, pq, hnd, -, -⟩ := hv.node
  have la : gL (im, ad, mc) a (.inl (8, _)) := Or.inl hnd
  refine oX9_fill (L := [some (.ref (ad 14)), some (.ref a), none, none, none, none, none, none, none, none, none, none]) rfl (Nat.le_of_ble_eq_true rfl) ?_
  generalize hQ : (fun (r : Option Value) (G' : gG) => r = none ∧ ∃ mc', (im, ad, mc') = G' ∧ (∀ q, q < 14 ∨ 18 < q → mc' q = mc q) ∧ wkT im ad mc' t) = Q
  refine GW.aload0 dX9_fill_0 (g := ?_)
  refine GW.aload1 dX9_fill_1 (g := ?_)
  refine GW.getf fl_X9_27 dX9_fill_2 (by assumption) (by rfl) ?_
  refine GW.bipush (v := 50) dX9_fill_5 (by decide) ?_
  refine GW.mmin cs_X9_31 dX9_fill_7 min_w m_ini (by first | exact Nat.le_of_ble_eq_true rfl | omega) (by first | (dsimp only [mX9_fill, gM.dp, gM.kc, gM.ks]; omega) | exact Nat.le_of_ble_eq_true rfl | omega) (by first | (dsimp only [mX9_fill, gM.dp, gM.kc, gM.ks]; omega) | exact Nat.le_of_ble_eq_true rfl | omega) (by first | exact Nat.le_of_ble_eq_true rfl | (simp [va_rf_cat]; done)) ?_
  rw [show (if (50 : Int32) < nI (szT t) then (50 : Int32) else nI (szT t)) = nI (szT t) from by
    rw [if_neg]
    exact fun h => absurd ((mI_lt (a := 50) (by omega) (by omega)).mp h) (by omega)]
  generalize hz : nI (szT t) = z
  refine GW.putf (M := mX9_fill 1 0 0) (pc := 10) (r := 14) (fs := [.int cnt, .ref (ad 15), .ref (ad 16), .ref (ad 17), .ref (ad 18)]) fl_X9_37 dX9_fill_10 h14 (Nat.le_of_ble_eq_true rfl) ⟨rfl, rfl⟩ (Or.inl rfl) rfl ?_
  subst hz
  obtain ⟨mc0, hm0⟩ : ∃ mc0, mc0 = (fun q => if q = 14 then some (.inl (9, [.int (nI (szT t)), .ref (ad 15), .ref (ad 16), .ref (ad 17), .ref (ad 18)])) else mc q : Nat → Option gC) := ⟨_, rfl⟩
  rw [show gS (im, ad, mc) 14 (.inl (9, [Value.int cnt, .ref (ad 15), .ref (ad 16), .ref (ad 17), .ref (ad 18)].set 0 (.int (nI (szT t))))) = (im, ad, mc0) from by rw [hm0]; rfl]
  have ko0 : ∀ q, q ≠ 14 → mc0 q = mc q := fun q hq => by rw [hm0]; exact if_neg hq
  have w0 : wkAt ad mc0 (nI (szT t)) v pa st lv := ⟨by rw [hm0]; exact if_pos rfl, (ko0 15 (by decide)).trans h15, (ko0 16 (by decide)).trans h16, (ko0 17 (by decide)).trans h17, (ko0 18 (by decide)).trans h18⟩
  have l14 := wkAt.gl (G := (im, ad, mc0)) w0
  refine GW.aload0 dX9_fill_13 (g := ?_)
  refine GW.iconst (v := 0) dX9_fill_14 (by decide) ?_
  refine GW.aload1 dX9_fill_15 (g := ?_)
  refine GW.iconst (v := 0) dX9_fill_16 (by decide) ?_
  refine GW.iconst (v := 0) dX9_fill_17 (by decide) ?_
  refine GW.iconst (v := 0) dX9_fill_18 (by decide) ?_
  refine GW.callV cv_X9_40 mt_X9_enter (c_enter (p := 0) (par := 0) (s := 0) (l := 0) w0 hv (by omega)) dX9_fill_19 (by first | assumption | exact isV.gl (by assumption) | exact wkAt.gl (by assumption) | exact tbAt.gl (by assumption)) rfl rfl rfl rfl (by first | (dsimp only [mX9_fill, gM.dp, gM.kc, gM.ks]; omega) | exact Nat.le_of_ble_eq_true rfl | exact Nat.le_refl _ | omega) (by decide) (by first | omega | (dsimp only [mX9_fill, gM.dp, gM.kc, gM.ks]; omega)) (by first | omega | (dsimp only [mX9_fill, gM.dp, gM.kc, gM.ks]; omega)) (by first | exact Nat.le_of_ble_eq_true rfl | (simp [va_rf_cat]; done) | (simp [va_rf_cat, Value.category]; done)) rfl (fun _ _ h => h.elim) (fun v19 G19 hq => ?_)
  obtain ⟨rfl, mc1, rfl, ho1, w1⟩ := hq
  have outer : ∀ (m P : Nat) (mc2 : Nat → Option gC) (v2 : Nat → Option Nat) (pa2 st2 lv2 : Nat → Int32), P + m = szT t → (∀ q, q < 14 ∨ 18 < q → mc2 q = mc q) → wkAt ad mc2 (nI (szT t)) v2 pa2 st2 lv2 → (∀ q e, entE t q = some e → (q = 0 ∨ e.2.1 < P) → wkR im v2 pa2 st2 lv2 q e) →
      GW (mX9_fill 1 0 0) Q noX (im, ad, mc2) 0 0 24 [some (.ref (ad 14)), some (.ref a), some (.int (nI P)), none, none, none, none, none, none, none, none, none] [] := by
    intro m
    induction m with
    | zero =>
      intro P mc2 v2 pa2 st2 lv2 hP ho2 w2 hr
      have l14 := wkAt.gl (G := (im, ad, mc2)) w2
      refine GW.iload2 dX9_fill_24 ?_
      refine GW.aload0 dX9_fill_25 (g := ?_)
      refine GW.getf fl_X9_37 dX9_fill_26 (by assumption) (by rfl) ?_
      refine GW.icmp_ge (tgt := 122) dX9_fill_29 (by decide) (fun h29 => ?_) (fun h29 => ?_)
      · refine GW.vreturn dX9_fill_122 rfl (by first | (dsimp only [mX9_fill, gM.dp, gM.kc, gM.ks]; omega) | exact Nat.le_of_ble_eq_true rfl | exact Nat.le_refl _ | omega) (by first | (dsimp only [mX9_fill, gM.dp, gM.kc, gM.ks]; omega) | exact Nat.le_of_ble_eq_true rfl | exact Nat.le_refl _ | omega) ?_
        subst hQ
        refine ⟨rfl, mc2, rfl, ho2, v2, pa2, st2, lv2, w2, fun q e he => hr q e he ?_⟩
        rcases Nat.eq_zero_or_pos q with h | h
        · exact Or.inl h
        · obtain ⟨q', e', j, x, g1, g2, g3, g4, rfl⟩ := ent_par he h
          have := ent_lt he
          exact Or.inr (by show q' < P; omega)
      · exact absurd ((mI_le (by omega) (by omega)).mpr (by omega)) h29
    | succ m ih =>
      intro P mc2 v2 pa2 st2 lv2 hP ho2 w2 hr
      have l14 := wkAt.gl (G := (im, ad, mc2)) w2
      have l15 : gL (im, ad, mc2) (ad 15) (.inr (1, 50, .inr v2)) := Or.inr ⟨15, rfl, w2.2.1⟩
      have hix : gIx (nI P) P 50 := mI_ix (by omega) (by omega)
      obtain ⟨e, he⟩ := ent_some (t := t) (q := P) (by omega)
      have hPr : wkR im v2 pa2 st2 lv2 P e := hr P e he (by
        rcases Nat.eq_zero_or_pos P with h | h
        · exact Or.inl h
        · obtain ⟨q', e', j, x, g1, g2, g3, g4, rfl⟩ := ent_par he h
          exact Or.inr g1)
      obtain ⟨⟨b, hb1, hb2⟩, hb3, hb4, hb5⟩ := id hPr
      have hes := ent_sml hst he
      have hew := hes.wd
      refine GW.iload2 dX9_fill_24 ?_
      refine GW.aload0 dX9_fill_25 (g := ?_)
      refine GW.getf fl_X9_37 dX9_fill_26 (by assumption) (by rfl) ?_
      refine GW.icmp_ge (tgt := 122) dX9_fill_29 (by decide) (fun h29 => ?_) (fun h29 => ?_)
      · exact absurd ((mI_le (by omega) (by omega)).mp h29) (by omega)
      · refine GW.aload0 dX9_fill_32 (g := ?_)
        refine GW.getf fl_X9_11 dX9_fill_33 (by assumption) (by rfl) ?_
        refine GW.iload2 dX9_fill_36 ?_
        refine GW.aald dX9_fill_37 (by assumption) (by assumption) (by decide) ?_
        rw [hb1]
        refine GW.astore3 dX9_fill_38 (g := ?_)
        refine GW.iload2 dX9_fill_39 ?_
        refine GW.iconst (v := 1) dX9_fill_40 (by decide) ?_
        refine GW.iadd dX9_fill_41 ?_
        rw [mI_succ]
        refine GW.istore4 dX9_fill_42 (g := ?_)
        refine GW.iconst (v := 0) dX9_fill_44 (by decide) ?_
        refine GW.istore5 dX9_fill_45 (g := ?_)
        have inner : ∀ (m2 i : Nat) (mc3 : Nat → Option gC) (v3 : Nat → Option Nat) (pa3 st3 lv3 : Nat → Int32) (l6 : Option Value), i + m2 = wd e.1 → (∀ q, q < 14 ∨ 18 < q → mc3 q = mc q) → wkAt ad mc3 (nI (szT t)) v3 pa3 st3 lv3 → (∀ q e', entE t q = some e' → (q = 0 ∨ e'.2.1 < P ∨ (e'.2.1 = P ∧ q < P + 1 + off (kids e.1.2.2) i)) → wkR im v3 pa3 st3 lv3 q e') →
            GW (mX9_fill 1 0 0) Q noX (im, ad, mc3) 0 0 47 [some (.ref (ad 14)), some (.ref a), some (.int (nI P)), some (va_rf (some b)), some (.int (nI (P + 1 + off (kids e.1.2.2) i))), some (.int (nI i)), l6, none, none, none, none, none] [] := by
          intro m2
          induction m2 with
          | zero =>
            intro i mc3 v3 pa3 st3 lv3 l6 hi ho3 w3 hr3
            have hb2' : isV (im, ad, mc3).1 b e.1 := hb2
            refine GW.aload3 dX9_fill_47 (g := ?_)
            refine GW.ifnull (tgt := 116) dX9_fill_48 (by decide) (fun h48 => ?_) (fun r48 h48 => ?_)
            · cases h48
            · cases h48
              refine GW.iload5 dX9_fill_51 ?_
              refine GW.aload3 dX9_fill_53 (g := ?_)
              refine GW.callV cv_X9_44 mt_X8_width (c_width (G := (im, ad, mc3)) hb2) dX9_fill_54 (by first | assumption | exact isV.gl (by assumption) | exact wkAt.gl (by assumption) | exact tbAt.gl (by assumption)) rfl rfl rfl rfl (by first | (dsimp only [mX9_fill, gM.dp, gM.kc, gM.ks]; omega) | exact Nat.le_of_ble_eq_true rfl | exact Nat.le_refl _ | omega) (by decide) (by first | omega | (dsimp only [mX9_fill, gM.dp, gM.kc, gM.ks]; omega)) (by first | omega | (dsimp only [mX9_fill, gM.dp, gM.kc, gM.ks]; omega)) (by first | exact Nat.le_of_ble_eq_true rfl | (simp [va_rf_cat]; done) | (simp [va_rf_cat, Value.category]; done)) rfl (fun _ _ h => h.elim) (fun v54 G54 hq => ?_)
              obtain ⟨w, rfl, rfl, rfl⟩ := hq
              refine GW.icmp_ge (tgt := 116) dX9_fill_57 (by decide) (fun h57 => ?_) (fun h57 => ?_)
              · refine GW.inc2 dX9_fill_116 (g := ?_)
                refine GW.goto (tgt := 24) dX9_fill_119 (by decide) ?_
                rw [mI_succ]
                refine GW.drop 3 ?_
                refine GW.drop 4 ?_
                refine GW.drop 5 ?_
                refine GW.drop 6 ?_
                refine ih (P + 1) mc3 v3 pa3 st3 lv3 (by omega) ho3 w3 fun q e' he' hc => hr3 q e' he' ?_
                rcases hc with h | h
                · exact Or.inl h
                · rcases Nat.lt_or_ge e'.2.1 P with g | g
                  · exact Or.inr (Or.inl g)
                  · rcases Nat.eq_zero_or_pos q with z | z
                    · exact Or.inl z
                    · obtain ⟨q', e2, j, x, g1, g2, g3, g4, rfl⟩ := ent_par he' z
                      have hq' : q' = P := by have : P ≤ q' := g; have : q' < P + 1 := h; omega
                      subst hq'
                      rw [he] at g2
                      cases g2
                      have hin := off_in g3
                      have hp := szT_pos x.2
                      refine Or.inr (Or.inr ⟨rfl, ?_⟩)
                      rw [show i = (kids e.1.2.2).length by unfold wd at hi; omega, off_all]
                      omega
              · exact absurd ((mI_le (by omega) (by omega)).mpr (by omega)) h57
          | succ m2 ih2 =>
            intro i mc3 v3 pa3 st3 lv3 l6 hi ho3 w3 hr3
            have l14 := wkAt.gl (G := (im, ad, mc3)) w3
            have l18 : gL (im, ad, mc3) (ad 18) (.inr (0, 50, .inl lv3)) := Or.inr ⟨18, rfl, w3.2.2.2.2⟩
            have hb2' : isV (im, ad, mc3).1 b e.1 := hb2
            obtain ⟨x, hx⟩ : ∃ x, (kids e.1.2.2)[i]? = some x := ⟨_, List.getElem?_eq_getElem (by unfold wd at hi; omega)⟩
            have hk := ent_kid he hx
            have hkl := ent_lt hk
            have hPr3 : wkR im v3 pa3 st3 lv3 P e := hr3 P e he (by
              rcases Nat.eq_zero_or_pos P with h | h
              · exact Or.inl h
              · obtain ⟨q', e', j, x, g1, g2, g3, g4, rfl⟩ := ent_par he h
                exact Or.inr (Or.inl g1))
            have hlvP := ent_lv P P e (Nat.le_refl _) he
            refine GW.aload3 dX9_fill_47 (g := ?_)
            refine GW.ifnull (tgt := 116) dX9_fill_48 (by decide) (fun h48 => ?_) (fun r48 h48 => ?_)
            · cases h48
            · cases h48
              refine GW.iload5 dX9_fill_51 ?_
              refine GW.aload3 dX9_fill_53 (g := ?_)
              refine GW.callV cv_X9_44 mt_X8_width (c_width (G := (im, ad, mc3)) hb2) dX9_fill_54 (by first | assumption | exact isV.gl (by assumption) | exact wkAt.gl (by assumption) | exact tbAt.gl (by assumption)) rfl rfl rfl rfl (by first | (dsimp only [mX9_fill, gM.dp, gM.kc, gM.ks]; omega) | exact Nat.le_of_ble_eq_true rfl | exact Nat.le_refl _ | omega) (by decide) (by first | omega | (dsimp only [mX9_fill, gM.dp, gM.kc, gM.ks]; omega)) (by first | omega | (dsimp only [mX9_fill, gM.dp, gM.kc, gM.ks]; omega)) (by first | exact Nat.le_of_ble_eq_true rfl | (simp [va_rf_cat]; done) | (simp [va_rf_cat, Value.category]; done)) rfl (fun _ _ h => h.elim) (fun v54 G54 hq => ?_)
              obtain ⟨w, rfl, rfl, rfl⟩ := hq
              refine GW.icmp_ge (tgt := 116) dX9_fill_57 (by decide) (fun h57 => ?_) (fun h57 => ?_)
              · exact absurd ((mI_le (by omega) (by omega)).mp h57) (by omega)
              · refine GW.aload3 dX9_fill_60 (g := ?_)
                refine GW.iload5 dX9_fill_61 ?_
                refine GW.callV cv_X9_48 mt_X8_partAt (c_partAt (G := (im, ad, mc3)) hb2 hes (nI i)) dX9_fill_63 (by first | assumption | exact isV.gl (by assumption) | exact wkAt.gl (by assumption) | exact tbAt.gl (by assumption)) rfl rfl rfl rfl (by first | (dsimp only [mX9_fill, gM.dp, gM.kc, gM.ks]; omega) | exact Nat.le_of_ble_eq_true rfl | exact Nat.le_refl _ | omega) (by decide) (by first | omega | (dsimp only [mX9_fill, gM.dp, gM.kc, gM.ks]; omega)) (by first | omega | (dsimp only [mX9_fill, gM.dp, gM.kc, gM.ks]; omega)) (by first | exact Nat.le_of_ble_eq_true rfl | (simp [va_rf_cat]; done) | (simp [va_rf_cat, Value.category]; done)) rfl (fun _ _ h => h.elim) (fun v63 G63 hq => ?_)
                obtain ⟨r1, rfl, rfl, hq1⟩ := hq
                rw [partT_mI (by omega), kid_some hx] at hq1
                cases r1 with
                | none => exact hq1.elim
                | some c =>
                  have hq1 : isV im c x.2 := hq1
                  refine GW.astore6 dX9_fill_66 (g := ?_)
                  refine GW.aload0 dX9_fill_68 (g := ?_)
                  refine GW.iload4 dX9_fill_69 ?_
                  refine GW.aload6 dX9_fill_71 (g := ?_)
                  refine GW.iload2 dX9_fill_73 ?_
                  refine GW.aload3 dX9_fill_74 (g := ?_)
                  refine GW.iload5 dX9_fill_75 ?_
                  refine GW.callV cv_X9_52 mt_X8_stepOf (c_stepOf (G := (im, ad, mc3)) hb2 hes (nI i)) dX9_fill_77 (by first | assumption | exact isV.gl (by assumption) | exact wkAt.gl (by assumption) | exact tbAt.gl (by assumption)) rfl rfl rfl rfl (by first | (dsimp only [mX9_fill, gM.dp, gM.kc, gM.ks]; omega) | exact Nat.le_of_ble_eq_true rfl | exact Nat.le_refl _ | omega) (by decide) (by first | omega | (dsimp only [mX9_fill, gM.dp, gM.kc, gM.ks]; omega)) (by first | omega | (dsimp only [mX9_fill, gM.dp, gM.kc, gM.ks]; omega)) (by first | exact Nat.le_of_ble_eq_true rfl | (simp [va_rf_cat]; done) | (simp [va_rf_cat, Value.category]; done)) rfl (fun _ _ h => h.elim) (fun v77 G77 hq => ?_)
                  obtain ⟨w, rfl, rfl, rfl⟩ := hq
                  rw [stepT_mI (by omega) hx]
                  refine GW.aload0 dX9_fill_80 (g := ?_)
                  refine GW.getf fl_X9_24 dX9_fill_81 (by assumption) (by rfl) ?_
                  refine GW.iload2 dX9_fill_84 ?_
                  refine GW.iald dX9_fill_85 (by assumption) (by assumption) ?_
                  rw [hPr3.2.2.2]
                  refine GW.iconst (v := 1) dX9_fill_86 (by decide) ?_
                  refine GW.iadd dX9_fill_87 ?_
                  rw [mI_succ]
                  refine GW.callV cv_X9_40 mt_X9_enter (c_enter (p := P + 1 + off (kids e.1.2.2) i) (par := nI P) (s := if e.1.1 = 4 then x.1 else nI i) (l := nI (e.2.2.2 + 1)) w3 hq1 (by omega)) dX9_fill_88 (by first | assumption | exact isV.gl (by assumption) | exact wkAt.gl (by assumption) | exact tbAt.gl (by assumption)) rfl rfl rfl rfl (by first | (dsimp only [mX9_fill, gM.dp, gM.kc, gM.ks]; omega) | exact Nat.le_of_ble_eq_true rfl | exact Nat.le_refl _ | omega) (by decide) (by first | omega | (dsimp only [mX9_fill, gM.dp, gM.kc, gM.ks]; omega)) (by first | omega | (dsimp only [mX9_fill, gM.dp, gM.kc, gM.ks]; omega)) (by first | exact Nat.le_of_ble_eq_true rfl | (simp [va_rf_cat]; done) | (simp [va_rf_cat, Value.category]; done)) rfl (fun _ _ h => h.elim) (fun v88 G88 hq => ?_)
                  obtain ⟨rfl, mc4, rfl, ho4, w4⟩ := hq
                  obtain ⟨kr2, pq2, hnd2, -, -⟩ := hq1.node
                  have lc : gL (im, ad, mc4) c (.inl (8, _)) := Or.inl hnd2
                  have hstep := off_step hx
                  refine GW.iload4 dX9_fill_91 ?_
                  refine GW.aload6 dX9_fill_93 (g := ?_)
                  refine GW.ifnonnull (tgt := 102) dX9_fill_95 (by decide) (fun r95 h95 => ?_) (fun h95 => ?_)
                  · refine GW.aload6 dX9_fill_102 (g := ?_)
                    refine GW.getf fl_X9_27 dX9_fill_104 (by assumption) (by rfl) ?_
                    refine GW.iadd dX9_fill_107 ?_
                    rw [mI_add]
                    refine GW.istore4 dX9_fill_108 (g := ?_)
                    refine GW.inc5 dX9_fill_110 (g := ?_)
                    refine GW.goto (tgt := 47) dX9_fill_113 (by decide) ?_
                    rw [mI_succ, show P + 1 + off (kids e.1.2.2) i + szT x.2 = P + 1 + off (kids e.1.2.2) (i + 1) by omega]
                    refine ih2 (i + 1) mc4 _ _ _ _ _ (by omega) (fun q hq => (ho4 q (by omega)).trans (ho3 q hq)) w4 fun q e' he' hc => ?_
                    by_cases hqe : q = P + 1 + off (kids e.1.2.2) i
                    · subst hqe
                      rw [hk] at he'
                      cases he'
                      exact ⟨⟨c, by simp [va_up], hq1⟩, by simp [upd], by simp [upd, stpK], by simp [upd]⟩
                    · refine (hr3 q e' he' ?_).up hqe
                      rcases hc with h | h | ⟨h, h2⟩
                      · exact Or.inl h
                      · exact Or.inr (Or.inl h)
                      · rcases Nat.eq_zero_or_pos q with z | z
                        · exact Or.inl z
                        · obtain ⟨q', e2, j, y, g1, g2, g3, g4, rfl⟩ := ent_par he' z
                          have hq' : q' = P := h
                          subst hq'
                          rw [he] at g2
                          cases g2
                          refine Or.inr (Or.inr ⟨rfl, ?_⟩)
                          rcases Nat.lt_or_ge j i with hji | hji
                          · have := off_step g3
                            have h3 := off_mono (xs := kids e.1.2.2) (show j + 1 ≤ i from hji)
                            have := szT_pos y.2
                            omega
                          · rcases Nat.eq_or_lt_of_le hji with hji | hji
                            · subst hji; exact absurd g4 hqe
                            · have h3 := off_mono (xs := kids e.1.2.2) (show i + 1 ≤ j from hji)
                              omega
                  · cases h95
        have := inner (wd e.1) 0 mc2 v2 pa2 st2 lv2 none (by omega) ho2 w2 (fun q e' he' hc => by
          refine hr q e' he' ?_
          rcases hc with h | h | ⟨h, h2⟩
          · exact Or.inl h
          · exact Or.inr h
          · rcases Nat.eq_zero_or_pos q with z | z
            · exact Or.inl z
            · obtain ⟨q', e2, j, y, g1, g2, g3, g4, rfl⟩ := ent_par he' z
              have hq' : q' = P := h
              subst hq'
              rw [off_zero] at h2
              omega)
        exact this
  refine GW.iconst (v := 0) dX9_fill_22 (by decide) ?_
  refine GW.istore2 dX9_fill_23 (g := ?_)
  refine outer (szT t) 0 mc1 _ _ _ _ (by omega) (fun q hq => (ho1 q (by omega)).trans (ko0 q (by omega))) w1 fun q e he hc => ?_
  have hq0 : q = 0 := by
    rcases hc with h | h
    · exact h
    · exact absurd h (Nat.not_lt_zero _)
  subst hq0
  rw [ent_zero] at he
  cases he
  exact ⟨⟨a, by simp [va_up], hv⟩, by simp [upd]; rfl, by simp [upd], by simp [upd]; rfl⟩
end WALK
