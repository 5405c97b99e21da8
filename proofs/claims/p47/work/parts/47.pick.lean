/-! THE WALK: isLast, isPicked, pick; what a QUERY finds -/
def entD (t : Tr) (q : Nat) : Ent := (entE t q).getD (t, 0, 0, 0)
theorem entD_eq {t : Tr} {q : Nat} (h : q < szT t) : entE t q = some (entD t q) := by
  obtain ⟨e, he⟩ := ent_some h
  unfold entD
  rw [he]; rfl
theorem entD_par {t : Tr} {q : Nat} (h : q < szT t) : (entD t q).2.1 ≤ q ∧ (0 < q → (entD t q).2.1 < q) ∧ (q = 0 → (entD t q).2.1 = 0) := by
  have he := entD_eq h
  rcases Nat.eq_zero_or_pos q with rfl | hp
  · rw [ent_zero] at he
    have := Option.some.inj he
    rw [← this]
    exact ⟨Nat.le_refl _, fun h => absurd h (Nat.lt_irrefl _), fun _ => rfl⟩
  · obtain ⟨q', e', j, x, h1, h2, h3, h4, h5⟩ := ent_par he hp
    rw [h5]
    exact ⟨Nat.le_of_lt h1, fun _ => h1, fun h => by omega⟩
/-- is the last child of its parent -/
def lastP (t : Tr) (p : Nat) : Prop := p + szT (entD t p).1 = (entD t p).2.1 + szT (entD t (entD t p).2.1).1
/-- is one of a set above -/
noncomputable def belI (t : Tr) (w : Int64) (p : Nat) : Int32 := bI (0 < p ∧ inI w (nI (entD t p).2.1) ≠ 0)
noncomputable def pkI (t : Tr) (w picked : Int64) (p : Nat) (part : Int32) : Int32 := bI ((part = 1 ∧ belI t w p ≠ 0) ∨ (part = 2 ∧ (inI w (nI p) ≠ 0 ∨ (0 < p ∧ inI picked (nI (entD t p).2.1) ≠ 0))) ∨ (part = 3 ∧ belI t w p ≠ 0 ∧ lastP t p))
noncomputable def pkS (t : Tr) (w : Int64) (part : Int32) : Nat → Int64
  | 0 => 0
  | p + 1 => @ite _ (pkI t w (pkS t w part p) p part = 0) (Classical.propDecidable _) (pkS t w part p) (pkS t w part p ||| (1 : Int64) <<< ((nI p).toInt64 &&& 63))
noncomputable def qfV (t : Tr) (q : List (Int32 × Int32)) : Int64 := q.foldl (fun acc x => pkS t acc x.1 (szT t)) 1
theorem bI_0 {p : Prop} : bI p = 0 ↔ ¬ p := ⟨fun h q => by rw [bI_t q] at h; exact absurd h (by decide), bI_f⟩
section WALK
variable {im : gIm} {ad : Nat → Nat} {mc : Nat → Option gC} {t : Tr}
theorem wkT.gl {G : gG} {t : Tr} (h : wkT G.1 G.2.1 G.2.2 t) : ∃ fs, gL G (G.2.1 14) (.inl (9, fs)) := by
  obtain ⟨v, pa, st, lv, h1, -⟩ := h
  exact ⟨_, wkAt.gl h1⟩
theorem c_aboveT {p : Nat} (hw : wkT im ad mc t) (hp : p < szT t) (hs : szT t ≤ 50) :
    kX9_above 0 0 0 [.ref (ad 14), .int (nI p)] (im, ad, mc) (ans (im, ad, mc) (fun w => w = .int (nI (entD t p).2.1))) noX := by
  obtain ⟨v, pa, st, lv, h1, h2⟩ := hw
  refine (c_above h1 (p := p) (by omega)).post ?_ (fun _ _ h => h)
  rintro r G' ⟨w, rfl, rfl, rfl⟩
  refine ⟨_, rfl, rfl, ?_⟩
  by_cases hz : p = 0
  · rw [if_pos hz, (entD_par hp).2.2 hz]; rfl
  · rw [if_neg hz, (h2 p _ (entD_eq hp)).2.1]
theorem c_valueT {p : Nat} (hw : wkT im ad mc t) (hp : p < szT t) (hs : szT t ≤ 50) :
    kX9_valueAt 0 0 0 [.ref (ad 14), .int (nI p)] (im, ad, mc) (fun r G' => ∃ a, r = some (va_rf (some a)) ∧ (im, ad, mc) = G' ∧ isV im a (entD t p).1) noX := by
  obtain ⟨v, pa, st, lv, h1, h2⟩ := hw
  refine (c_valueAt h1 (p := p) hp hs).post ?_ (fun _ _ h => h)
  rintro r G' ⟨w, rfl, rfl, rfl⟩
  obtain ⟨⟨a, ha, hv⟩, -⟩ := h2 p _ (entD_eq hp)
  exact ⟨a, by rw [ha], rfl, hv⟩
abbrev mX9_isLast (d kc ks : Nat) : gM := (RX9, cX9_isLast, 4, (some .boolean), [], "isLast", d, kc, ks)
abbrev kX9_isLast (d kc ks : Nat) (as : List Value) (G : gG) (Q : Option Value → gG → Prop) (X : String → gG → Prop) : Prop := Ctr yX9_isLast cX9_isLast 4 (some .boolean) d kc ks as G Q X
theorem oX9_isLast {d kc ks : Nat} {as : List Value} {G : gG} {Q : Option Value → gG → Prop} {X : String → gG → Prop} {L : List (Option Value)} (hL : gEnt as = L) (hlen : (lg_sl as).length ≤ 4) (g : GW (mX9_isLast d kc ks) Q X G 0 0 0 L []) : kX9_isLast d kc ks as G Q X := Ctr.of (by decide +kernel) rfl rfl hL hlen g
theorem c_isLast {p a : Nat} (hw : wkT im ad mc t) (hp : p < szT t) (hs : szT t ≤ 50) (hv : isV im a (entD t p).1) :
    kX9_isLast 1 0 0 [.ref (ad 14), .int (nI p), .ref a] (im, ad, mc) (ans (im, ad, mc) (fun w => w = .int (bI (lastP t p)))) noX := by
  obtain ⟨fw, l14⟩ := wkT.gl (G := (im, ad, mc)) hw
  have hpar := (entD_par hp).1
  have hz1 := ent_sz (entD_eq hp)
  have hz2 := ent_sz (entD_eq (t := t) (q := (entD t p).2.1) (by omega))
  obtain ⟨kr, pq, hnd, -, -⟩ := hv.node
  have la : gL (im, ad, mc) a (.inl (8, _)) := Or.inl hnd
  refine oX9_isLast (L := [some (.ref (ad 14)), some (.int (nI p)), some (.ref a), none, none, none, none, none, none, none, none, none]) rfl (Nat.le_of_ble_eq_true rfl) ?_
  refine GW.aload0 dX9_isLast_0 (g := ?_)
  refine GW.aload0 dX9_isLast_1 (g := ?_)
  refine GW.iload1 dX9_isLast_2 ?_
  refine GW.callV0 cv_X9_67 mt_X9_above (c_aboveT hw hp hs) dX9_isLast_3 (by first | assumption | exact isV.gl (by assumption) | exact wkAt.gl (by assumption) | exact tbAt.gl (by assumption)) rfl rfl rfl rfl (by first | (dsimp only [mX9_isLast, gM.dp, gM.kc, gM.ks]; omega) | exact Nat.le_of_ble_eq_true rfl | exact Nat.le_refl _ | omega) (by decide) (by first | (dsimp only [mX9_isLast, gM.dp, gM.kc, gM.ks]; omega) | exact Nat.le_of_ble_eq_true rfl | exact Nat.le_refl _ | omega) (by first | (dsimp only [mX9_isLast, gM.dp, gM.kc, gM.ks]; omega) | exact Nat.le_of_ble_eq_true rfl | exact Nat.le_refl _ | omega) (by first | exact Nat.le_of_ble_eq_true rfl | (simp [va_rf_cat]; done) | (simp [va_rf_cat, Value.category]; done)) rfl (fun _ _ h => h.elim) (fun v3 G3 hq => ?_)
  obtain ⟨w, rfl, rfl, rfl⟩ := hq
  refine GW.callV0 cv_X9_56 mt_X9_valueAt (c_valueT (p := (entD t p).2.1) hw (by omega) hs) dX9_isLast_6 (by first | assumption | exact isV.gl (by assumption) | exact wkAt.gl (by assumption) | exact tbAt.gl (by assumption)) rfl rfl rfl rfl (by first | (dsimp only [mX9_isLast, gM.dp, gM.kc, gM.ks]; omega) | exact Nat.le_of_ble_eq_true rfl | exact Nat.le_refl _ | omega) (by decide) (by first | (dsimp only [mX9_isLast, gM.dp, gM.kc, gM.ks]; omega) | exact Nat.le_of_ble_eq_true rfl | exact Nat.le_refl _ | omega) (by first | (dsimp only [mX9_isLast, gM.dp, gM.kc, gM.ks]; omega) | exact Nat.le_of_ble_eq_true rfl | exact Nat.le_refl _ | omega) (by first | exact Nat.le_of_ble_eq_true rfl | (simp [va_rf_cat]; done) | (simp [va_rf_cat, Value.category]; done)) rfl (fun _ _ h => h.elim) (fun v6 G6 hq => ?_)
  obtain ⟨b, rfl, rfl, hb⟩ := hq
  obtain ⟨kr2, pq2, hnd2, -, -⟩ := hb.node
  have lb : gL (im, ad, mc) b (.inl (8, _)) := Or.inl hnd2
  refine GW.astore3 dX9_isLast_9 (g := ?_)
  refine GW.aload3 dX9_isLast_10 (g := ?_)
  refine GW.ifnull (tgt := 37) dX9_isLast_11 (by decide) (fun h11 => ?_) (fun r11 h11 => ?_)
  · cases h11
  · cases h11
    refine GW.iload1 dX9_isLast_14 ?_
    refine GW.aload2 dX9_isLast_15 (g := ?_)
    refine GW.getf fl_X9_27 dX9_isLast_16 (by assumption) (by rfl) ?_
    refine GW.iadd dX9_isLast_19 ?_
    rw [mI_add]
    refine GW.aload0 dX9_isLast_20 (g := ?_)
    refine GW.iload1 dX9_isLast_21 ?_
    refine GW.callV0 cv_X9_67 mt_X9_above (c_aboveT hw hp hs) dX9_isLast_22 (by first | assumption | exact isV.gl (by assumption) | exact wkAt.gl (by assumption) | exact tbAt.gl (by assumption)) rfl rfl rfl rfl (by first | (dsimp only [mX9_isLast, gM.dp, gM.kc, gM.ks]; omega) | exact Nat.le_of_ble_eq_true rfl | exact Nat.le_refl _ | omega) (by decide) (by first | (dsimp only [mX9_isLast, gM.dp, gM.kc, gM.ks]; omega) | exact Nat.le_of_ble_eq_true rfl | exact Nat.le_refl _ | omega) (by first | (dsimp only [mX9_isLast, gM.dp, gM.kc, gM.ks]; omega) | exact Nat.le_of_ble_eq_true rfl | exact Nat.le_refl _ | omega) (by first | exact Nat.le_of_ble_eq_true rfl | (simp [va_rf_cat]; done) | (simp [va_rf_cat, Value.category]; done)) rfl (fun _ _ h => h.elim) (fun v22 G22 hq => ?_)
    obtain ⟨w, rfl, rfl, rfl⟩ := hq
    refine GW.aload3 dX9_isLast_25 (g := ?_)
    refine GW.getf fl_X9_27 dX9_isLast_26 (by assumption) (by rfl) ?_
    refine GW.iadd dX9_isLast_29 ?_
    rw [mI_add]
    refine GW.icmp_ne (tgt := 37) dX9_isLast_30 (by decide) (fun h30 => ?_) (fun h30 => ?_)
    · refine GW.iconst (v := 0) dX9_isLast_37 (by decide) ?_
      refine GW.ireturn dX9_isLast_38 (Or.inr ⟨rfl, by first | exact Or.inl rfl | exact Or.inr rfl | assumption⟩) (by first | (dsimp only [mX9_isLast, gM.dp, gM.kc, gM.ks]; omega) | exact Nat.le_of_ble_eq_true rfl | exact Nat.le_refl _ | omega) (by first | (dsimp only [mX9_isLast, gM.dp, gM.kc, gM.ks]; omega) | exact Nat.le_of_ble_eq_true rfl | exact Nat.le_refl _ | omega) ?_
      refine ⟨_, rfl, rfl, ?_⟩
      rw [bI_f]
      intro h
      unfold lastP at h
      exact h30 (by rw [h])
    · refine GW.iconst (v := 1) dX9_isLast_33 (by decide) ?_
      refine GW.goto (tgt := 38) dX9_isLast_34 (by decide) ?_
      refine GW.ireturn dX9_isLast_38 (Or.inr ⟨rfl, by first | exact Or.inl rfl | exact Or.inr rfl | assumption⟩) (by first | (dsimp only [mX9_isLast, gM.dp, gM.kc, gM.ks]; omega) | exact Nat.le_of_ble_eq_true rfl | exact Nat.le_refl _ | omega) (by first | (dsimp only [mX9_isLast, gM.dp, gM.kc, gM.ks]; omega) | exact Nat.le_of_ble_eq_true rfl | exact Nat.le_refl _ | omega) ?_
      exact ⟨_, rfl, rfl, by rw [bI_t]; exact (mI_eq (by omega) (by omega)).mp h30⟩
abbrev mX9_isPicked (d kc ks : Nat) : gM := (RX9, cX9_isPicked, 11, (some .boolean), [], "isPicked", d, kc, ks)
abbrev kX9_isPicked (d kc ks : Nat) (as : List Value) (G : gG) (Q : Option Value → gG → Prop) (X : String → gG → Prop) : Prop := Ctr yX9_isPicked cX9_isPicked 11 (some .boolean) d kc ks as G Q X
theorem oX9_isPicked {d kc ks : Nat} {as : List Value} {G : gG} {Q : Option Value → gG → Prop} {X : String → gG → Prop} {L : List (Option Value)} (hL : gEnt as = L) (hlen : (lg_sl as).length ≤ 11) (g : GW (mX9_isPicked d kc ks) Q X G 0 0 0 L []) : kX9_isPicked d kc ks as G Q X := Ctr.of (by decide +kernel) rfl rfl hL hlen g
set_option maxHeartbeats 2000000 in
theorem c_isPicked {p a : Nat} {w picked : Int64} {part n : Int32} (hw : wkT im ad mc t) (hp : p < szT t) (hs : szT t ≤ 50) (hv : isV im a (entD t p).1) (hpart : part = 1 ∨ part = 2 ∨ part = 3) :
    kX9_isPicked 2 0 0 [.ref (ad 14), .long w, .long picked, .int (nI p), .ref a, .int part, .int n] (im, ad, mc) (ans (im, ad, mc) (fun r => r = .int (pkI t w picked p part))) noX := by
  obtain ⟨fw, l14⟩ := wkT.gl (G := (im, ad, mc)) hw
  have hpar := (entD_par hp).1
  have h01 := inI_01 w (nI p)
  refine oX9_isPicked (L := [some (.ref (ad 14)), some (.long w), none, some (.long picked), none, some (.int (nI p)), some (.ref a), some (.int part), some (.int n), none, none, none]) rfl (Nat.le_of_ble_eq_true rfl) ?_
  generalize hQ : ans (im, ad, mc) (fun r => r = .int (pkI t w picked p part)) = Q
  have done : ∀ v : Int32, v = pkI t w picked p part → Q (some (.int v)) (im, ad, mc) := fun v h => by
    subst hQ
    exact ⟨_, rfl, rfl, by rw [h]⟩
  have at33 : GW (mX9_isPicked 2 0 0) Q noX (im, ad, mc) 0 0 31 [some (.ref (ad 14)), some (.long w), none, some (.long picked), none, some (.int (nI p)), some (.ref a), some (.int part), some (.int n), some (.int (inI w (nI p))), none, none] [.int (belI t w p)] := by
    have hb01 := bI_01 (0 < p ∧ inI w (nI (entD t p).2.1) ≠ 0)
    refine GW.istore10 dX9_isPicked_31 (g := ?_)
    refine GW.iload7 dX9_isPicked_33 ?_
    rcases hpart with rfl | rfl | rfl
    · refine GW.tableIn (tgt := 94) dX9_isPicked_35 (by decide) (by decide) (off := 59) (by decide) (by decide) ?_
      refine GW.iload10 dX9_isPicked_94 ?_
      have hb' : belI t w p = 0 ∨ belI t w p = 1 := hb01
      refine GW.ireturn dX9_isPicked_96 (Or.inr ⟨rfl, by first | exact Or.inl rfl | exact Or.inr rfl | assumption⟩) (by first | (dsimp only [mX9_isPicked, gM.dp, gM.kc, gM.ks]; omega) | exact Nat.le_of_ble_eq_true rfl | exact Nat.le_refl _ | omega) (by first | (dsimp only [mX9_isPicked, gM.dp, gM.kc, gM.ks]; omega) | exact Nat.le_of_ble_eq_true rfl | exact Nat.le_refl _ | omega) ?_
      refine done _ ?_
      unfold pkI
      rcases hb' with e | e
      · rw [e, bI_f]
        rintro (⟨-, h⟩ | ⟨h, -⟩ | ⟨h, -⟩)
        · exact h rfl
        · exact absurd h (by decide)
        · exact absurd h (by decide)
      · rw [e, bI_t]
        exact Or.inl ⟨rfl, by decide⟩
    · refine GW.tableIn (tgt := 97) dX9_isPicked_35 (by decide) (by decide) (off := 62) (by decide) (by decide) ?_
      have yes : (inI w (nI p) ≠ 0 ∨ (0 < p ∧ inI picked (nI (entD t p).2.1) ≠ 0)) → GW (mX9_isPicked 2 0 0) Q noX (im, ad, mc) 0 0 120 [some (.ref (ad 14)), some (.long w), none, some (.long picked), none, some (.int (nI p)), some (.ref a), some (.int 2), some (.int n), some (.int (inI w (nI p))), some (.int (belI t w p)), none] [] := by
        intro h
        refine GW.iconst (v := 1) dX9_isPicked_120 (by decide) ?_
        refine GW.goto (tgt := 125) dX9_isPicked_121 (by decide) ?_
        refine GW.ireturn dX9_isPicked_125 (Or.inr ⟨rfl, by first | exact Or.inl rfl | exact Or.inr rfl | assumption⟩) (by first | (dsimp only [mX9_isPicked, gM.dp, gM.kc, gM.ks]; omega) | exact Nat.le_of_ble_eq_true rfl | exact Nat.le_refl _ | omega) (by first | (dsimp only [mX9_isPicked, gM.dp, gM.kc, gM.ks]; omega) | exact Nat.le_of_ble_eq_true rfl | exact Nat.le_refl _ | omega) ?_
        refine done _ ?_
        unfold pkI
        rw [bI_t]
        exact Or.inr (Or.inl ⟨rfl, h⟩)
      have no : ¬ (inI w (nI p) ≠ 0 ∨ (0 < p ∧ inI picked (nI (entD t p).2.1) ≠ 0)) → GW (mX9_isPicked 2 0 0) Q noX (im, ad, mc) 0 0 124 [some (.ref (ad 14)), some (.long w), none, some (.long picked), none, some (.int (nI p)), some (.ref a), some (.int 2), some (.int n), some (.int (inI w (nI p))), some (.int (belI t w p)), none] [] := by
        intro h
        refine GW.iconst (v := 0) dX9_isPicked_124 (by decide) ?_
        refine GW.ireturn dX9_isPicked_125 (Or.inr ⟨rfl, by first | exact Or.inl rfl | exact Or.inr rfl | assumption⟩) (by first | (dsimp only [mX9_isPicked, gM.dp, gM.kc, gM.ks]; omega) | exact Nat.le_of_ble_eq_true rfl | exact Nat.le_refl _ | omega) (by first | (dsimp only [mX9_isPicked, gM.dp, gM.kc, gM.ks]; omega) | exact Nat.le_of_ble_eq_true rfl | exact Nat.le_refl _ | omega) ?_
        refine done _ ?_
        unfold pkI
        rw [bI_f]
        rintro (⟨g, -⟩ | ⟨-, g⟩ | ⟨g, -⟩)
        · exact absurd g (by decide)
        · exact h g
        · exact absurd g (by decide)
      refine GW.iload9 dX9_isPicked_97 ?_
      refine GW.if_ne (tgt := 120) dX9_isPicked_99 (by decide) (fun h99 => ?_) (fun h99 => ?_)
      · exact yes (Or.inl h99)
      · refine GW.iload5 dX9_isPicked_102 ?_
        refine GW.if_le (tgt := 124) dX9_isPicked_104 (by decide) (fun h104 => ?_) (fun h104 => ?_)
        · refine no fun h => ?_
          rcases h with h | h
          · exact h h99
          · have := (mI_le (b := 0) (by omega) (by omega)).mp h104
            omega
        · have hp0 : 0 < p := by
            rcases Nat.eq_zero_or_pos p with q | q
            · rw [q] at h104; exact absurd (by decide) h104
            · exact q
          refine GW.lload3 dX9_isPicked_107 ?_
          refine GW.aload0 dX9_isPicked_108 (g := ?_)
          refine GW.iload5 dX9_isPicked_109 ?_
          refine GW.callV0 cv_X9_67 mt_X9_above (c_aboveT hw hp hs) dX9_isPicked_111 (by first | assumption | exact isV.gl (by assumption) | exact wkAt.gl (by assumption) | exact tbAt.gl (by assumption)) rfl rfl rfl rfl (by first | (dsimp only [mX9_isPicked, gM.dp, gM.kc, gM.ks]; omega) | exact Nat.le_of_ble_eq_true rfl | exact Nat.le_refl _ | omega) (by decide) (by first | (dsimp only [mX9_isPicked, gM.dp, gM.kc, gM.ks]; omega) | exact Nat.le_of_ble_eq_true rfl | exact Nat.le_refl _ | omega) (by first | (dsimp only [mX9_isPicked, gM.dp, gM.kc, gM.ks]; omega) | exact Nat.le_of_ble_eq_true rfl | exact Nat.le_refl _ | omega) (by first | exact Nat.le_of_ble_eq_true rfl | (simp [va_rf_cat]; done) | (simp [va_rf_cat, Value.category]; done)) rfl (fun _ _ h => h.elim) (fun v111 G111 hq => ?_)
          obtain ⟨z, rfl, rfl, rfl⟩ := hq
          refine GW.callSN nn_X9_63 st_isIn mt_X10_isIn (c_isIn (G := (im, ad, mc)) (w := picked) (i := nI (entD t p).2.1)) dX9_isPicked_114 rfl rfl (by first | (dsimp only [mX9_isPicked, gM.dp, gM.kc, gM.ks]; omega) | exact Nat.le_of_ble_eq_true rfl | exact Nat.le_refl _ | omega) (by decide) (by first | (dsimp only [mX9_isPicked, gM.dp, gM.kc, gM.ks]; omega) | exact Nat.le_of_ble_eq_true rfl | exact Nat.le_refl _ | omega) (by first | (dsimp only [mX9_isPicked, gM.dp, gM.kc, gM.ks]; omega) | exact Nat.le_of_ble_eq_true rfl | exact Nat.le_refl _ | omega) (by first | exact Nat.le_of_ble_eq_true rfl | (simp [va_rf_cat]; done) | (simp [va_rf_cat, Value.category]; done)) (fun v114 G114 hq => ?_)
          obtain ⟨z, rfl, rfl, rfl⟩ := hq
          refine GW.if_eq (tgt := 124) dX9_isPicked_117 (by decide) (fun h117 => ?_) (fun h117 => ?_)
          · refine no fun h => ?_
            rcases h with h | h
            · exact h h99
            · exact h.2 h117
          · exact yes (Or.inr ⟨hp0, h117⟩)
    · refine GW.tableIn (tgt := 126) dX9_isPicked_35 (by decide) (by decide) (off := 91) (by decide) (by decide) ?_
      have no : ¬ (belI t w p ≠ 0 ∧ lastP t p) → GW (mX9_isPicked 2 0 0) Q noX (im, ad, mc) 0 0 146 [some (.ref (ad 14)), some (.long w), none, some (.long picked), none, some (.int (nI p)), some (.ref a), some (.int 3), some (.int n), some (.int (inI w (nI p))), some (.int (belI t w p)), none] [] := by
        intro h
        refine GW.iconst (v := 0) dX9_isPicked_146 (by decide) ?_
        refine GW.ireturn dX9_isPicked_147 (Or.inr ⟨rfl, by first | exact Or.inl rfl | exact Or.inr rfl | assumption⟩) (by first | (dsimp only [mX9_isPicked, gM.dp, gM.kc, gM.ks]; omega) | exact Nat.le_of_ble_eq_true rfl | exact Nat.le_refl _ | omega) (by first | (dsimp only [mX9_isPicked, gM.dp, gM.kc, gM.ks]; omega) | exact Nat.le_of_ble_eq_true rfl | exact Nat.le_refl _ | omega) ?_
        refine done _ ?_
        unfold pkI
        rw [bI_f]
        rintro (⟨g, -⟩ | ⟨g, -⟩ | ⟨-, g⟩)
        · exact absurd g (by decide)
        · exact absurd g (by decide)
        · exact h g
      refine GW.iload10 dX9_isPicked_126 ?_
      refine GW.if_eq (tgt := 146) dX9_isPicked_128 (by decide) (fun h128 => ?_) (fun h128 => ?_)
      · exact no fun h => h.1 h128
      · refine GW.aload0 dX9_isPicked_131 (g := ?_)
        refine GW.iload5 dX9_isPicked_132 ?_
        refine GW.aload6 dX9_isPicked_134 (g := ?_)
        refine GW.callV0 cv_X9_73 mt_X9_isLast (c_isLast hw hp hs hv) dX9_isPicked_136 (by first | assumption | exact isV.gl (by assumption) | exact wkAt.gl (by assumption) | exact tbAt.gl (by assumption)) rfl rfl rfl rfl (by first | (dsimp only [mX9_isPicked, gM.dp, gM.kc, gM.ks]; omega) | exact Nat.le_of_ble_eq_true rfl | exact Nat.le_refl _ | omega) (by decide) (by first | (dsimp only [mX9_isPicked, gM.dp, gM.kc, gM.ks]; omega) | exact Nat.le_of_ble_eq_true rfl | exact Nat.le_refl _ | omega) (by first | (dsimp only [mX9_isPicked, gM.dp, gM.kc, gM.ks]; omega) | exact Nat.le_of_ble_eq_true rfl | exact Nat.le_refl _ | omega) (by first | exact Nat.le_of_ble_eq_true rfl | (simp [va_rf_cat]; done) | (simp [va_rf_cat, Value.category]; done)) rfl (fun _ _ h => h.elim) (fun v136 G136 hq => ?_)
        obtain ⟨z, rfl, rfl, rfl⟩ := hq
        refine GW.if_eq (tgt := 146) dX9_isPicked_139 (by decide) (fun h139 => ?_) (fun h139 => ?_)
        · exact no fun h => bI_0.mp h139 h.2
        · have hl : lastP t p := by
            by_cases h : lastP t p
            · exact h
            · exact absurd (bI_0.mpr h) h139
          refine GW.iconst (v := 1) dX9_isPicked_142 (by decide) ?_
          refine GW.goto (tgt := 147) dX9_isPicked_143 (by decide) ?_
          refine GW.ireturn dX9_isPicked_147 (Or.inr ⟨rfl, by first | exact Or.inl rfl | exact Or.inr rfl | assumption⟩) (by first | (dsimp only [mX9_isPicked, gM.dp, gM.kc, gM.ks]; omega) | exact Nat.le_of_ble_eq_true rfl | exact Nat.le_refl _ | omega) (by first | (dsimp only [mX9_isPicked, gM.dp, gM.kc, gM.ks]; omega) | exact Nat.le_of_ble_eq_true rfl | exact Nat.le_refl _ | omega) ?_
          refine done _ ?_
          unfold pkI
          rw [bI_t]
          exact Or.inr (Or.inr ⟨rfl, h128, hl⟩)
  refine GW.lload1 dX9_isPicked_0 ?_
  refine GW.iload5 dX9_isPicked_1 ?_
  refine GW.callSN nn_X9_63 st_isIn mt_X10_isIn (c_isIn (G := (im, ad, mc)) (w := w) (i := nI p)) dX9_isPicked_3 rfl rfl (by first | (dsimp only [mX9_isPicked, gM.dp, gM.kc, gM.ks]; omega) | exact Nat.le_of_ble_eq_true rfl | exact Nat.le_refl _ | omega) (by decide) (by first | (dsimp only [mX9_isPicked, gM.dp, gM.kc, gM.ks]; omega) | exact Nat.le_of_ble_eq_true rfl | exact Nat.le_refl _ | omega) (by first | (dsimp only [mX9_isPicked, gM.dp, gM.kc, gM.ks]; omega) | exact Nat.le_of_ble_eq_true rfl | exact Nat.le_refl _ | omega) (by first | exact Nat.le_of_ble_eq_true rfl | (simp [va_rf_cat]; done) | (simp [va_rf_cat, Value.category]; done)) (fun v3 G3 hq => ?_)
  obtain ⟨z, rfl, rfl, rfl⟩ := hq
  refine GW.istore9 dX9_isPicked_6 (g := ?_)
  refine GW.iload5 dX9_isPicked_8 ?_
  have no : ¬ (0 < p ∧ inI w (nI (entD t p).2.1) ≠ 0) → GW (mX9_isPicked 2 0 0) Q noX (im, ad, mc) 0 0 30 [some (.ref (ad 14)), some (.long w), none, some (.long picked), none, some (.int (nI p)), some (.ref a), some (.int part), some (.int n), some (.int (inI w (nI p))), none, none] [] := by
    intro h
    refine GW.iconst (v := 0) dX9_isPicked_30 (by decide) ?_
    have e : belI t w p = 0 := bI_f h
    rw [e] at at33
    exact at33
  refine GW.if_le (tgt := 30) dX9_isPicked_10 (by decide) (fun h10 => ?_) (fun h10 => ?_)
  · refine no fun h => ?_
    have := (mI_le (b := 0) (by omega) (by omega)).mp h10
    omega
  · have hp0 : 0 < p := by
      rcases Nat.eq_zero_or_pos p with q | q
      · rw [q] at h10; exact absurd (by decide) h10
      · exact q
    refine GW.lload1 dX9_isPicked_13 ?_
    refine GW.aload0 dX9_isPicked_14 (g := ?_)
    refine GW.iload5 dX9_isPicked_15 ?_
    refine GW.callV0 cv_X9_67 mt_X9_above (c_aboveT hw hp hs) dX9_isPicked_17 (by first | assumption | exact isV.gl (by assumption) | exact wkAt.gl (by assumption) | exact tbAt.gl (by assumption)) rfl rfl rfl rfl (by first | (dsimp only [mX9_isPicked, gM.dp, gM.kc, gM.ks]; omega) | exact Nat.le_of_ble_eq_true rfl | exact Nat.le_refl _ | omega) (by decide) (by first | (dsimp only [mX9_isPicked, gM.dp, gM.kc, gM.ks]; omega) | exact Nat.le_of_ble_eq_true rfl | exact Nat.le_refl _ | omega) (by first | (dsimp only [mX9_isPicked, gM.dp, gM.kc, gM.ks]; omega) | exact Nat.le_of_ble_eq_true rfl | exact Nat.le_refl _ | omega) (by first | exact Nat.le_of_ble_eq_true rfl | (simp [va_rf_cat]; done) | (simp [va_rf_cat, Value.category]; done)) rfl (fun _ _ h => h.elim) (fun v17 G17 hq => ?_)
    obtain ⟨z, rfl, rfl, rfl⟩ := hq
    refine GW.callSN nn_X9_63 st_isIn mt_X10_isIn (c_isIn (G := (im, ad, mc)) (w := w) (i := nI (entD t p).2.1)) dX9_isPicked_20 rfl rfl (by first | (dsimp only [mX9_isPicked, gM.dp, gM.kc, gM.ks]; omega) | exact Nat.le_of_ble_eq_true rfl | exact Nat.le_refl _ | omega) (by decide) (by first | (dsimp only [mX9_isPicked, gM.dp, gM.kc, gM.ks]; omega) | exact Nat.le_of_ble_eq_true rfl | exact Nat.le_refl _ | omega) (by first | (dsimp only [mX9_isPicked, gM.dp, gM.kc, gM.ks]; omega) | exact Nat.le_of_ble_eq_true rfl | exact Nat.le_refl _ | omega) (by first | exact Nat.le_of_ble_eq_true rfl | (simp [va_rf_cat]; done) | (simp [va_rf_cat, Value.category]; done)) (fun v20 G20 hq => ?_)
    obtain ⟨z, rfl, rfl, rfl⟩ := hq
    refine GW.if_eq (tgt := 30) dX9_isPicked_23 (by decide) (fun h23 => ?_) (fun h23 => ?_)
    · exact no fun h => h.2 h23
    · refine GW.iconst (v := 1) dX9_isPicked_26 (by decide) ?_
      refine GW.goto (tgt := 31) dX9_isPicked_27 (by decide) ?_
      have e : belI t w p = 1 := bI_t ⟨hp0, h23⟩
      rw [e] at at33
      exact at33
abbrev mX9_pick (d kc ks : Nat) : gM := (RX9, cX9_pick, 9, (some .long), [], "pick", d, kc, ks)
abbrev kX9_pick (d kc ks : Nat) (as : List Value) (G : gG) (Q : Option Value → gG → Prop) (X : String → gG → Prop) : Prop := Ctr yX9_pick cX9_pick 9 (some .long) d kc ks as G Q X
theorem oX9_pick {d kc ks : Nat} {as : List Value} {G : gG} {Q : Option Value → gG → Prop} {X : String → gG → Prop} {L : List (Option Value)} (hL : gEnt as = L) (hlen : (lg_sl as).length ≤ 9) (g : GW (mX9_pick d kc ks) Q X G 0 0 0 L []) : kX9_pick d kc ks as G Q X := Ctr.of (by decide +kernel) rfl rfl hL hlen g
theorem c_pick {w : Int64} {part n : Int32} (hw : wkT im ad mc t) (hs : szT t ≤ 50) (hpart : part = 1 ∨ part = 2 ∨ part = 3) :
    kX9_pick 3 0 0 [.ref (ad 14), .long w, .int part, .int n] (im, ad, mc) (ans (im, ad, mc) (fun r => r = .long (pkS t w part (szT t)))) noX := by
  obtain ⟨fw0, l140⟩ := wkT.gl (G := (im, ad, mc)) hw
  obtain ⟨v, pa, st, lv, hwk, -⟩ := id hw
  have l14 := wkAt.gl (G := (im, ad, mc)) hwk
  refine oX9_pick (L := [some (.ref (ad 14)), some (.long w), none, some (.int part), some (.int n), none, none, none, none, none, none, none]) rfl (Nat.le_of_ble_eq_true rfl) ?_
  generalize hQ : ans (im, ad, mc) (fun r => r = .long (pkS t w part (szT t))) = Q
  refine GW.lconst (v := 0) dX9_pick_0 (by decide) ?_
  refine GW.lstore5 dX9_pick_1 (g := ?_)
  refine GW.iconst (v := 0) dX9_pick_3 (by decide) ?_
  refine GW.istore7 dX9_pick_4 (g := ?_)
  have loop : ∀ (m p : Nat) (l8 : Option Value), p + m = szT t → GW (mX9_pick 3 0 0) Q noX (im, ad, mc) 0 0 6 [some (.ref (ad 14)), some (.long w), none, some (.int part), some (.int n), some (.long (pkS t w part p)), none, some (.int (nI p)), l8, none, none, none] [] := by
    intro m
    induction m with
    | zero =>
      intro p l8 hp
      refine GW.iload7 dX9_pick_6 ?_
      refine GW.aload0 dX9_pick_8 (g := ?_)
      refine GW.getf fl_X9_37 dX9_pick_9 (by assumption) (by rfl) ?_
      refine GW.icmp_ge (tgt := 60) dX9_pick_12 (by decide) (fun h12 => ?_) (fun h12 => ?_)
      · refine GW.lload5 dX9_pick_60 ?_
        refine GW.lreturn dX9_pick_62 rfl (by first | (dsimp only [mX9_pick, gM.dp, gM.kc, gM.ks]; omega) | exact Nat.le_of_ble_eq_true rfl | exact Nat.le_refl _ | omega) (by first | (dsimp only [mX9_pick, gM.dp, gM.kc, gM.ks]; omega) | exact Nat.le_of_ble_eq_true rfl | exact Nat.le_refl _ | omega) ?_
        subst hQ
        exact ⟨_, rfl, rfl, by rw [show p = szT t by omega]⟩
      · exact absurd ((mI_le (by omega) (by omega)).mpr (by omega)) h12
    | succ m ih =>
      intro p l8 hp
      refine GW.iload7 dX9_pick_6 ?_
      refine GW.aload0 dX9_pick_8 (g := ?_)
      refine GW.getf fl_X9_37 dX9_pick_9 (by assumption) (by rfl) ?_
      refine GW.icmp_ge (tgt := 60) dX9_pick_12 (by decide) (fun h12 => ?_) (fun h12 => ?_)
      · exact absurd ((mI_le (by omega) (by omega)).mp h12) (by omega)
      · refine GW.aload0 dX9_pick_15 (g := ?_)
        refine GW.iload7 dX9_pick_16 ?_
        refine GW.callV0 cv_X9_56 mt_X9_valueAt (c_valueT (p := p) hw (by omega) hs) dX9_pick_18 (by first | assumption | exact isV.gl (by assumption) | exact wkAt.gl (by assumption) | exact tbAt.gl (by assumption)) rfl rfl rfl rfl (by first | (dsimp only [mX9_pick, gM.dp, gM.kc, gM.ks]; omega) | exact Nat.le_of_ble_eq_true rfl | exact Nat.le_refl _ | omega) (by decide) (by first | (dsimp only [mX9_pick, gM.dp, gM.kc, gM.ks]; omega) | exact Nat.le_of_ble_eq_true rfl | exact Nat.le_refl _ | omega) (by first | (dsimp only [mX9_pick, gM.dp, gM.kc, gM.ks]; omega) | exact Nat.le_of_ble_eq_true rfl | exact Nat.le_refl _ | omega) (by first | exact Nat.le_of_ble_eq_true rfl | (simp [va_rf_cat]; done) | (simp [va_rf_cat, Value.category]; done)) rfl (fun _ _ h => h.elim) (fun v18 G18 hq => ?_)
        obtain ⟨b, rfl, rfl, hb⟩ := hq
        refine GW.astore8 dX9_pick_21 (g := ?_)
        refine GW.aload8 dX9_pick_23 (g := ?_)
        refine GW.ifnull (tgt := 54) dX9_pick_25 (by decide) (fun h25 => ?_) (fun r25 h25 => ?_)
        · cases h25
        · cases h25
          refine GW.aload0 dX9_pick_28 (g := ?_)
          refine GW.lload1 dX9_pick_29 ?_
          refine GW.lload5 dX9_pick_30 ?_
          refine GW.iload7 dX9_pick_32 ?_
          refine GW.aload8 dX9_pick_34 (g := ?_)
          refine GW.iload3 dX9_pick_36 ?_
          refine GW.iload4 dX9_pick_37 ?_
          refine GW.callV0 cv_X9_59 mt_X9_isPicked (c_isPicked (p := p) (a := b) (w := w) (picked := pkS t w part p) (part := part) (n := n) hw (by omega) hs hb hpart) dX9_pick_39 (by first | assumption | exact isV.gl (by assumption) | exact wkAt.gl (by assumption) | exact tbAt.gl (by assumption)) rfl rfl rfl rfl (by first | (dsimp only [mX9_pick, gM.dp, gM.kc, gM.ks]; omega) | exact Nat.le_of_ble_eq_true rfl | exact Nat.le_refl _ | omega) (by decide) (by first | (dsimp only [mX9_pick, gM.dp, gM.kc, gM.ks]; omega) | exact Nat.le_of_ble_eq_true rfl | exact Nat.le_refl _ | omega) (by first | (dsimp only [mX9_pick, gM.dp, gM.kc, gM.ks]; omega) | exact Nat.le_of_ble_eq_true rfl | exact Nat.le_refl _ | omega) (by first | exact Nat.le_of_ble_eq_true rfl | (simp [va_rf_cat]; done) | (simp [va_rf_cat, Value.category]; done)) rfl (fun _ _ h => h.elim) (fun v39 G39 hq => ?_)
          obtain ⟨z, rfl, rfl, rfl⟩ := hq
          refine GW.if_eq (tgt := 54) dX9_pick_42 (by decide) (fun h42 => ?_) (fun h42 => ?_)
          · have e : pkS t w part (p + 1) = pkS t w part p := if_pos h42
            refine GW.inc7 dX9_pick_54 (g := ?_)
            refine GW.goto (tgt := 6) dX9_pick_57 (by decide) ?_
            rw [mI_succ, ← e]
            exact ih (p + 1) _ (by omega)
          · have e : pkS t w part (p + 1) = pkS t w part p ||| (1 : Int64) <<< ((nI p).toInt64 &&& 63) := if_neg h42
            refine GW.lload5 dX9_pick_45 ?_
            refine GW.lconst (v := 1) dX9_pick_47 (by decide) ?_
            refine GW.iload7 dX9_pick_48 ?_
            refine GW.lshl dX9_pick_50 rfl ?_
            refine GW.lor dX9_pick_51 ?_
            refine GW.lstore5 dX9_pick_52 (g := ?_)
            refine GW.inc7 dX9_pick_54 (g := ?_)
            refine GW.goto (tgt := 6) dX9_pick_57 (by decide) ?_
            rw [mI_succ, ← e]
            exact ih (p + 1) _ (by omega)
  exact loop (szT t) 0 none (by omega)
abbrev mX6_findIn (d kc ks : Nat) : gM := (RX6, cX6_findIn, 5, (some .long), [], "findIn", d, kc, ks)
abbrev kX6_findIn (d kc ks : Nat) (as : List Value) (G : gG) (Q : Option Value → gG → Prop) (X : String → gG → Prop) : Prop := Ctr yX6_findIn cX6_findIn 5 (some .long) d kc ks as G Q X
theorem oX6_findIn {d kc ks : Nat} {as : List Value} {G : gG} {Q : Option Value → gG → Prop} {X : String → gG → Prop} {L : List (Option Value)} (hL : gEnt as = L) (hlen : (lg_sl as).length ≤ 5) (g : GW (mX6_findIn d kc ks) Q X G 0 0 0 L []) : kX6_findIn d kc ks as G Q X := Ctr.of (by decide +kernel) rfl rfl hL hlen g
theorem c_qfindIn {i : Nat} {q : List (Int32 × Int32)} (hw : wkT im ad mc t) (hs : szT t ≤ 50) (hq0 : qyAt ad mc i q) (hpart : ∀ x ∈ q, x.1 = 1 ∨ x.1 = 2 ∨ x.1 = 3) :
    kX6_findIn 4 0 0 [.ref (ad (50 + i)), .ref (ad 14)] (im, ad, mc) (ans (im, ad, mc) (fun r => r = .long (qfV t q))) noX := by
  obtain ⟨fw0, l14⟩ := wkT.gl (G := (im, ad, mc)) hw
  obtain ⟨hl5, h50, cf, nf, h60, h70, hcn⟩ := id hq0
  have l50 : gL (im, ad, mc) (ad (50 + i)) (.inl (6, [.int (nI q.length), .ref (ad (60 + i)), .ref (ad (70 + i))])) := Or.inr ⟨50 + i, rfl, h50⟩
  have l60 : gL (im, ad, mc) (ad (60 + i)) (.inr (0, 5, .inl cf)) := Or.inr ⟨60 + i, rfl, h60⟩
  have l70 : gL (im, ad, mc) (ad (70 + i)) (.inr (0, 5, .inl nf)) := Or.inr ⟨70 + i, rfl, h70⟩
  refine oX6_findIn (L := [some (.ref (ad (50 + i))), some (.ref (ad 14)), none, none, none, none, none, none, none, none, none, none]) rfl (Nat.le_of_ble_eq_true rfl) ?_
  generalize hQ : ans (im, ad, mc) (fun r => r = .long (qfV t q)) = Q
  refine GW.lconst (v := 1) dX6_findIn_0 (by decide) ?_
  refine GW.lstore2 dX6_findIn_1 (g := ?_)
  refine GW.iconst (v := 0) dX6_findIn_2 (by decide) ?_
  refine GW.istore4 dX6_findIn_3 (g := ?_)
  have loop : ∀ (m j : Nat), j + m = q.length → GW (mX6_findIn 4 0 0) Q noX (im, ad, mc) 0 0 5 [some (.ref (ad (50 + i))), some (.ref (ad 14)), some (.long ((q.take j).foldl (fun acc x => pkS t acc x.1 (szT t)) 1)), none, some (.int (nI j)), none, none, none, none, none, none, none] [] := by
    intro m
    induction m with
    | zero =>
      intro j hj
      refine GW.iload4 dX6_findIn_5 ?_
      refine GW.aload0 dX6_findIn_7 (g := ?_)
      refine GW.getf fl_X6_18 dX6_findIn_8 (by assumption) (by rfl) ?_
      refine GW.icmp_ge (tgt := 50) dX6_findIn_11 (by decide) (fun h11 => ?_) (fun h11 => ?_)
      · refine GW.lload2 dX6_findIn_50 ?_
        refine GW.lreturn dX6_findIn_51 rfl (by first | (dsimp only [mX6_findIn, gM.dp, gM.kc, gM.ks]; omega) | exact Nat.le_of_ble_eq_true rfl | exact Nat.le_refl _ | omega) (by first | (dsimp only [mX6_findIn, gM.dp, gM.kc, gM.ks]; omega) | exact Nat.le_of_ble_eq_true rfl | exact Nat.le_refl _ | omega) ?_
        subst hQ
        refine ⟨_, rfl, rfl, ?_⟩
        rw [List.take_of_length_le (by omega)]
        rfl
      · exact absurd ((mI_le (by omega) (by omega)).mpr (by omega)) h11
    | succ m ih =>
      intro j hj
      obtain ⟨x, hx⟩ : ∃ x, q[j]? = some x := ⟨_, List.getElem?_eq_getElem (by omega)⟩
      have hix : gIx (nI j) j 5 := mI_ix (by omega) (by omega)
      refine GW.iload4 dX6_findIn_5 ?_
      refine GW.aload0 dX6_findIn_7 (g := ?_)
      refine GW.getf fl_X6_18 dX6_findIn_8 (by assumption) (by rfl) ?_
      refine GW.icmp_ge (tgt := 50) dX6_findIn_11 (by decide) (fun h11 => ?_) (fun h11 => ?_)
      · exact absurd ((mI_le (by omega) (by omega)).mp h11) (by omega)
      · refine GW.iload4 dX6_findIn_14 ?_
        refine GW.aload0 dX6_findIn_16 (g := ?_)
        refine GW.getf fl_X6_9 dX6_findIn_17 (by assumption) (by rfl) ?_
        refine GW.alen dX6_findIn_20 (by assumption) (by decide) rfl ?_
        refine GW.icmp_ge (tgt := 50) dX6_findIn_21 (by decide) (fun h21 => ?_) (fun h21 => ?_)
        · exact absurd ((mI_le (a := 5) (by omega) (by omega)).mp h21) (by omega)
        · refine GW.aload1 dX6_findIn_24 (g := ?_)
          refine GW.lload2 dX6_findIn_25 ?_
          refine GW.aload0 dX6_findIn_26 (g := ?_)
          refine GW.getf fl_X6_9 dX6_findIn_27 (by assumption) (by rfl) ?_
          refine GW.iload4 dX6_findIn_30 ?_
          refine GW.iald dX6_findIn_32 (by assumption) (by assumption) ?_
          rw [(hcn j x hx).1]
          refine GW.aload0 dX6_findIn_33 (g := ?_)
          refine GW.getf fl_X6_15 dX6_findIn_34 (by assumption) (by rfl) ?_
          refine GW.iload4 dX6_findIn_37 ?_
          refine GW.iald dX6_findIn_39 (by assumption) (by assumption) ?_
          refine GW.callV0 cv_X6_22 mt_X9_pick (c_pick (w := (q.take j).foldl (fun acc x => pkS t acc x.1 (szT t)) 1) (part := x.1) (n := nf j) hw hs (hpart x (List.mem_of_getElem? hx))) dX6_findIn_40 (by first | assumption | exact isV.gl (by assumption) | exact wkAt.gl (by assumption) | exact tbAt.gl (by assumption)) rfl rfl rfl rfl (by first | (dsimp only [mX6_findIn, gM.dp, gM.kc, gM.ks]; omega) | exact Nat.le_of_ble_eq_true rfl | exact Nat.le_refl _ | omega) (by decide) (by first | (dsimp only [mX6_findIn, gM.dp, gM.kc, gM.ks]; omega) | exact Nat.le_of_ble_eq_true rfl | exact Nat.le_refl _ | omega) (by first | (dsimp only [mX6_findIn, gM.dp, gM.kc, gM.ks]; omega) | exact Nat.le_of_ble_eq_true rfl | exact Nat.le_refl _ | omega) (by first | exact Nat.le_of_ble_eq_true rfl | (simp [va_rf_cat]; done) | (simp [va_rf_cat, Value.category]; done)) rfl (fun _ _ h => h.elim) (fun v40 G40 hq => ?_)
          obtain ⟨z, rfl, rfl, rfl⟩ := hq
          refine GW.lstore2 dX6_findIn_43 (g := ?_)
          refine GW.inc4 dX6_findIn_44 (g := ?_)
          refine GW.goto (tgt := 5) dX6_findIn_47 (by decide) ?_
          rw [mI_succ]
          have := ih (j + 1) (by omega)
          rw [List.take_add_one, hx, List.foldl_append] at this
          exact this
  exact loop q.length 0 (by omega)
end WALK
