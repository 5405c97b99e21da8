/-! DIFFER, compare: sizeAt, cell, freeBehind, order, between and its group -/
theorem mI_mul (a b : Nat) : nI a * nI b = nI (a * b) := by unfold nI; rw [Int32.ofNat_mul]
theorem mI_min {a b : Nat} (ha : a < 2 ^ 31) (hb : b < 2 ^ 31) : (if nI b < nI a then nI b else nI a) = nI (min a b) := by
  by_cases h : b < a
  · rw [if_pos ((mI_lt hb ha).mpr h)]; congr 1; omega
  · rw [if_neg (fun q => h ((mI_lt hb ha).mp q))]; congr 1; omega
/-- keys from 0 to 100: the order of two is told by what is left of the one behind the other -/
theorem i32_sub {a b : Int32} (ha : 0 ≤ a ∧ a ≤ 100) (hb : 0 ≤ b ∧ b ≤ 100) : (a - b = 0 ↔ a = b) ∧ (a - b < 0 ↔ a < b) := by
  have h100 : (100 : Int32).toInt = 100 := by decide
  have h0 : (0 : Int32).toInt = 0 := by decide
  have e : (a - b).toInt = a.toInt - b.toInt := by
    have q1 := Int32.le_iff_toInt_le.mp ha.1
    have q2 := Int32.le_iff_toInt_le.mp ha.2
    have q3 := Int32.le_iff_toInt_le.mp hb.1
    have q4 := Int32.le_iff_toInt_le.mp hb.2
    rw [h0] at q1 q3
    rw [h100] at q2 q4
    rw [Int32.toInt_sub, Int.bmod_def]
    split <;> omega
  refine ⟨?_, ?_⟩
  · rw [← Int32.toInt_inj, ← Int32.toInt_inj, e, h0]; omega
  · rw [Int32.lt_iff_toInt_lt, Int32.lt_iff_toInt_lt, e, h0]; omega
/-- the fields of the object at a -/
def fsV (im : gIm) (a : Nat) : List Value := match im a with
  | some (.inl (_, fs)) => fs
  | _ => []
theorem isV.gl {G : gG} {a : Nat} {t : Tr} (h : isV G.1 a t) : gL G a (.inl (8, fsV G.1 a)) := by
  obtain ⟨kr, pq, hnd, -, -⟩ := h.node
  refine Or.inl ?_
  unfold fsV
  rw [hnd]
abbrev mX1_sizeAt (d kc ks : Nat) : gM := (RX1, cX1_sizeAt, 3, (some .int), [], "sizeAt", d, kc, ks)
abbrev kX1_sizeAt (d kc ks : Nat) (as : List Value) (G : gG) (Q : Option Value → gG → Prop) (X : String → gG → Prop) : Prop := Ctr yX1_sizeAt cX1_sizeAt 3 (some .int) d kc ks as G Q X
theorem oX1_sizeAt {d kc ks : Nat} {as : List Value} {G : gG} {Q : Option Value → gG → Prop} {X : String → gG → Prop} {L : List (Option Value)} (hL : gEnt as = L) (hlen : (lg_sl as).length ≤ 3) (g : GW (mX1_sizeAt d kc ks) Q X G 0 0 0 L []) : kX1_sizeAt d kc ks as G Q X := Ctr.of (by decide +kernel) rfl rfl hL hlen g
theorem c_sizeAt {G : gG} {a j : Nat} {t : Tr} {x : Int32 × Tr} (hv : isV G.1 a t) (hs : sml t) (hj : j < 2 ^ 31) (hx : (kids t.2.2)[j]? = some x) :
    kX1_sizeAt 1 0 0 [.ref a, .int (nI j)] G (ans G (fun w => w = .int (nI (szT x.2)))) noX := by
  refine oX1_sizeAt (L := [some (.ref a), some (.int (nI j)), none, none, none, none, none, none, none, none, none, none]) rfl (Nat.le_of_ble_eq_true rfl) ?_
  refine GW.aload0 dX1_sizeAt_0 (g := ?_)
  refine GW.iload1 dX1_sizeAt_1 ?_
  refine GW.callV0 cv_X1_55 mt_X8_partAt (c_partAt hv hs (nI j)) dX1_sizeAt_2 (by first | assumption | exact isV.gl (by assumption) | exact tbAt.gl (by assumption)) rfl rfl rfl rfl (by first | (dsimp only [mX1_sizeAt, gM.dp, gM.kc, gM.ks]; omega) | exact Nat.le_of_ble_eq_true rfl | exact Nat.le_refl _ | omega) (by decide) (by first | (dsimp only [mX1_sizeAt, gM.dp, gM.kc, gM.ks]; omega) | exact Nat.le_of_ble_eq_true rfl | exact Nat.le_refl _ | omega) (by first | (dsimp only [mX1_sizeAt, gM.dp, gM.kc, gM.ks]; omega) | exact Nat.le_of_ble_eq_true rfl | exact Nat.le_refl _ | omega) (by first | exact Nat.le_of_ble_eq_true rfl | (simp [va_rf_cat]; done) | (simp [va_rf_cat, Value.category]; done)) rfl (fun _ _ h => h.elim) (fun v2 G2 hq => ?_)
  obtain ⟨r, rfl, rfl, hr⟩ := hq
  rw [partT_mI hj, kid_some hx] at hr
  cases r with
  | none => exact hr.elim
  | some b =>
    have hr : isV G.1 b x.2 := hr
    obtain ⟨kr, pq, hnd, -, -⟩ := hr.node
    have hnd : gL G b (.inl (8, _)) := Or.inl hnd
    refine GW.astore2 dX1_sizeAt_5 (g := ?_)
    refine GW.aload2 dX1_sizeAt_6 (g := ?_)
    refine GW.ifnonnull (tgt := 14) dX1_sizeAt_7 (by decide) (fun r7 h7 => ?_) (fun h7 => ?_)
    · refine GW.aload2 dX1_sizeAt_14 (g := ?_)
      refine GW.getf fl_X1_38 dX1_sizeAt_15 (by assumption) (by rfl) ?_
      refine GW.ireturn dX1_sizeAt_18 (Or.inl rfl) (by first | (dsimp only [mX1_sizeAt, gM.dp, gM.kc, gM.ks]; omega) | exact Nat.le_of_ble_eq_true rfl | exact Nat.le_refl _ | omega) (by first | (dsimp only [mX1_sizeAt, gM.dp, gM.kc, gM.ks]; omega) | exact Nat.le_of_ble_eq_true rfl | exact Nat.le_refl _ | omega) ?_
      exact ⟨_, rfl, rfl, rfl⟩
    · cases h7
/-- the DIFFER: its object, its table -/
def tbAt (ad : Nat → Nat) (mc : Nat → Option gC) (cnt : Int32) (tb : Nat → Int32) : Prop :=
  mc 9 = some (.inl (1, [.ref (ad 10), .ref (ad 11), .ref (ad 12), .int cnt])) ∧ mc 10 = some (.inr (0, 2600, .inl tb))
/-- the table alone has changed, and nothing ahead of base -/
def tbCh (im : gIm) (ad : Nat → Nat) (mc : Nat → Option gC) (tb : Nat → Int32) (base : Nat) (G' : gG) (P : (Nat → Int32) → Prop) : Prop :=
  ∃ mc' tb', (im, ad, mc') = G' ∧ (∀ q, q ≠ 10 → mc' q = mc q) ∧ mc' 10 = some (.inr (0, 2600, .inl tb')) ∧ (∀ q, q < base → tb' q = tb q) ∧ P tb'
theorem tbAt.ch {ad : Nat → Nat} {mc mc' : Nat → Option gC} {cnt : Int32} {tb tb' : Nat → Int32} (h : tbAt ad mc cnt tb) (h1 : ∀ q, q ≠ 10 → mc' q = mc q) (h2 : mc' 10 = some (.inr (0, 2600, .inl tb'))) : tbAt ad mc' cnt tb' := ⟨(h1 9 (by decide)).trans h.1, h2⟩
theorem tbAt.gl {G : gG} {cnt : Int32} {tb : Nat → Int32} (h : tbAt G.2.1 G.2.2 cnt tb) : gL G (G.2.1 9) (.inl (1, [.ref (G.2.1 10), .ref (G.2.1 11), .ref (G.2.1 12), .int cnt])) := Or.inr ⟨9, rfl, h.1⟩
abbrev mX1_freeBehind (d kc ks : Nat) : gM := (RX1, cX1_freeBehind, 3, (some .int), [], "freeBehind", d, kc, ks)
abbrev kX1_freeBehind (d kc ks : Nat) (as : List Value) (G : gG) (Q : Option Value → gG → Prop) (X : String → gG → Prop) : Prop := Ctr yX1_freeBehind cX1_freeBehind 3 (some .int) d kc ks as G Q X
theorem oX1_freeBehind {d kc ks : Nat} {as : List Value} {G : gG} {Q : Option Value → gG → Prop} {X : String → gG → Prop} {L : List (Option Value)} (hL : gEnt as = L) (hlen : (lg_sl as).length ≤ 3) (g : GW (mX1_freeBehind d kc ks) Q X G 0 0 0 L []) : kX1_freeBehind d kc ks as G Q X := Ctr.of (by decide +kernel) rfl rfl hL hlen g
theorem c_freeBehind {G : gG} {a b base : Nat} {t u : Tr} (hv : isV G.1 a t) (hu : isV G.1 b u) :
    kX1_freeBehind 1 0 0 [.ref a, .ref b, .int (nI base)] G (ans G (fun w => w = .int (nI (base + (wd t + 1) * (wd u + 1))))) noX := by
  refine oX1_freeBehind (L := [some (.ref a), some (.ref b), some (.int (nI base)), none, none, none, none, none, none, none, none, none]) rfl (Nat.le_of_ble_eq_true rfl) ?_
  refine GW.iload2 dX1_freeBehind_0 ?_
  refine GW.aload0 dX1_freeBehind_1 (g := ?_)
  refine GW.callV0 cv_X1_47 mt_X8_width (c_width hv) dX1_freeBehind_2 (by first | assumption | exact isV.gl (by assumption) | exact tbAt.gl (by assumption)) rfl rfl rfl rfl (by first | (dsimp only [mX1_freeBehind, gM.dp, gM.kc, gM.ks]; omega) | exact Nat.le_of_ble_eq_true rfl | exact Nat.le_refl _ | omega) (by decide) (by first | (dsimp only [mX1_freeBehind, gM.dp, gM.kc, gM.ks]; omega) | exact Nat.le_of_ble_eq_true rfl | exact Nat.le_refl _ | omega) (by first | (dsimp only [mX1_freeBehind, gM.dp, gM.kc, gM.ks]; omega) | exact Nat.le_of_ble_eq_true rfl | exact Nat.le_refl _ | omega) (by first | exact Nat.le_of_ble_eq_true rfl | (simp [va_rf_cat]; done) | (simp [va_rf_cat, Value.category]; done)) rfl (fun _ _ h => h.elim) (fun v2 G2 hq => ?_)
  obtain ⟨w, rfl, rfl, rfl⟩ := hq
  refine GW.iconst (v := 1) dX1_freeBehind_5 (by decide) ?_
  refine GW.iadd dX1_freeBehind_6 ?_
  refine GW.aload1 dX1_freeBehind_7 (g := ?_)
  refine GW.callV0 cv_X1_47 mt_X8_width (c_width hu) dX1_freeBehind_8 (by first | assumption | exact isV.gl (by assumption) | exact tbAt.gl (by assumption)) rfl rfl rfl rfl (by first | (dsimp only [mX1_freeBehind, gM.dp, gM.kc, gM.ks]; omega) | exact Nat.le_of_ble_eq_true rfl | exact Nat.le_refl _ | omega) (by decide) (by first | (dsimp only [mX1_freeBehind, gM.dp, gM.kc, gM.ks]; omega) | exact Nat.le_of_ble_eq_true rfl | exact Nat.le_refl _ | omega) (by first | (dsimp only [mX1_freeBehind, gM.dp, gM.kc, gM.ks]; omega) | exact Nat.le_of_ble_eq_true rfl | exact Nat.le_refl _ | omega) (by first | exact Nat.le_of_ble_eq_true rfl | (simp [va_rf_cat]; done) | (simp [va_rf_cat, Value.category]; done)) rfl (fun _ _ h => h.elim) (fun v8 G8 hq => ?_)
  obtain ⟨w, rfl, rfl, rfl⟩ := hq
  refine GW.iconst (v := 1) dX1_freeBehind_11 (by decide) ?_
  refine GW.iadd dX1_freeBehind_12 ?_
  refine GW.imul dX1_freeBehind_13 ?_
  refine GW.iadd dX1_freeBehind_14 ?_
  rw [mI_succ, mI_succ, mI_mul, mI_add]
  refine GW.ireturn dX1_freeBehind_15 (Or.inl rfl) (by first | (dsimp only [mX1_freeBehind, gM.dp, gM.kc, gM.ks]; omega) | exact Nat.le_of_ble_eq_true rfl | exact Nat.le_refl _ | omega) (by first | (dsimp only [mX1_freeBehind, gM.dp, gM.kc, gM.ks]; omega) | exact Nat.le_of_ble_eq_true rfl | exact Nat.le_refl _ | omega) ?_
  exact ⟨_, rfl, rfl, rfl⟩
abbrev mX1_cell (d kc ks : Nat) : gM := (RX1, cX1_cell, 7, (some .int), [], "cell", d, kc, ks)
abbrev kX1_cell (d kc ks : Nat) (as : List Value) (G : gG) (Q : Option Value → gG → Prop) (X : String → gG → Prop) : Prop := Ctr yX1_cell cX1_cell 7 (some .int) d kc ks as G Q X
theorem oX1_cell {d kc ks : Nat} {as : List Value} {G : gG} {Q : Option Value → gG → Prop} {X : String → gG → Prop} {L : List (Option Value)} (hL : gEnt as = L) (hlen : (lg_sl as).length ≤ 7) (g : GW (mX1_cell d kc ks) Q X G 0 0 0 L []) : kX1_cell d kc ks as G Q X := Ctr.of (by decide +kernel) rfl rfl hL hlen g
theorem c_cell {im : gIm} {ad : Nat → Nat} {mc : Nat → Option gC} {cnt : Int32} {tb : Nat → Int32} {a b i j base : Nat} {t u : Tr} (hv : isV im a t) (hu : isV im b u) (ht : tbAt ad mc cnt tb) (hi : i ≤ wd t) (hj : j ≤ wd u) (hwt : wd t < 2 ^ 20) (hwu : wd u < 2 ^ 20) (hr : base + i * (wd u + 1) + j < 2600) :
    kX1_cell 1 0 0 [.ref (ad 9), .ref a, .int (nI i), .ref b, .int (nI j), .int (nI base)] (im, ad, mc) (ans (im, ad, mc) (fun w => w = .int (tb (base + i * (wd u + 1) + j)))) noX := by
  have l9 : gL (im, ad, mc) (ad 9) (.inl (1, _)) := Or.inr ⟨9, rfl, ht.1⟩
  have l10 : gL (im, ad, mc) (ad 10) (.inr (0, 2600, .inl tb)) := Or.inr ⟨10, rfl, ht.2⟩
  refine oX1_cell (L := [some (.ref (ad 9)), some (.ref a), some (.int (nI i)), some (.ref b), some (.int (nI j)), some (.int (nI base)), none, none, none, none, none, none]) rfl (Nat.le_of_ble_eq_true rfl) ?_
  refine GW.iload5 dX1_cell_0 ?_
  refine GW.iload2 dX1_cell_2 ?_
  refine GW.aload3 dX1_cell_3 (g := ?_)
  refine GW.callV0 cv_X1_47 mt_X8_width (c_width (G := (im, ad, mc)) hu) dX1_cell_4 (by first | assumption | exact isV.gl (by assumption) | exact tbAt.gl (by assumption)) rfl rfl rfl rfl (by first | (dsimp only [mX1_cell, gM.dp, gM.kc, gM.ks]; omega) | exact Nat.le_of_ble_eq_true rfl | exact Nat.le_refl _ | omega) (by decide) (by first | (dsimp only [mX1_cell, gM.dp, gM.kc, gM.ks]; omega) | exact Nat.le_of_ble_eq_true rfl | exact Nat.le_refl _ | omega) (by first | (dsimp only [mX1_cell, gM.dp, gM.kc, gM.ks]; omega) | exact Nat.le_of_ble_eq_true rfl | exact Nat.le_refl _ | omega) (by first | exact Nat.le_of_ble_eq_true rfl | (simp [va_rf_cat]; done) | (simp [va_rf_cat, Value.category]; done)) rfl (fun _ _ h => h.elim) (fun v4 G4 hq => ?_)
  obtain ⟨w, rfl, rfl, rfl⟩ := hq
  refine GW.iconst (v := 1) dX1_cell_7 (by decide) ?_
  refine GW.iadd dX1_cell_8 ?_
  refine GW.imul dX1_cell_9 ?_
  rw [mI_succ, mI_mul]
  refine GW.iadd dX1_cell_10 ?_
  refine GW.iload4 dX1_cell_11 ?_
  rw [mI_add]
  refine GW.iadd dX1_cell_13 ?_
  rw [mI_add]
  refine GW.istore6 dX1_cell_14 (g := ?_)
  refine GW.iload2 dX1_cell_16 ?_
  refine GW.aload1 dX1_cell_17 (g := ?_)
  refine GW.callV0 cv_X1_47 mt_X8_width (c_width (G := (im, ad, mc)) hv) dX1_cell_18 (by first | assumption | exact isV.gl (by assumption) | exact tbAt.gl (by assumption)) rfl rfl rfl rfl (by first | (dsimp only [mX1_cell, gM.dp, gM.kc, gM.ks]; omega) | exact Nat.le_of_ble_eq_true rfl | exact Nat.le_refl _ | omega) (by decide) (by first | (dsimp only [mX1_cell, gM.dp, gM.kc, gM.ks]; omega) | exact Nat.le_of_ble_eq_true rfl | exact Nat.le_refl _ | omega) (by first | (dsimp only [mX1_cell, gM.dp, gM.kc, gM.ks]; omega) | exact Nat.le_of_ble_eq_true rfl | exact Nat.le_refl _ | omega) (by first | exact Nat.le_of_ble_eq_true rfl | (simp [va_rf_cat]; done) | (simp [va_rf_cat, Value.category]; done)) rfl (fun _ _ h => h.elim) (fun v18 G18 hq => ?_)
  obtain ⟨w, rfl, rfl, rfl⟩ := hq
  refine GW.icmp_gt (tgt := 48) dX1_cell_21 (by decide) (fun h21 => ?_) (fun h21 => ?_)
  · exact absurd ((mI_lt (by omega) (by omega)).mp h21) (by omega)
  · refine GW.iload4 dX1_cell_24 ?_
    refine GW.aload3 dX1_cell_26 (g := ?_)
    refine GW.callV0 cv_X1_47 mt_X8_width (c_width (G := (im, ad, mc)) hu) dX1_cell_27 (by first | assumption | exact isV.gl (by assumption) | exact tbAt.gl (by assumption)) rfl rfl rfl rfl (by first | (dsimp only [mX1_cell, gM.dp, gM.kc, gM.ks]; omega) | exact Nat.le_of_ble_eq_true rfl | exact Nat.le_refl _ | omega) (by decide) (by first | (dsimp only [mX1_cell, gM.dp, gM.kc, gM.ks]; omega) | exact Nat.le_of_ble_eq_true rfl | exact Nat.le_refl _ | omega) (by first | (dsimp only [mX1_cell, gM.dp, gM.kc, gM.ks]; omega) | exact Nat.le_of_ble_eq_true rfl | exact Nat.le_refl _ | omega) (by first | exact Nat.le_of_ble_eq_true rfl | (simp [va_rf_cat]; done) | (simp [va_rf_cat, Value.category]; done)) rfl (fun _ _ h => h.elim) (fun v27 G27 hq => ?_)
    obtain ⟨w, rfl, rfl, rfl⟩ := hq
    refine GW.icmp_gt (tgt := 48) dX1_cell_30 (by decide) (fun h30 => ?_) (fun h30 => ?_)
    · exact absurd ((mI_lt (by omega) (by omega)).mp h30) (by omega)
    · refine GW.iload6 dX1_cell_33 ?_
      refine GW.if_lt (tgt := 48) dX1_cell_35 (by decide) (fun h35 => ?_) (fun h35 => ?_)
      · exact absurd h35 (mI_nonneg (by omega))
      · refine GW.iload6 dX1_cell_38 ?_
        refine GW.aload0 dX1_cell_40 (g := ?_)
        refine GW.getf fl_X1_9 dX1_cell_41 (by assumption) (by rfl) ?_
        refine GW.alen dX1_cell_44 (by assumption) (by decide) rfl ?_
        refine GW.icmp_lt (tgt := 50) dX1_cell_45 (by decide) (fun h45 => ?_) (fun h45 => ?_)
        · have hix : gIx (nI (base + i * (wd u + 1) + j)) (base + i * (wd u + 1) + j) 2600 := mI_ix hr (by omega)
          refine GW.aload0 dX1_cell_50 (g := ?_)
          refine GW.getf fl_X1_9 dX1_cell_51 (by assumption) (by rfl) ?_
          refine GW.iload6 dX1_cell_54 ?_
          refine GW.iald dX1_cell_56 (by assumption) (by assumption) ?_
          refine GW.ireturn dX1_cell_57 (Or.inl rfl) (by first | (dsimp only [mX1_cell, gM.dp, gM.kc, gM.ks]; omega) | exact Nat.le_of_ble_eq_true rfl | exact Nat.le_refl _ | omega) (by first | (dsimp only [mX1_cell, gM.dp, gM.kc, gM.ks]; omega) | exact Nat.le_of_ble_eq_true rfl | exact Nat.le_refl _ | omega) ?_
          exact ⟨_, rfl, rfl, rfl⟩
        · exact absurd ((mI_lt (b := 2600) (by omega) (by omega)).mpr hr) h45
/-- the key at a place of an OBJECT, 100 behind the last -/
def kyT (t : Tr) (i : Nat) : Int32 := match (kids t.2.2)[i]? with
  | some x => x.1
  | none => 100
theorem kyT_some {t : Tr} {i : Nat} {x : Int32 × Tr} (h : (kids t.2.2)[i]? = some x) : kyT t i = x.1 := by unfold kyT; rw [h]
theorem kyT_none {t : Tr} {i : Nat} (h : wd t ≤ i) : kyT t i = 100 := by unfold kyT; rw [List.getElem?_eq_none h]
theorem kyT_rng {t : Tr} (h : wfT t) (h4 : t.1 = 4) (i : Nat) : 0 ≤ kyT t i ∧ kyT t i ≤ 100 := by
  cases hx : (kids t.2.2)[i]? with
  | none =>
    have : kyT t i = 100 := by unfold kyT; rw [hx]
    rw [this]; decide
  | some x =>
    rw [kyT_some hx]
    have := (h.1.2.2.2.2 h4).2 x (List.mem_of_getElem? hx)
    exact ⟨this.1, Int32.le_trans this.2 (by decide)⟩
abbrev mX1_order (d kc ks : Nat) : gM := (RX1, cX1_order, 6, (some .int), [], "order", d, kc, ks)
abbrev kX1_order (d kc ks : Nat) (as : List Value) (G : gG) (Q : Option Value → gG → Prop) (X : String → gG → Prop) : Prop := Ctr yX1_order cX1_order 6 (some .int) d kc ks as G Q X
theorem oX1_order {d kc ks : Nat} {as : List Value} {G : gG} {Q : Option Value → gG → Prop} {X : String → gG → Prop} {L : List (Option Value)} (hL : gEnt as = L) (hlen : (lg_sl as).length ≤ 6) (g : GW (mX1_order d kc ks) Q X G 0 0 0 L []) : kX1_order d kc ks as G Q X := Ctr.of (by decide +kernel) rfl rfl hL hlen g
theorem c_order {G : gG} {a b i j : Nat} {t u : Tr} (hv : isV G.1 a t) (hu : isV G.1 b u) (h4 : t.1 = 4) (h4u : u.1 = 4) (hst : sml t) (hsu : sml u) (hi : i < 2 ^ 31) (hj : j < 2 ^ 31) :
    kX1_order 1 0 0 [.ref a, .int (nI i), .ref b, .int (nI j)] G (ans G (fun w => w = .int (kyT t i - kyT u j))) noX := by
  have hwt := hst.wd
  have hwu := hsu.wd
  refine oX1_order (L := [some (.ref a), some (.int (nI i)), some (.ref b), some (.int (nI j)), none, none, none, none, none, none, none, none]) rfl (Nat.le_of_ble_eq_true rfl) ?_
  have snd : ∀ k : Int32, GW (mX1_order 1 0 0) (ans G (fun w => w = .int (k - kyT u j))) noX G 0 0 20 [some (.ref a), some (.int (nI i)), some (.ref b), some (.int (nI j)), some (.int k), none, none, none, none, none, none, none] [] := by
    intro k
    refine GW.iload3 dX1_order_20 ?_
    refine GW.aload2 dX1_order_21 (g := ?_)
    refine GW.callV0 cv_X1_47 mt_X8_width (c_width hu) dX1_order_22 (by first | assumption | exact isV.gl (by assumption) | exact tbAt.gl (by assumption)) rfl rfl rfl rfl (by first | (dsimp only [mX1_order, gM.dp, gM.kc, gM.ks]; omega) | exact Nat.le_of_ble_eq_true rfl | exact Nat.le_refl _ | omega) (by decide) (by first | (dsimp only [mX1_order, gM.dp, gM.kc, gM.ks]; omega) | exact Nat.le_of_ble_eq_true rfl | exact Nat.le_refl _ | omega) (by first | (dsimp only [mX1_order, gM.dp, gM.kc, gM.ks]; omega) | exact Nat.le_of_ble_eq_true rfl | exact Nat.le_refl _ | omega) (by first | exact Nat.le_of_ble_eq_true rfl | (simp [va_rf_cat]; done) | (simp [va_rf_cat, Value.category]; done)) rfl (fun _ _ h => h.elim) (fun v22 G22 hq => ?_)
    obtain ⟨w, rfl, rfl, rfl⟩ := hq
    refine GW.icmp_ge (tgt := 36) dX1_order_25 (by decide) (fun h25 => ?_) (fun h25 => ?_)
    · have hge := (mI_le (by omega) hj).mp h25
      refine GW.bipush (v := 100) dX1_order_36 (by decide) ?_
      refine GW.istore5 dX1_order_38 (g := ?_)
      refine GW.iload4 dX1_order_40 ?_
      refine GW.iload5 dX1_order_42 ?_
      refine GW.isub dX1_order_44 ?_
      refine GW.ireturn dX1_order_45 (Or.inl rfl) (by first | (dsimp only [mX1_order, gM.dp, gM.kc, gM.ks]; omega) | exact Nat.le_of_ble_eq_true rfl | exact Nat.le_refl _ | omega) (by first | (dsimp only [mX1_order, gM.dp, gM.kc, gM.ks]; omega) | exact Nat.le_of_ble_eq_true rfl | exact Nat.le_refl _ | omega) ?_
      exact ⟨_, rfl, rfl, by rw [kyT_none hge]⟩
    · have hlt : j < wd u := by
        rcases Nat.lt_or_ge j (wd u) with q | q
        · exact q
        · exact absurd ((mI_le (by omega) hj).mpr q) h25
      obtain ⟨x, hx⟩ : ∃ x, (kids u.2.2)[j]? = some x := ⟨_, List.getElem?_eq_getElem hlt⟩
      refine GW.aload2 dX1_order_28 (g := ?_)
      refine GW.iload3 dX1_order_29 ?_
      refine GW.callV0 cv_X1_63 mt_X8_stepOf (c_stepOf hu hsu (nI j)) dX1_order_30 (by first | assumption | exact isV.gl (by assumption) | exact tbAt.gl (by assumption)) rfl rfl rfl rfl (by first | (dsimp only [mX1_order, gM.dp, gM.kc, gM.ks]; omega) | exact Nat.le_of_ble_eq_true rfl | exact Nat.le_refl _ | omega) (by decide) (by first | (dsimp only [mX1_order, gM.dp, gM.kc, gM.ks]; omega) | exact Nat.le_of_ble_eq_true rfl | exact Nat.le_refl _ | omega) (by first | (dsimp only [mX1_order, gM.dp, gM.kc, gM.ks]; omega) | exact Nat.le_of_ble_eq_true rfl | exact Nat.le_refl _ | omega) (by first | exact Nat.le_of_ble_eq_true rfl | (simp [va_rf_cat]; done) | (simp [va_rf_cat, Value.category]; done)) rfl (fun _ _ h => h.elim) (fun v30 G30 hq => ?_)
      obtain ⟨w, rfl, rfl, rfl⟩ := hq
      rw [stepT_mI hj hx, if_pos h4u]
      refine GW.goto (tgt := 38) dX1_order_33 (by decide) ?_
      refine GW.istore5 dX1_order_38 (g := ?_)
      refine GW.iload4 dX1_order_40 ?_
      refine GW.iload5 dX1_order_42 ?_
      refine GW.isub dX1_order_44 ?_
      refine GW.ireturn dX1_order_45 (Or.inl rfl) (by first | (dsimp only [mX1_order, gM.dp, gM.kc, gM.ks]; omega) | exact Nat.le_of_ble_eq_true rfl | exact Nat.le_refl _ | omega) (by first | (dsimp only [mX1_order, gM.dp, gM.kc, gM.ks]; omega) | exact Nat.le_of_ble_eq_true rfl | exact Nat.le_refl _ | omega) ?_
      exact ⟨_, rfl, rfl, by rw [kyT_some hx]⟩
  refine GW.iload1 dX1_order_0 ?_
  refine GW.aload0 dX1_order_1 (g := ?_)
  refine GW.callV0 cv_X1_47 mt_X8_width (c_width hv) dX1_order_2 (by first | assumption | exact isV.gl (by assumption) | exact tbAt.gl (by assumption)) rfl rfl rfl rfl (by first | (dsimp only [mX1_order, gM.dp, gM.kc, gM.ks]; omega) | exact Nat.le_of_ble_eq_true rfl | exact Nat.le_refl _ | omega) (by decide) (by first | (dsimp only [mX1_order, gM.dp, gM.kc, gM.ks]; omega) | exact Nat.le_of_ble_eq_true rfl | exact Nat.le_refl _ | omega) (by first | (dsimp only [mX1_order, gM.dp, gM.kc, gM.ks]; omega) | exact Nat.le_of_ble_eq_true rfl | exact Nat.le_refl _ | omega) (by first | exact Nat.le_of_ble_eq_true rfl | (simp [va_rf_cat]; done) | (simp [va_rf_cat, Value.category]; done)) rfl (fun _ _ h => h.elim) (fun v2 G2 hq => ?_)
  obtain ⟨w, rfl, rfl, rfl⟩ := hq
  refine GW.icmp_ge (tgt := 16) dX1_order_5 (by decide) (fun h5 => ?_) (fun h5 => ?_)
  · have hge := (mI_le (by omega) hi).mp h5
    refine GW.bipush (v := 100) dX1_order_16 (by decide) ?_
    refine GW.istore4 dX1_order_18 (g := ?_)
    have := snd 100
    rw [← kyT_none hge] at this
    rw [← kyT_none hge]
    exact this
  · have hlt : i < wd t := by
      rcases Nat.lt_or_ge i (wd t) with q | q
      · exact q
      · exact absurd ((mI_le (by omega) hi).mpr q) h5
    obtain ⟨x, hx⟩ : ∃ x, (kids t.2.2)[i]? = some x := ⟨_, List.getElem?_eq_getElem hlt⟩
    refine GW.aload0 dX1_order_8 (g := ?_)
    refine GW.iload1 dX1_order_9 ?_
    refine GW.callV0 cv_X1_63 mt_X8_stepOf (c_stepOf hv hst (nI i)) dX1_order_10 (by first | assumption | exact isV.gl (by assumption) | exact tbAt.gl (by assumption)) rfl rfl rfl rfl (by first | (dsimp only [mX1_order, gM.dp, gM.kc, gM.ks]; omega) | exact Nat.le_of_ble_eq_true rfl | exact Nat.le_refl _ | omega) (by decide) (by first | (dsimp only [mX1_order, gM.dp, gM.kc, gM.ks]; omega) | exact Nat.le_of_ble_eq_true rfl | exact Nat.le_refl _ | omega) (by first | (dsimp only [mX1_order, gM.dp, gM.kc, gM.ks]; omega) | exact Nat.le_of_ble_eq_true rfl | exact Nat.le_refl _ | omega) (by first | exact Nat.le_of_ble_eq_true rfl | (simp [va_rf_cat]; done) | (simp [va_rf_cat, Value.category]; done)) rfl (fun _ _ h => h.elim) (fun v10 G10 hq => ?_)
    obtain ⟨w, rfl, rfl, rfl⟩ := hq
    rw [stepT_mI hi hx, if_pos h4]
    refine GW.goto (tgt := 18) dX1_order_13 (by decide) ?_
    refine GW.istore4 dX1_order_18 (g := ?_)
    have := snd x.1
    rw [← kyT_some hx] at this
    rw [← kyT_some hx]
    exact this
abbrev mX1_between (d kc ks : Nat) : gM := (RX1, cX1_between, 5, (some .int), [], "between", d, kc, ks)
abbrev kX1_between (d kc ks : Nat) (as : List Value) (G : gG) (Q : Option Value → gG → Prop) (X : String → gG → Prop) : Prop := Ctr yX1_between cX1_between 5 (some .int) d kc ks as G Q X
theorem oX1_between {d kc ks : Nat} {as : List Value} {G : gG} {Q : Option Value → gG → Prop} {X : String → gG → Prop} {L : List (Option Value)} (hL : gEnt as = L) (hlen : (lg_sl as).length ≤ 5) (g : GW (mX1_between d kc ks) Q X G 0 0 0 L []) : kX1_between d kc ks as G Q X := Ctr.of (by decide +kernel) rfl rfl hL hlen g
abbrev mX1_fillTable (d kc ks : Nat) : gM := (RX1, cX1_fillTable, 9, (some .boolean), [], "fillTable", d, kc, ks)
abbrev kX1_fillTable (d kc ks : Nat) (as : List Value) (G : gG) (Q : Option Value → gG → Prop) (X : String → gG → Prop) : Prop := Ctr yX1_fillTable cX1_fillTable 9 (some .boolean) d kc ks as G Q X
theorem oX1_fillTable {d kc ks : Nat} {as : List Value} {G : gG} {Q : Option Value → gG → Prop} {X : String → gG → Prop} {L : List (Option Value)} (hL : gEnt as = L) (hlen : (lg_sl as).length ≤ 9) (g : GW (mX1_fillTable d kc ks) Q X G 0 0 0 L []) : kX1_fillTable d kc ks as G Q X := Ctr.of (by decide +kernel) rfl rfl hL hlen g
abbrev mX1_leastFrom (d kc ks : Nat) : gM := (RX1, cX1_leastFrom, 8, (some .int), [], "leastFrom", d, kc, ks)
abbrev kX1_leastFrom (d kc ks : Nat) (as : List Value) (G : gG) (Q : Option Value → gG → Prop) (X : String → gG → Prop) : Prop := Ctr yX1_leastFrom cX1_leastFrom 8 (some .int) d kc ks as G Q X
theorem oX1_leastFrom {d kc ks : Nat} {as : List Value} {G : gG} {Q : Option Value → gG → Prop} {X : String → gG → Prop} {L : List (Option Value)} (hL : gEnt as = L) (hlen : (lg_sl as).length ≤ 8) (g : GW (mX1_leastFrom d kc ks) Q X G 0 0 0 L []) : kX1_leastFrom d kc ks as G Q X := Ctr.of (by decide +kernel) rfl rfl hL hlen g
abbrev mX1_pairedFrom (d kc ks : Nat) : gM := (RX1, cX1_pairedFrom, 7, (some .int), [], "pairedFrom", d, kc, ks)
abbrev kX1_pairedFrom (d kc ks : Nat) (as : List Value) (G : gG) (Q : Option Value → gG → Prop) (X : String → gG → Prop) : Prop := Ctr yX1_pairedFrom cX1_pairedFrom 7 (some .int) d kc ks as G Q X
theorem oX1_pairedFrom {d kc ks : Nat} {as : List Value} {G : gG} {Q : Option Value → gG → Prop} {X : String → gG → Prop} {L : List (Option Value)} (hL : gEnt as = L) (hlen : (lg_sl as).length ≤ 7) (g : GW (mX1_pairedFrom d kc ks) Q X G 0 0 0 L []) : kX1_pairedFrom d kc ks as G Q X := Ctr.of (by decide +kernel) rfl rfl hL hlen g
abbrev mX1_betweenObjects (d kc ks : Nat) : gM := (RX1, cX1_betweenObjects, 10, (some .int), [], "betweenObjects", d, kc, ks)
abbrev kX1_betweenObjects (d kc ks : Nat) (as : List Value) (G : gG) (Q : Option Value → gG → Prop) (X : String → gG → Prop) : Prop := Ctr yX1_betweenObjects cX1_betweenObjects 10 (some .int) d kc ks as G Q X
theorem oX1_betweenObjects {d kc ks : Nat} {as : List Value} {G : gG} {Q : Option Value → gG → Prop} {X : String → gG → Prop} {L : List (Option Value)} (hL : gEnt as = L) (hlen : (lg_sl as).length ≤ 10) (g : GW (mX1_betweenObjects d kc ks) Q X G 0 0 0 L []) : kX1_betweenObjects d kc ks as G Q X := Ctr.of (by decide +kernel) rfl rfl hL hlen g
/-- between answers, at depth n -/
def Bt (n : Nat) : Prop := ∀ {im : gIm} {ad : Nat → Nat} {mc : Nat → Option gC} {cnt : Int32} {tb : Nat → Int32} {a b l base : Nat} {t u : Tr}, isV im a t → isV im b u → wfT t → wfT u → dpT t ≤ n → szT t ≤ 50 → szT u ≤ 50 → l + n ≤ 41 → base + szT t * szT u + dpT t ≤ 2600 → tbAt ad mc cnt tb →
  kX1_between (4 * n + 4) 0 0 [.ref (ad 9), va_rf (some a), va_rf (some b), .int (nI l), .int (nI base)] (im, ad, mc) (fun v G' => v = some (.int (nI (Df n t u))) ∧ tbCh im ad mc tb base G' (fun _ => True)) noX
theorem roomA {t u x y : Tr} {i j base : Nat} (hx : kid t i = some x) (hy : kid u j = some y) (hd : dpT x < dpT t) (h : base + szT t * szT u + dpT t ≤ 2600) : base + (wd t + 1) * (wd u + 1) + szT x * szT y + dpT x ≤ 2600 := by
  have h1 := szT_kid hx
  have h2 := szT_kid hy
  have p1 := szT_pos x
  have p2 := szT_pos y
  have h3 : (wd t + szT x) * (wd u + szT y) ≤ szT t * szT u := Nat.mul_le_mul h1 h2
  rw [Nat.add_mul, Nat.mul_add, Nat.mul_add] at h3
  rw [Nat.add_mul, Nat.mul_add]
  have q1 : wd t ≤ wd t * szT y := Nat.le_mul_of_pos_right _ p2
  have q2 : wd u ≤ szT x * wd u := Nat.le_mul_of_pos_left _ p1
  omega
theorem roomB {t u : Tr} {i j base : Nat} (hi : i ≤ wd t) (hj : j ≤ wd u) (h : base + szT t * szT u + dpT t ≤ 2600) : base + i * (wd u + 1) + j < base + (wd t + 1) * (wd u + 1) ∧ base + (wd t + 1) * (wd u + 1) ≤ 2600 := by
  have h1 := len_szL (kids t.2.2)
  have h2 := len_szL (kids u.2.2)
  have e1 := szT_kids t
  have e2 := szT_kids u
  have h3 : (wd t + 1) * (wd u + 1) ≤ szT t * szT u := Nat.mul_le_mul (by unfold wd; omega) (by unfold wd; omega)
  have h4 : i * (wd u + 1) ≤ wd t * (wd u + 1) := Nat.mul_le_mul_right _ hi
  have h5 : (wd t + 1) * (wd u + 1) = wd t * (wd u + 1) + (wd u + 1) := by rw [Nat.add_mul, Nat.one_mul]
  omega
theorem drop_cons {xs : List (Int32 × Tr)} {i : Nat} {x : Int32 × Tr} (h : xs[i]? = some x) : xs.drop i = x :: xs.drop (i + 1) := by
  have hl := (List.getElem?_eq_some_iff.mp h)
  rw [List.drop_eq_getElem_cons hl.1, hl.2]
section GROUP
variable {im : gIm} {ad : Nat → Nat} {mc : Nat → Option gC} {cnt : Int32} {tb : Nat → Int32} {a b l base n : Nat} {t u : Tr}
/-- what is given of the two, at depth n + 1 -/
def bP (im : gIm) (a b l base n : Nat) (t u : Tr) : Prop := isV im a t ∧ isV im b u ∧ wfT t ∧ wfT u ∧ dpT t ≤ n + 1 ∧ szT t ≤ 50 ∧ szT u ≤ 50 ∧ l + (n + 1) ≤ 41 ∧ base + szT t * szT u + dpT t ≤ 2600
theorem bP.s (h : bP im a b l base n t u) : sml t ∧ sml u ∧ wd t < 50 ∧ wd u < 50 := by
  obtain ⟨-, -, -, -, -, h6, h7, -⟩ := h
  have h1 := len_szL (kids t.2.2)
  have h2 := len_szL (kids u.2.2)
  have e1 := szT_kids t
  have e2 := szT_kids u
  exact ⟨by unfold sml; omega, by unfold sml; omega, by unfold wd; omega, by unfold wd; omega⟩
theorem c_pairedFrom (hB : Bt n) (h : bP im a b l base n t u) (ht : tbAt ad mc cnt tb) {i j : Nat} {x y : Int32 × Tr} (hx : (kids t.2.2)[i]? = some x) (hy : (kids u.2.2)[j]? = some y) :
    kX1_pairedFrom (4 * n + 5) 0 0 [.ref (ad 9), .ref a, .int (nI i), .ref b, .int (nI j), .int (nI l), .int (nI base)] (im, ad, mc) (fun v G' => v = some (.int (nI (Df n x.2 y.2) + tb (base + (i + 1) * (wd u + 1) + (j + 1)))) ∧ tbCh im ad mc tb (base + (wd t + 1) * (wd u + 1)) G' (fun _ => True)) noX := by
  obtain ⟨hst, hsu, hwt, hwu⟩ := h.s
  obtain ⟨hv, hu, hwft, hwfu, hd, h6, h7, hl, hr⟩ := h
  have hi : i < wd t := (List.getElem?_eq_some_iff.mp hx).1
  have hj : j < wd u := (List.getElem?_eq_some_iff.mp hy).1
  have hmx := List.mem_of_getElem? hx
  have hmy := List.mem_of_getElem? hy
  have hdx := kid_dp hmx
  have hsx := kid_sz hmx
  have hsy := kid_sz hmy
  refine oX1_pairedFrom (L := [some (.ref (ad 9)), some (.ref a), some (.int (nI i)), some (.ref b), some (.int (nI j)), some (.int (nI l)), some (.int (nI base)), none, none, none, none, none]) rfl (Nat.le_of_ble_eq_true rfl) ?_
  refine GW.aload0 dX1_pairedFrom_0 (g := ?_)
  refine GW.aload1 dX1_pairedFrom_1 (g := ?_)
  refine GW.iload2 dX1_pairedFrom_2 ?_
  refine GW.callV0 cv_X1_55 mt_X8_partAt (c_partAt (G := (im, ad, mc)) hv hst (nI i)) dX1_pairedFrom_3 (by first | assumption | exact isV.gl (by assumption) | exact tbAt.gl (by assumption)) rfl rfl rfl rfl (by first | (dsimp only [mX1_pairedFrom, gM.dp, gM.kc, gM.ks]; omega) | exact Nat.le_of_ble_eq_true rfl | exact Nat.le_refl _ | omega) (by decide) (by first | (dsimp only [mX1_pairedFrom, gM.dp, gM.kc, gM.ks]; omega) | exact Nat.le_of_ble_eq_true rfl | exact Nat.le_refl _ | omega) (by first | (dsimp only [mX1_pairedFrom, gM.dp, gM.kc, gM.ks]; omega) | exact Nat.le_of_ble_eq_true rfl | exact Nat.le_refl _ | omega) (by first | exact Nat.le_of_ble_eq_true rfl | (simp [va_rf_cat]; done) | (simp [va_rf_cat, Value.category]; done)) rfl (fun _ _ h => h.elim) (fun v3 G3 hq => ?_)
  obtain ⟨r1, rfl, rfl, hq1⟩ := hq
  rw [partT_mI (by omega), kid_some hx] at hq1
  cases r1 with
  | none => exact hq1.elim
  | some b1 =>
    refine GW.aload3 dX1_pairedFrom_6 (g := ?_)
    refine GW.iload4 dX1_pairedFrom_7 ?_
    refine GW.callV0 cv_X1_55 mt_X8_partAt (c_partAt (G := (im, ad, mc)) hu hsu (nI j)) dX1_pairedFrom_9 (by first | assumption | exact isV.gl (by assumption) | exact tbAt.gl (by assumption)) rfl rfl rfl rfl (by first | (dsimp only [mX1_pairedFrom, gM.dp, gM.kc, gM.ks]; omega) | exact Nat.le_of_ble_eq_true rfl | exact Nat.le_refl _ | omega) (by decide) (by first | (dsimp only [mX1_pairedFrom, gM.dp, gM.kc, gM.ks]; omega) | exact Nat.le_of_ble_eq_true rfl | exact Nat.le_refl _ | omega) (by first | (dsimp only [mX1_pairedFrom, gM.dp, gM.kc, gM.ks]; omega) | exact Nat.le_of_ble_eq_true rfl | exact Nat.le_refl _ | omega) (by first | exact Nat.le_of_ble_eq_true rfl | (simp [va_rf_cat]; done) | (simp [va_rf_cat, Value.category]; done)) rfl (fun _ _ h => h.elim) (fun v9 G9 hq => ?_)
    obtain ⟨r2, rfl, rfl, hq2⟩ := hq
    rw [partT_mI (by omega), kid_some hy] at hq2
    cases r2 with
    | none => exact hq2.elim
    | some b2 =>
      have hq1 : isV im b1 x.2 := hq1
      have hq2 : isV im b2 y.2 := hq2
      refine GW.iload5 dX1_pairedFrom_12 ?_
      refine GW.iconst (v := 1) dX1_pairedFrom_14 (by decide) ?_
      refine GW.iadd dX1_pairedFrom_15 ?_
      refine GW.aload1 dX1_pairedFrom_16 (g := ?_)
      refine GW.aload3 dX1_pairedFrom_17 (g := ?_)
      refine GW.iload6 dX1_pairedFrom_18 ?_
      rw [mI_succ]
      refine GW.callS0 cs_X1_84 mt_X1_freeBehind (c_freeBehind (G := (im, ad, mc)) (base := base) hv hu) dX1_pairedFrom_20 rfl rfl (by first | (dsimp only [mX1_pairedFrom, gM.dp, gM.kc, gM.ks]; omega) | exact Nat.le_of_ble_eq_true rfl | exact Nat.le_refl _ | omega) (by decide) (by first | (dsimp only [mX1_pairedFrom, gM.dp, gM.kc, gM.ks]; omega) | exact Nat.le_of_ble_eq_true rfl | exact Nat.le_refl _ | omega) (by first | (dsimp only [mX1_pairedFrom, gM.dp, gM.kc, gM.ks]; omega) | exact Nat.le_of_ble_eq_true rfl | exact Nat.le_refl _ | omega) (by first | exact Nat.le_of_ble_eq_true rfl | (simp [va_rf_cat]; done) | (simp [va_rf_cat, Value.category]; done)) rfl (fun _ _ h => h.elim) (fun v20 G20 hq => ?_)
      obtain ⟨w, rfl, rfl, rfl⟩ := hq
      refine GW.callV0 cv_X1_24 mt_X1_between (hB (l := l + 1) (base := base + (wd t + 1) * (wd u + 1)) hq1 hq2 (hwft.2.kid x hmx) (hwfu.2.kid y hmy) (by omega) (by omega) (by omega) (by omega) (roomA (kid_some hx) (kid_some hy) hdx hr) ht) dX1_pairedFrom_23 (by first | assumption | exact isV.gl (by assumption) | exact tbAt.gl (by assumption)) rfl rfl rfl rfl (by first | (dsimp only [mX1_pairedFrom, gM.dp, gM.kc, gM.ks]; omega) | exact Nat.le_of_ble_eq_true rfl | exact Nat.le_refl _ | omega) (by decide) (by first | (dsimp only [mX1_pairedFrom, gM.dp, gM.kc, gM.ks]; omega) | exact Nat.le_of_ble_eq_true rfl | exact Nat.le_refl _ | omega) (by first | (dsimp only [mX1_pairedFrom, gM.dp, gM.kc, gM.ks]; omega) | exact Nat.le_of_ble_eq_true rfl | exact Nat.le_refl _ | omega) (by first | exact Nat.le_of_ble_eq_true rfl | (simp [va_rf_cat]; done) | (simp [va_rf_cat, Value.category]; done)) rfl (fun _ _ h => h.elim) (fun v23 G23 hq => ?_)
      obtain ⟨rfl, mc1, tb1, rfl, ho, h10, htb, -⟩ := hq
      refine GW.aload0 dX1_pairedFrom_26 (g := ?_)
      refine GW.aload1 dX1_pairedFrom_27 (g := ?_)
      refine GW.iload2 dX1_pairedFrom_28 ?_
      refine GW.iconst (v := 1) dX1_pairedFrom_29 (by decide) ?_
      refine GW.iadd dX1_pairedFrom_30 ?_
      rw [mI_succ]
      refine GW.aload3 dX1_pairedFrom_31 (g := ?_)
      refine GW.iload4 dX1_pairedFrom_32 ?_
      refine GW.iconst (v := 1) dX1_pairedFrom_34 (by decide) ?_
      refine GW.iadd dX1_pairedFrom_35 ?_
      rw [mI_succ]
      refine GW.iload6 dX1_pairedFrom_36 ?_
      have hc2 := roomB (i := i + 1) (j := j + 1) (by omega) (by omega) hr
      have ht1 := ht.ch ho h10
      refine GW.callV0 cv_X1_71 mt_X1_cell (c_cell (i := i + 1) (j := j + 1) hv hu ht1 (by omega) (by omega) (by omega) (by omega) (by omega)) dX1_pairedFrom_38 (by first | assumption | exact isV.gl (by assumption) | exact tbAt.gl (by assumption)) rfl rfl rfl rfl (by first | (dsimp only [mX1_pairedFrom, gM.dp, gM.kc, gM.ks]; omega) | exact Nat.le_of_ble_eq_true rfl | exact Nat.le_refl _ | omega) (by decide) (by first | (dsimp only [mX1_pairedFrom, gM.dp, gM.kc, gM.ks]; omega) | exact Nat.le_of_ble_eq_true rfl | exact Nat.le_refl _ | omega) (by first | (dsimp only [mX1_pairedFrom, gM.dp, gM.kc, gM.ks]; omega) | exact Nat.le_of_ble_eq_true rfl | exact Nat.le_refl _ | omega) (by first | exact Nat.le_of_ble_eq_true rfl | (simp [va_rf_cat]; done) | (simp [va_rf_cat, Value.category]; done)) rfl (fun _ _ h => h.elim) (fun v38 G38 hq => ?_)
      obtain ⟨w, rfl, rfl, rfl⟩ := hq
      refine GW.iadd dX1_pairedFrom_41 ?_
      refine GW.ireturn dX1_pairedFrom_42 (Or.inl rfl) (by first | (dsimp only [mX1_pairedFrom, gM.dp, gM.kc, gM.ks]; omega) | exact Nat.le_of_ble_eq_true rfl | exact Nat.le_refl _ | omega) (by first | (dsimp only [mX1_pairedFrom, gM.dp, gM.kc, gM.ks]; omega) | exact Nat.le_of_ble_eq_true rfl | exact Nat.le_refl _ | omega) ?_
      exact ⟨by rw [htb _ hc2.1], mc1, tb1, rfl, ho, h10, htb, trivial⟩
/-- the table holds what is right behind the cell i, j -/
def tbR (tb : Nat → Int32) (f : Tr → Tr → Nat) (base : Nat) (t u : Tr) (i j : Nat) : Prop := ∀ i' j', i' ≤ wd t → j' ≤ wd u → (i < i' ∨ (i = i' ∧ j < j')) → tb (base + i' * (wd u + 1) + j') = nI (lD f ((kids t.2.2).drop i') ((kids u.2.2).drop j'))
theorem c_leastFrom (hB : Bt n) (h : bP im a b l base n t u) (ht : tbAt ad mc cnt tb) {i j : Nat} (hi : i ≤ wd t) (hj : j ≤ wd u) (hR : tbR tb (Df n) base t u i j) :
    kX1_leastFrom (4 * n + 6) 0 0 [.ref (ad 9), .ref a, .int (nI i), .ref b, .int (nI j), .int (nI l), .int (nI base)] (im, ad, mc) (fun v G' => v = some (.int (nI (lD (Df n) ((kids t.2.2).drop i) ((kids u.2.2).drop j)))) ∧ tbCh im ad mc tb (base + (wd t + 1) * (wd u + 1)) G' (fun _ => True)) noX := by
  obtain ⟨hst, hsu, hwt, hwu⟩ := h.s
  obtain ⟨hv, hu, hwft, hwfu, hd, h6, h7, hl, hr⟩ := id h
  refine oX1_leastFrom (L := [some (.ref (ad 9)), some (.ref a), some (.int (nI i)), some (.ref b), some (.int (nI j)), some (.int (nI l)), some (.int (nI base)), none, none, none, none, none]) rfl (Nat.le_of_ble_eq_true rfl) ?_
  have hbig : ∀ i' j', lD (Df n) ((kids t.2.2).drop i') ((kids u.2.2).drop j') ≤ 100 := fun i' j' => by
    have h1 := lD_le (Df n) ((kids t.2.2).drop i') ((kids u.2.2).drop j')
    have e1 := szT_kids t
    have e2 := szT_kids u
    have h2 : szL (kids t.2.2) = szL ((kids t.2.2).take i') + szL ((kids t.2.2).drop i') := by rw [← szL_app, List.take_append_drop]
    have h3 : szL (kids u.2.2) = szL ((kids u.2.2).take j') + szL ((kids u.2.2).drop j') := by rw [← szL_app, List.take_append_drop]
    omega
  generalize hQ : (fun (v : Option Value) (G' : gG) => v = some (.int (nI (lD (Df n) ((kids t.2.2).drop i) ((kids u.2.2).drop j)))) ∧ tbCh im ad mc tb (base + (wd t + 1) * (wd u + 1)) G' (fun _ => True)) = Q
  have same : ∀ v, v = nI (lD (Df n) ((kids t.2.2).drop i) ((kids u.2.2).drop j)) → Q (some (.int v)) (im, ad, mc) := fun v hv' => by
    subst hQ
    exact ⟨by rw [hv'], mc, tb, rfl, fun _ _ => rfl, ht.2, fun _ _ => rfl, trivial⟩
  have xdrop : ∀ {i x}, (kids t.2.2)[i]? = some x → (kids t.2.2).drop i = x :: (kids t.2.2).drop (i + 1) := drop_cons
  have ydrop : ∀ {i x}, (kids u.2.2)[i]? = some x → (kids u.2.2).drop i = x :: (kids u.2.2).drop (i + 1) := drop_cons
  have past : j < wd u → GW (mX1_leastFrom (4 * n + 6) 0 0) Q noX (im, ad, mc) 0 0 27 [some (.ref (ad 9)), some (.ref a), some (.int (nI i)), some (.ref b), some (.int (nI j)), some (.int (nI l)), some (.int (nI base)), none, none, none, none, none] [] → True := fun _ _ => trivial
  refine GW.iload2 dX1_leastFrom_0 ?_
  refine GW.aload1 dX1_leastFrom_1 (g := ?_)
  refine GW.callV0 cv_X1_47 mt_X8_width (c_width (G := (im, ad, mc)) hv) dX1_leastFrom_2 (by first | assumption | exact isV.gl (by assumption) | exact tbAt.gl (by assumption)) rfl rfl rfl rfl (by first | (dsimp only [mX1_leastFrom, gM.dp, gM.kc, gM.ks]; omega) | exact Nat.le_of_ble_eq_true rfl | exact Nat.le_refl _ | omega) (by decide) (by first | (dsimp only [mX1_leastFrom, gM.dp, gM.kc, gM.ks]; omega) | exact Nat.le_of_ble_eq_true rfl | exact Nat.le_refl _ | omega) (by first | (dsimp only [mX1_leastFrom, gM.dp, gM.kc, gM.ks]; omega) | exact Nat.le_of_ble_eq_true rfl | exact Nat.le_refl _ | omega) (by first | exact Nat.le_of_ble_eq_true rfl | (simp [va_rf_cat]; done) | (simp [va_rf_cat, Value.category]; done)) rfl (fun _ _ h => h.elim) (fun v2 G2 hq => ?_)
  obtain ⟨w, rfl, rfl, rfl⟩ := hq
  have noA : wd t ≤ i → j < wd u → GW (mX1_leastFrom (4 * n + 6) 0 0) Q noX (im, ad, mc) 0 0 19 [some (.ref (ad 9)), some (.ref a), some (.int (nI i)), some (.ref b), some (.int (nI j)), some (.int (nI l)), some (.int (nI base)), none, none, none, none, none] [] := by
    intro hia hjb
    obtain ⟨y, hy⟩ : ∃ y, (kids u.2.2)[j]? = some y := ⟨_, List.getElem?_eq_getElem hjb⟩
    have hri := roomB (i := i) (j := j + 1) hi (by omega) hr
    refine GW.iload2 dX1_leastFrom_19 ?_
    refine GW.aload1 dX1_leastFrom_20 (g := ?_)
    refine GW.callV0 cv_X1_47 mt_X8_width (c_width (G := (im, ad, mc)) hv) dX1_leastFrom_21 (by first | assumption | exact isV.gl (by assumption) | exact tbAt.gl (by assumption)) rfl rfl rfl rfl (by first | (dsimp only [mX1_leastFrom, gM.dp, gM.kc, gM.ks]; omega) | exact Nat.le_of_ble_eq_true rfl | exact Nat.le_refl _ | omega) (by decide) (by first | (dsimp only [mX1_leastFrom, gM.dp, gM.kc, gM.ks]; omega) | exact Nat.le_of_ble_eq_true rfl | exact Nat.le_refl _ | omega) (by first | (dsimp only [mX1_leastFrom, gM.dp, gM.kc, gM.ks]; omega) | exact Nat.le_of_ble_eq_true rfl | exact Nat.le_refl _ | omega) (by first | exact Nat.le_of_ble_eq_true rfl | (simp [va_rf_cat]; done) | (simp [va_rf_cat, Value.category]; done)) rfl (fun _ _ h => h.elim) (fun v21 G21 hq => ?_)
    obtain ⟨w, rfl, rfl, rfl⟩ := hq
    refine GW.icmp_lt (tgt := 48) dX1_leastFrom_24 (by decide) (fun h24 => ?_) (fun h24 => ?_)
    · exact absurd ((mI_lt (by omega) (by omega)).mp h24) (by omega)
    · refine GW.aload3 dX1_leastFrom_27 (g := ?_)
      refine GW.iload4 dX1_leastFrom_28 ?_
      refine GW.callS0 cs_X1_59 mt_X1_sizeAt (c_sizeAt (G := (im, ad, mc)) hu hsu (by omega) hy) dX1_leastFrom_30 rfl rfl (by first | (dsimp only [mX1_leastFrom, gM.dp, gM.kc, gM.ks]; omega) | exact Nat.le_of_ble_eq_true rfl | exact Nat.le_refl _ | omega) (by decide) (by first | (dsimp only [mX1_leastFrom, gM.dp, gM.kc, gM.ks]; omega) | exact Nat.le_of_ble_eq_true rfl | exact Nat.le_refl _ | omega) (by first | (dsimp only [mX1_leastFrom, gM.dp, gM.kc, gM.ks]; omega) | exact Nat.le_of_ble_eq_true rfl | exact Nat.le_refl _ | omega) (by first | exact Nat.le_of_ble_eq_true rfl | (simp [va_rf_cat]; done) | (simp [va_rf_cat, Value.category]; done)) rfl (fun _ _ h => h.elim) (fun v30 G30 hq => ?_)
      obtain ⟨w, rfl, rfl, rfl⟩ := hq
      refine GW.aload0 dX1_leastFrom_33 (g := ?_)
      refine GW.aload1 dX1_leastFrom_34 (g := ?_)
      refine GW.iload2 dX1_leastFrom_35 ?_
      refine GW.aload3 dX1_leastFrom_36 (g := ?_)
      refine GW.iload4 dX1_leastFrom_37 ?_
      refine GW.iconst (v := 1) dX1_leastFrom_39 (by decide) ?_
      refine GW.iadd dX1_leastFrom_40 ?_
      rw [mI_succ]
      refine GW.iload6 dX1_leastFrom_41 ?_
      refine GW.callV0 cv_X1_71 mt_X1_cell (c_cell (i := i) (j := j + 1) hv hu ht hi (by omega) (by omega) (by omega) (by omega)) dX1_leastFrom_43 (by first | assumption | exact isV.gl (by assumption) | exact tbAt.gl (by assumption)) rfl rfl rfl rfl (by first | (dsimp only [mX1_leastFrom, gM.dp, gM.kc, gM.ks]; omega) | exact Nat.le_of_ble_eq_true rfl | exact Nat.le_refl _ | omega) (by decide) (by first | (dsimp only [mX1_leastFrom, gM.dp, gM.kc, gM.ks]; omega) | exact Nat.le_of_ble_eq_true rfl | exact Nat.le_refl _ | omega) (by first | (dsimp only [mX1_leastFrom, gM.dp, gM.kc, gM.ks]; omega) | exact Nat.le_of_ble_eq_true rfl | exact Nat.le_refl _ | omega) (by first | exact Nat.le_of_ble_eq_true rfl | (simp [va_rf_cat]; done) | (simp [va_rf_cat, Value.category]; done)) rfl (fun _ _ h => h.elim) (fun v43 G43 hq => ?_)
      obtain ⟨w, rfl, rfl, rfl⟩ := hq
      refine GW.iadd dX1_leastFrom_46 ?_
      rw [hR i (j + 1) hi (by omega) (Or.inr ⟨rfl, by omega⟩), mI_add]
      refine GW.ireturn dX1_leastFrom_47 (Or.inl rfl) (by first | (dsimp only [mX1_leastFrom, gM.dp, gM.kc, gM.ks]; omega) | exact Nat.le_of_ble_eq_true rfl | exact Nat.le_refl _ | omega) (by first | (dsimp only [mX1_leastFrom, gM.dp, gM.kc, gM.ks]; omega) | exact Nat.le_of_ble_eq_true rfl | exact Nat.le_refl _ | omega) ?_
      refine same _ ?_
      have e : (kids t.2.2).drop i = [] := List.drop_eq_nil_of_le hia
      rw [e, ydrop hy, lD_nil, lD_nil, szL_cons]
  have both : i < wd t → j ≤ wd u → GW (mX1_leastFrom (4 * n + 6) 0 0) Q noX (im, ad, mc) 0 0 19 [some (.ref (ad 9)), some (.ref a), some (.int (nI i)), some (.ref b), some (.int (nI j)), some (.int (nI l)), some (.int (nI base)), none, none, none, none, none] [] := by
    intro hia hjb
    obtain ⟨x, hx⟩ : ∃ x, (kids t.2.2)[i]? = some x := ⟨_, List.getElem?_eq_getElem hia⟩
    have hri := roomB (i := i + 1) (j := j) (by omega) hj hr
    refine GW.iload2 dX1_leastFrom_19 ?_
    refine GW.aload1 dX1_leastFrom_20 (g := ?_)
    refine GW.callV0 cv_X1_47 mt_X8_width (c_width (G := (im, ad, mc)) hv) dX1_leastFrom_21 (by first | assumption | exact isV.gl (by assumption) | exact tbAt.gl (by assumption)) rfl rfl rfl rfl (by first | (dsimp only [mX1_leastFrom, gM.dp, gM.kc, gM.ks]; omega) | exact Nat.le_of_ble_eq_true rfl | exact Nat.le_refl _ | omega) (by decide) (by first | (dsimp only [mX1_leastFrom, gM.dp, gM.kc, gM.ks]; omega) | exact Nat.le_of_ble_eq_true rfl | exact Nat.le_refl _ | omega) (by first | (dsimp only [mX1_leastFrom, gM.dp, gM.kc, gM.ks]; omega) | exact Nat.le_of_ble_eq_true rfl | exact Nat.le_refl _ | omega) (by first | exact Nat.le_of_ble_eq_true rfl | (simp [va_rf_cat]; done) | (simp [va_rf_cat, Value.category]; done)) rfl (fun _ _ h => h.elim) (fun v21 G21 hq => ?_)
    obtain ⟨w, rfl, rfl, rfl⟩ := hq
    refine GW.icmp_lt (tgt := 48) dX1_leastFrom_24 (by decide) (fun h24 => ?_) (fun h24 => ?_)
    · refine GW.iload4 dX1_leastFrom_48 ?_
      refine GW.aload3 dX1_leastFrom_50 (g := ?_)
      refine GW.callV0 cv_X1_47 mt_X8_width (c_width (G := (im, ad, mc)) hu) dX1_leastFrom_51 (by first | assumption | exact isV.gl (by assumption) | exact tbAt.gl (by assumption)) rfl rfl rfl rfl (by first | (dsimp only [mX1_leastFrom, gM.dp, gM.kc, gM.ks]; omega) | exact Nat.le_of_ble_eq_true rfl | exact Nat.le_refl _ | omega) (by decide) (by first | (dsimp only [mX1_leastFrom, gM.dp, gM.kc, gM.ks]; omega) | exact Nat.le_of_ble_eq_true rfl | exact Nat.le_refl _ | omega) (by first | (dsimp only [mX1_leastFrom, gM.dp, gM.kc, gM.ks]; omega) | exact Nat.le_of_ble_eq_true rfl | exact Nat.le_refl _ | omega) (by first | exact Nat.le_of_ble_eq_true rfl | (simp [va_rf_cat]; done) | (simp [va_rf_cat, Value.category]; done)) rfl (fun _ _ h => h.elim) (fun v51 G51 hq => ?_)
      obtain ⟨w, rfl, rfl, rfl⟩ := hq
      refine GW.icmp_lt (tgt := 77) dX1_leastFrom_54 (by decide) (fun h54 => ?_) (fun h54 => ?_)
      · have h54 := (mI_lt (by omega) (by omega)).mp h54
        obtain ⟨y, hy⟩ : ∃ y, (kids u.2.2)[j]? = some y := ⟨_, List.getElem?_eq_getElem h54⟩
        have hrj := roomB (i := i) (j := j + 1) hi (by omega) hr
        have hp1 := hbig i (j + 1)
        have hp2 := hbig (i + 1) j
        have hp3 := hbig (i + 1) (j + 1)
        have hsx := kid_sz (List.mem_of_getElem? hx)
        have hsy := kid_sz (List.mem_of_getElem? hy)
        have hDf := Df_le n x.2 y.2
        refine GW.aload3 dX1_leastFrom_77 (g := ?_)
        refine GW.iload4 dX1_leastFrom_78 ?_
        refine GW.callS0 cs_X1_59 mt_X1_sizeAt (c_sizeAt (G := (im, ad, mc)) hu hsu (by omega) hy) dX1_leastFrom_80 rfl rfl (by first | (dsimp only [mX1_leastFrom, gM.dp, gM.kc, gM.ks]; omega) | exact Nat.le_of_ble_eq_true rfl | exact Nat.le_refl _ | omega) (by decide) (by first | (dsimp only [mX1_leastFrom, gM.dp, gM.kc, gM.ks]; omega) | exact Nat.le_of_ble_eq_true rfl | exact Nat.le_refl _ | omega) (by first | (dsimp only [mX1_leastFrom, gM.dp, gM.kc, gM.ks]; omega) | exact Nat.le_of_ble_eq_true rfl | exact Nat.le_refl _ | omega) (by first | exact Nat.le_of_ble_eq_true rfl | (simp [va_rf_cat]; done) | (simp [va_rf_cat, Value.category]; done)) rfl (fun _ _ h => h.elim) (fun v80 G80 hq => ?_)
        obtain ⟨w, rfl, rfl, rfl⟩ := hq
        refine GW.aload0 dX1_leastFrom_83 (g := ?_)
        refine GW.aload1 dX1_leastFrom_84 (g := ?_)
        refine GW.iload2 dX1_leastFrom_85 ?_
        refine GW.aload3 dX1_leastFrom_86 (g := ?_)
        refine GW.iload4 dX1_leastFrom_87 ?_
        refine GW.iconst (v := 1) dX1_leastFrom_89 (by decide) ?_
        refine GW.iadd dX1_leastFrom_90 ?_
        rw [mI_succ]
        refine GW.iload6 dX1_leastFrom_91 ?_
        refine GW.callV0 cv_X1_71 mt_X1_cell (c_cell (i := i) (j := j + 1) hv hu ht hi (by omega) (by omega) (by omega) (by omega)) dX1_leastFrom_93 (by first | assumption | exact isV.gl (by assumption) | exact tbAt.gl (by assumption)) rfl rfl rfl rfl (by first | (dsimp only [mX1_leastFrom, gM.dp, gM.kc, gM.ks]; omega) | exact Nat.le_of_ble_eq_true rfl | exact Nat.le_refl _ | omega) (by decide) (by first | (dsimp only [mX1_leastFrom, gM.dp, gM.kc, gM.ks]; omega) | exact Nat.le_of_ble_eq_true rfl | exact Nat.le_refl _ | omega) (by first | (dsimp only [mX1_leastFrom, gM.dp, gM.kc, gM.ks]; omega) | exact Nat.le_of_ble_eq_true rfl | exact Nat.le_refl _ | omega) (by first | exact Nat.le_of_ble_eq_true rfl | (simp [va_rf_cat]; done) | (simp [va_rf_cat, Value.category]; done)) rfl (fun _ _ h => h.elim) (fun v93 G93 hq => ?_)
        obtain ⟨w, rfl, rfl, rfl⟩ := hq
        refine GW.iadd dX1_leastFrom_96 ?_
        rw [hR i (j + 1) hi (by omega) (Or.inr ⟨rfl, by omega⟩), mI_add]
        refine GW.aload1 dX1_leastFrom_97 (g := ?_)
        refine GW.iload2 dX1_leastFrom_98 ?_
        refine GW.callS0 cs_X1_59 mt_X1_sizeAt (c_sizeAt (G := (im, ad, mc)) hv hst (by omega) hx) dX1_leastFrom_99 rfl rfl (by first | (dsimp only [mX1_leastFrom, gM.dp, gM.kc, gM.ks]; omega) | exact Nat.le_of_ble_eq_true rfl | exact Nat.le_refl _ | omega) (by decide) (by first | (dsimp only [mX1_leastFrom, gM.dp, gM.kc, gM.ks]; omega) | exact Nat.le_of_ble_eq_true rfl | exact Nat.le_refl _ | omega) (by first | (dsimp only [mX1_leastFrom, gM.dp, gM.kc, gM.ks]; omega) | exact Nat.le_of_ble_eq_true rfl | exact Nat.le_refl _ | omega) (by first | exact Nat.le_of_ble_eq_true rfl | (simp [va_rf_cat]; done) | (simp [va_rf_cat, Value.category]; done)) rfl (fun _ _ h => h.elim) (fun v99 G99 hq => ?_)
        obtain ⟨w, rfl, rfl, rfl⟩ := hq
        refine GW.aload0 dX1_leastFrom_102 (g := ?_)
        refine GW.aload1 dX1_leastFrom_103 (g := ?_)
        refine GW.iload2 dX1_leastFrom_104 ?_
        refine GW.iconst (v := 1) dX1_leastFrom_105 (by decide) ?_
        refine GW.iadd dX1_leastFrom_106 ?_
        rw [mI_succ]
        refine GW.aload3 dX1_leastFrom_107 (g := ?_)
        refine GW.iload4 dX1_leastFrom_108 ?_
        refine GW.iload6 dX1_leastFrom_110 ?_
        refine GW.callV0 cv_X1_71 mt_X1_cell (c_cell (i := i + 1) (j := j) hv hu ht (by omega) (by omega) (by omega) (by omega) (by omega)) dX1_leastFrom_112 (by first | assumption | exact isV.gl (by assumption) | exact tbAt.gl (by assumption)) rfl rfl rfl rfl (by first | (dsimp only [mX1_leastFrom, gM.dp, gM.kc, gM.ks]; omega) | exact Nat.le_of_ble_eq_true rfl | exact Nat.le_refl _ | omega) (by decide) (by first | (dsimp only [mX1_leastFrom, gM.dp, gM.kc, gM.ks]; omega) | exact Nat.le_of_ble_eq_true rfl | exact Nat.le_refl _ | omega) (by first | (dsimp only [mX1_leastFrom, gM.dp, gM.kc, gM.ks]; omega) | exact Nat.le_of_ble_eq_true rfl | exact Nat.le_refl _ | omega) (by first | exact Nat.le_of_ble_eq_true rfl | (simp [va_rf_cat]; done) | (simp [va_rf_cat, Value.category]; done)) rfl (fun _ _ h => h.elim) (fun v112 G112 hq => ?_)
        obtain ⟨w, rfl, rfl, rfl⟩ := hq
        refine GW.iadd dX1_leastFrom_115 ?_
        rw [hR (i + 1) j (by omega) hj (Or.inl (by omega)), mI_add]
        refine GW.mmin cs_X1_75 dX1_leastFrom_116 min_w m_ini (by first | exact Nat.le_of_ble_eq_true rfl | omega) (by first | (dsimp only [mX1_leastFrom, gM.dp, gM.kc, gM.ks]; omega) | exact Nat.le_of_ble_eq_true rfl | omega) (by first | (dsimp only [mX1_leastFrom, gM.dp, gM.kc, gM.ks]; omega) | exact Nat.le_of_ble_eq_true rfl | omega) (by first | exact Nat.le_of_ble_eq_true rfl | (simp [va_rf_cat]; done)) ?_
        rw [mI_min (by omega) (by omega)]
        refine GW.istore7 dX1_leastFrom_119 (g := ?_)
        refine GW.iload7 dX1_leastFrom_121 ?_
        refine GW.aload0 dX1_leastFrom_123 (g := ?_)
        refine GW.aload1 dX1_leastFrom_124 (g := ?_)
        refine GW.iload2 dX1_leastFrom_125 ?_
        refine GW.aload3 dX1_leastFrom_126 (g := ?_)
        refine GW.iload4 dX1_leastFrom_127 ?_
        refine GW.iload5 dX1_leastFrom_129 ?_
        refine GW.iload6 dX1_leastFrom_131 ?_
        refine GW.callV0 cv_X1_81 mt_X1_pairedFrom (c_pairedFrom hB h ht hx hy) dX1_leastFrom_133 (by first | assumption | exact isV.gl (by assumption) | exact tbAt.gl (by assumption)) rfl rfl rfl rfl (by first | (dsimp only [mX1_leastFrom, gM.dp, gM.kc, gM.ks]; omega) | exact Nat.le_of_ble_eq_true rfl | exact Nat.le_refl _ | omega) (by decide) (by first | (dsimp only [mX1_leastFrom, gM.dp, gM.kc, gM.ks]; omega) | exact Nat.le_of_ble_eq_true rfl | exact Nat.le_refl _ | omega) (by first | (dsimp only [mX1_leastFrom, gM.dp, gM.kc, gM.ks]; omega) | exact Nat.le_of_ble_eq_true rfl | exact Nat.le_refl _ | omega) (by first | exact Nat.le_of_ble_eq_true rfl | (simp [va_rf_cat]; done) | (simp [va_rf_cat, Value.category]; done)) rfl (fun _ _ h => h.elim) (fun v133 G133 hq => ?_)
        obtain ⟨rfl, mc1, tb1, rfl, ho, h10, htb, -⟩ := hq
        rw [hR (i + 1) (j + 1) (by omega) (by omega) (Or.inl (by omega)), mI_add]
        refine GW.mmin cs_X1_75 dX1_leastFrom_136 min_w m_ini (by first | exact Nat.le_of_ble_eq_true rfl | omega) (by first | (dsimp only [mX1_leastFrom, gM.dp, gM.kc, gM.ks]; omega) | exact Nat.le_of_ble_eq_true rfl | omega) (by first | (dsimp only [mX1_leastFrom, gM.dp, gM.kc, gM.ks]; omega) | exact Nat.le_of_ble_eq_true rfl | omega) (by first | exact Nat.le_of_ble_eq_true rfl | (simp [va_rf_cat]; done)) ?_
        rw [mI_min (by omega) (by omega)]
        refine GW.ireturn dX1_leastFrom_139 (Or.inl rfl) (by first | (dsimp only [mX1_leastFrom, gM.dp, gM.kc, gM.ks]; omega) | exact Nat.le_of_ble_eq_true rfl | exact Nat.le_refl _ | omega) (by first | (dsimp only [mX1_leastFrom, gM.dp, gM.kc, gM.ks]; omega) | exact Nat.le_of_ble_eq_true rfl | exact Nat.le_refl _ | omega) ?_
        subst hQ
        refine ⟨?_, mc1, tb1, rfl, ho, h10, htb, trivial⟩
        rw [xdrop hx, ydrop hy, lD_cons, ← xdrop hx, ← ydrop hy]
      · have hge : wd u ≤ j := by
          rcases Nat.lt_or_ge j (wd u) with q | q
          · exact absurd ((mI_lt (by omega) (by omega)).mpr q) h54
          · exact q
        refine GW.aload1 dX1_leastFrom_57 (g := ?_)
        refine GW.iload2 dX1_leastFrom_58 ?_
        refine GW.callS0 cs_X1_59 mt_X1_sizeAt (c_sizeAt (G := (im, ad, mc)) hv hst (by omega) hx) dX1_leastFrom_59 rfl rfl (by first | (dsimp only [mX1_leastFrom, gM.dp, gM.kc, gM.ks]; omega) | exact Nat.le_of_ble_eq_true rfl | exact Nat.le_refl _ | omega) (by decide) (by first | (dsimp only [mX1_leastFrom, gM.dp, gM.kc, gM.ks]; omega) | exact Nat.le_of_ble_eq_true rfl | exact Nat.le_refl _ | omega) (by first | (dsimp only [mX1_leastFrom, gM.dp, gM.kc, gM.ks]; omega) | exact Nat.le_of_ble_eq_true rfl | exact Nat.le_refl _ | omega) (by first | exact Nat.le_of_ble_eq_true rfl | (simp [va_rf_cat]; done) | (simp [va_rf_cat, Value.category]; done)) rfl (fun _ _ h => h.elim) (fun v59 G59 hq => ?_)
        obtain ⟨w, rfl, rfl, rfl⟩ := hq
        refine GW.aload0 dX1_leastFrom_62 (g := ?_)
        refine GW.aload1 dX1_leastFrom_63 (g := ?_)
        refine GW.iload2 dX1_leastFrom_64 ?_
        refine GW.iconst (v := 1) dX1_leastFrom_65 (by decide) ?_
        refine GW.iadd dX1_leastFrom_66 ?_
        rw [mI_succ]
        refine GW.aload3 dX1_leastFrom_67 (g := ?_)
        refine GW.iload4 dX1_leastFrom_68 ?_
        refine GW.iload6 dX1_leastFrom_70 ?_
        refine GW.callV0 cv_X1_71 mt_X1_cell (c_cell (i := i + 1) (j := j) hv hu ht (by omega) (by omega) (by omega) (by omega) (by omega)) dX1_leastFrom_72 (by first | assumption | exact isV.gl (by assumption) | exact tbAt.gl (by assumption)) rfl rfl rfl rfl (by first | (dsimp only [mX1_leastFrom, gM.dp, gM.kc, gM.ks]; omega) | exact Nat.le_of_ble_eq_true rfl | exact Nat.le_refl _ | omega) (by decide) (by first | (dsimp only [mX1_leastFrom, gM.dp, gM.kc, gM.ks]; omega) | exact Nat.le_of_ble_eq_true rfl | exact Nat.le_refl _ | omega) (by first | (dsimp only [mX1_leastFrom, gM.dp, gM.kc, gM.ks]; omega) | exact Nat.le_of_ble_eq_true rfl | exact Nat.le_refl _ | omega) (by first | exact Nat.le_of_ble_eq_true rfl | (simp [va_rf_cat]; done) | (simp [va_rf_cat, Value.category]; done)) rfl (fun _ _ h => h.elim) (fun v72 G72 hq => ?_)
        obtain ⟨w, rfl, rfl, rfl⟩ := hq
        refine GW.iadd dX1_leastFrom_75 ?_
        rw [hR (i + 1) j (by omega) hj (Or.inl (by omega)), mI_add]
        refine GW.ireturn dX1_leastFrom_76 (Or.inl rfl) (by first | (dsimp only [mX1_leastFrom, gM.dp, gM.kc, gM.ks]; omega) | exact Nat.le_of_ble_eq_true rfl | exact Nat.le_refl _ | omega) (by first | (dsimp only [mX1_leastFrom, gM.dp, gM.kc, gM.ks]; omega) | exact Nat.le_of_ble_eq_true rfl | exact Nat.le_refl _ | omega) ?_
        refine same _ ?_
        have e : (kids u.2.2).drop j = [] := List.drop_eq_nil_of_le hge
        rw [e, xdrop hx, lD_nil2, lD_nil2, szL_cons]
    · exact absurd ((mI_lt (by omega) (by omega)).mpr hia) h24
  refine GW.icmp_lt (tgt := 19) dX1_leastFrom_5 (by decide) (fun h5 => ?_) (fun h5 => ?_)
  · exact both ((mI_lt (by omega) (by omega)).mp h5) hj
  · have hge : wd t ≤ i := by
      rcases Nat.lt_or_ge i (wd t) with q | q
      · exact absurd ((mI_lt (by omega) (by omega)).mpr q) h5
      · exact q
    refine GW.iload4 dX1_leastFrom_8 ?_
    refine GW.aload3 dX1_leastFrom_10 (g := ?_)
    refine GW.callV0 cv_X1_47 mt_X8_width (c_width (G := (im, ad, mc)) hu) dX1_leastFrom_11 (by first | assumption | exact isV.gl (by assumption) | exact tbAt.gl (by assumption)) rfl rfl rfl rfl (by first | (dsimp only [mX1_leastFrom, gM.dp, gM.kc, gM.ks]; omega) | exact Nat.le_of_ble_eq_true rfl | exact Nat.le_refl _ | omega) (by decide) (by first | (dsimp only [mX1_leastFrom, gM.dp, gM.kc, gM.ks]; omega) | exact Nat.le_of_ble_eq_true rfl | exact Nat.le_refl _ | omega) (by first | (dsimp only [mX1_leastFrom, gM.dp, gM.kc, gM.ks]; omega) | exact Nat.le_of_ble_eq_true rfl | exact Nat.le_refl _ | omega) (by first | exact Nat.le_of_ble_eq_true rfl | (simp [va_rf_cat]; done) | (simp [va_rf_cat, Value.category]; done)) rfl (fun _ _ h => h.elim) (fun v11 G11 hq => ?_)
    obtain ⟨w, rfl, rfl, rfl⟩ := hq
    refine GW.icmp_lt (tgt := 19) dX1_leastFrom_14 (by decide) (fun h14 => ?_) (fun h14 => ?_)
    · exact noA hge ((mI_lt (by omega) (by omega)).mp h14)
    · have hgj : wd u ≤ j := by
        rcases Nat.lt_or_ge j (wd u) with q | q
        · exact absurd ((mI_lt (by omega) (by omega)).mpr q) h14
        · exact q
      refine GW.iconst (v := 0) dX1_leastFrom_17 (by decide) ?_
      refine GW.ireturn dX1_leastFrom_18 (Or.inl rfl) (by first | (dsimp only [mX1_leastFrom, gM.dp, gM.kc, gM.ks]; omega) | exact Nat.le_of_ble_eq_true rfl | exact Nat.le_refl _ | omega) (by first | (dsimp only [mX1_leastFrom, gM.dp, gM.kc, gM.ks]; omega) | exact Nat.le_of_ble_eq_true rfl | exact Nat.le_refl _ | omega) ?_
      refine same _ ?_
      have e1 : (kids t.2.2).drop i = [] := List.drop_eq_nil_of_le hge
      have e2 : (kids u.2.2).drop j = [] := List.drop_eq_nil_of_le hgj
      rw [e1, e2]
      rfl
end GROUP
