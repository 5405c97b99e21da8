/-! MARLSTORE: digest -/
def mx (d : Int64) (x : Int32) : Int64 := d * 31 + x.toInt64
def dgS (v : Tr) : Nat → Int64 → Int64
  | 0, d => d
  | j + 1, d => mx (dgS v j d) (stepT v (nI j))
def dgP (t : Tr) : Nat → Int64 → Int64
  | 0, d => d
  | p + 1, d => dgS (entD t p).1 (wd (entD t p).1) (mx (mx (mx (dgP t p d) (entD t p).1.1) (entD t p).1.2.1) (nI (wd (entD t p).1)))
def dgV (d : Int64) (t : Tr) : Int64 := dgP t (szT t) (mx (mx d (nI (szT t))) (nI (dpT t)))
def dgO (d : Int64) (o : OpT) : Int64 := mx (mx (mx (mx d o.1) (nI o.2.1.length)) o.2.2.1) (nI (opSz o))
def dgOs (d : Int64) (os : List OpT) : Int64 := os.foldl dgO (mx d (nI os.length))
def dgPs (d : Int64) (ps : List (List OpT)) : Int64 := ps.foldl dgOs (mx d (nI ps.length))
def dgD (ds : Nat → Tr) : Nat → Int64 → Int64
  | 0, d => d
  | i + 1, d => dgV (dgD ds i d) (ds i)
def dgF (ds : Nat → Tr) : Nat → Int64 → Int64
  | 0, d => d
  | i + 1, d => mx (dgF ds i d) (nI (Df 7 (ds i) (ds (i + 1))))
noncomputable def dgQ1 (ds : Nat → Tr) (q : List (Int32 × Int32)) : Nat → Int64 → Int64
  | 0, d => d
  | j + 1, d => mx (dgQ1 ds q j d) (bcI (qfV (ds j) q))
noncomputable def dgQ (ds : Nat → Tr) (d : Int64) (q : List (Int32 × Int32)) : Int64 := dgQ1 ds q 6 d
noncomputable def digT (ds : Nat → Tr) (cl : Tr) (at_ : Nat) (ss : List Int32) (ps : List (List OpT)) (qs : List (List (Int32 × Int32))) : Int64 :=
  qs.foldl (dgQ ds) (dgPs (dgF ds 5 (dgV (dgD ds 6 (ss.foldl mx (mx (mx 58048 (nI at_)) (nI ss.length)))) cl)) ps)
section CH
variable {G : gG} {ds : Nat → Tr} {cl : Tr} {at_ : Nat} {ss : List Int32} {ps : List (List OpT)} {qs : List (List (Int32 × Int32))}
abbrev mX3_tell (d kc ks : Nat) : gM := (RX3, cX3_tell, 2, (some .int), [], "tell", d, kc, ks)
abbrev kX3_tell (d kc ks : Nat) (as : List Value) (G : gG) (Q : Option Value → gG → Prop) (X : String → gG → Prop) : Prop := Ctr yX3_tell cX3_tell 2 (some .int) d kc ks as G Q X
theorem oX3_tell {d kc ks : Nat} {as : List Value} {G : gG} {Q : Option Value → gG → Prop} {X : String → gG → Prop} {L : List (Option Value)} (hL : gEnt as = L) (hlen : (lg_sl as).length ≤ 2) (g : GW (mX3_tell d kc ks) Q X G 0 0 0 L []) : kX3_tell d kc ks as G Q X := Ctr.of (by decide +kernel) rfl rfl hL hlen g
theorem c_tell {oa w : Nat} {o : OpT} (ho : opAt G.1 oa o) (hw : w ≤ 3) :
    kX3_tell 0 0 0 [.ref oa, .int (nI w)] G (ans G (fun v => v = .int (if w = 0 then o.1 else if w = 1 then nI o.2.1.length else if w = 2 then o.2.2.1 else nI (opSz o)))) noX := by
  obtain ⟨pa, f, vr, h1, h2, h3, h4, h5⟩ := id ho
  have l1 : gL G oa (.inl (3, _)) := Or.inl h1
  have l2 : gL G pa (.inr (0, _, .inl f)) := Or.inl h2
  refine oX3_tell (L := [some (.ref oa), some (.int (nI w)), none, none, none, none, none, none, none, none, none, none]) rfl (Nat.le_of_ble_eq_true rfl) ?_
  refine GW.iload1 dX3_tell_0 ?_
  have hc : w = 0 ∨ w = 1 ∨ w = 2 ∨ w = 3 := by omega
  rcases hc with rfl | rfl | rfl | rfl
  · refine GW.tableIn (tgt := 28) dX3_tell_1 (by decide) (by decide) (off := 27) (by decide) (by decide) ?_
    refine GW.aload0 dX3_tell_28 (g := ?_)
    refine GW.getf fl_X3_9 dX3_tell_29 (by assumption) (by rfl) ?_
    refine GW.ireturn dX3_tell_32 (Or.inl rfl) (by first | (dsimp only [mX3_tell, gM.dp, gM.kc, gM.ks]; omega) | exact Nat.le_of_ble_eq_true rfl | exact Nat.le_refl _ | omega) (by first | (dsimp only [mX3_tell, gM.dp, gM.kc, gM.ks]; omega) | exact Nat.le_of_ble_eq_true rfl | exact Nat.le_refl _ | omega) ?_
    exact ⟨_, rfl, rfl, rfl⟩
  · refine GW.tableIn (tgt := 33) dX3_tell_1 (by decide) (by decide) (off := 32) (by decide) (by decide) ?_
    refine GW.aload0 dX3_tell_33 (g := ?_)
    refine GW.getf fl_X3_15 dX3_tell_34 (by assumption) (by rfl) ?_
    refine GW.alen dX3_tell_37 (by assumption) (by decide) rfl ?_
    refine GW.ireturn dX3_tell_38 (Or.inl rfl) (by first | (dsimp only [mX3_tell, gM.dp, gM.kc, gM.ks]; omega) | exact Nat.le_of_ble_eq_true rfl | exact Nat.le_refl _ | omega) (by first | (dsimp only [mX3_tell, gM.dp, gM.kc, gM.ks]; omega) | exact Nat.le_of_ble_eq_true rfl | exact Nat.le_refl _ | omega) ?_
    exact ⟨_, rfl, rfl, rfl⟩
  · refine GW.tableIn (tgt := 39) dX3_tell_1 (by decide) (by decide) (off := 38) (by decide) (by decide) ?_
    refine GW.aload0 dX3_tell_39 (g := ?_)
    refine GW.getf fl_X3_19 dX3_tell_40 (by assumption) (by rfl) ?_
    refine GW.ireturn dX3_tell_43 (Or.inl rfl) (by first | (dsimp only [mX3_tell, gM.dp, gM.kc, gM.ks]; omega) | exact Nat.le_of_ble_eq_true rfl | exact Nat.le_refl _ | omega) (by first | (dsimp only [mX3_tell, gM.dp, gM.kc, gM.ks]; omega) | exact Nat.le_of_ble_eq_true rfl | exact Nat.le_refl _ | omega) ?_
    exact ⟨_, rfl, rfl, rfl⟩
  · refine GW.tableOut (tgt := 44) dX3_tell_1 (Or.inr (by decide)) (by decide) ?_
    cases vr with
    | none =>
      have hz : opSz o = 0 := by
        unfold opSz
        cases hv : o.2.2.2 with
        | none => rfl
        | some v => rw [hv] at h4; exact h4.elim
      refine GW.aload0 dX3_tell_44 (g := ?_)
      refine GW.getf fl_X3_22 dX3_tell_45 (by assumption) (by rfl) ?_
      refine GW.ifnonnull (tgt := 55) dX3_tell_48 (by decide) (fun r48 h48 => ?_) (fun h48 => ?_)
      · cases h48
      · refine GW.iconst (v := 0) dX3_tell_51 (by decide) ?_
        refine GW.goto (tgt := 62) dX3_tell_52 (by decide) ?_
        refine GW.ireturn dX3_tell_62 (Or.inl rfl) (by first | (dsimp only [mX3_tell, gM.dp, gM.kc, gM.ks]; omega) | exact Nat.le_of_ble_eq_true rfl | exact Nat.le_refl _ | omega) (by first | (dsimp only [mX3_tell, gM.dp, gM.kc, gM.ks]; omega) | exact Nat.le_of_ble_eq_true rfl | exact Nat.le_refl _ | omega) ?_
        exact ⟨_, rfl, rfl, by simp [hz]; rfl⟩
    | some b =>
      cases hv : o.2.2.2 with
      | none => rw [hv] at h4; exact h4.elim
      | some v =>
        rw [hv] at h4
        have h4 : isV G.1 b v := h4
        obtain ⟨kr, pq, hnd, -, -⟩ := h4.node
        have lb : gL G b (.inl (8, _)) := Or.inl hnd
        refine GW.aload0 dX3_tell_44 (g := ?_)
        refine GW.getf fl_X3_22 dX3_tell_45 (by assumption) (by rfl) ?_
        refine GW.ifnonnull (tgt := 55) dX3_tell_48 (by decide) (fun r48 h48 => ?_) (fun h48 => ?_)
        · refine GW.aload0 dX3_tell_55 (g := ?_)
          refine GW.getf fl_X3_22 dX3_tell_56 (by assumption) (by rfl) ?_
          refine GW.getf fl_X3_29 dX3_tell_59 (by assumption) (by rfl) ?_
          refine GW.ireturn dX3_tell_62 (Or.inl rfl) (by first | (dsimp only [mX3_tell, gM.dp, gM.kc, gM.ks]; omega) | exact Nat.le_of_ble_eq_true rfl | exact Nat.le_refl _ | omega) (by first | (dsimp only [mX3_tell, gM.dp, gM.kc, gM.ks]; omega) | exact Nat.le_of_ble_eq_true rfl | exact Nat.le_refl _ | omega) ?_
          refine ⟨_, rfl, rfl, ?_⟩
          have : opSz o = szT v := by unfold opSz; rw [hv]
          rw [this]
          rfl
        · cases h48
abbrev mX10_ofOperation (d kc ks : Nat) : gM := (RX10, cX10_ofOperation, 5, (some .int), [], "ofOperation", d, kc, ks)
abbrev kX10_ofOperation (d kc ks : Nat) (as : List Value) (G : gG) (Q : Option Value → gG → Prop) (X : String → gG → Prop) : Prop := Ctr yX10_ofOperation cX10_ofOperation 5 (some .int) d kc ks as G Q X
theorem oX10_ofOperation {d kc ks : Nat} {as : List Value} {G : gG} {Q : Option Value → gG → Prop} {X : String → gG → Prop} {L : List (Option Value)} (hL : gEnt as = L) (hlen : (lg_sl as).length ≤ 5) (g : GW (mX10_ofOperation d kc ks) Q X G 0 0 0 L []) : kX10_ofOperation d kc ks as G Q X := Ctr.of (by decide +kernel) rfl rfl hL hlen g
theorem c_ofOperation {i j w : Nat} {os : List OpT} {o : OpT} (hS : St G.1 G.2.1 G.2.2 ds cl at_ ss ps qs) (hi : ps[i]? = some os) (hj : os[j]? = some o) (hw : w ≤ 3) :
    kX10_ofOperation 2 0 0 [.ref (G.2.1 0), .int (nI i), .int (nI j), .int (nI w)] G (ans G (fun v => v = .int (if w = 0 then o.1 else if w = 1 then nI o.2.1.length else if w = 2 then o.2.2.1 else nI (opSz o)))) noX := by
  obtain ⟨im, ad, mc⟩ := G
  obtain ⟨⟨⟨cla, a1, a2⟩, a3, a4, a5⟩, ⟨b1, b2, b3, b4⟩, ⟨c1, c2, c3⟩, ⟨d1, d2, d3, d4⟩, f9⟩ := id hS
  have hil : i < ps.length := (List.getElem?_eq_some_iff.mp hi).1
  have hp := b4 i os hi
  have l0 : gL (im, ad, mc) (ad 0) (.inl (10, _)) := Or.inr ⟨0, rfl, a1⟩
  have l30 : gL (im, ad, mc) (ad (30 + i)) (.inl (4, _)) := Or.inr ⟨30 + i, rfl, hp.2.1⟩
  refine oX10_ofOperation (L := [some (.ref (ad 0)), some (.int (nI i)), some (.int (nI j)), some (.int (nI w)), none, none, none, none, none, none, none, none]) rfl (Nat.le_of_ble_eq_true rfl) ?_
  refine GW.aload0 dX10_ofOperation_0 (g := ?_)
  refine GW.iload1 dX10_ofOperation_1 ?_
  refine GW.callV0 cv_X10_185 mt_X10_patchOf (c_patchOf (G := (im, ad, mc)) a1 b1 hil b2) dX10_ofOperation_2 (by first | assumption | exact isV.gl (by assumption) | exact wkAt.gl (by assumption) | exact tbAt.gl (by assumption)) rfl rfl rfl rfl (by first | (dsimp only [mX10_ofOperation, gM.dp, gM.kc, gM.ks]; omega) | exact Nat.le_of_ble_eq_true rfl | exact Nat.le_refl _ | omega) (by decide) (by first | (dsimp only [mX10_ofOperation, gM.dp, gM.kc, gM.ks]; omega) | exact Nat.le_of_ble_eq_true rfl | exact Nat.le_refl _ | omega) (by first | (dsimp only [mX10_ofOperation, gM.dp, gM.kc, gM.ks]; omega) | exact Nat.le_of_ble_eq_true rfl | exact Nat.le_refl _ | omega) (by first | exact Nat.le_of_ble_eq_true rfl | (simp [va_rf_cat]; done) | (simp [va_rf_cat, Value.category]; done)) rfl (fun _ _ h => h.elim) (fun v2 G2 hq => ?_)
  obtain ⟨rfl, rfl⟩ := hq
  refine GW.iload2 dX10_ofOperation_5 ?_
  refine GW.callV0 cv_X10_239 mt_X4_operationAt (c_operationAt (G := (im, ad, mc)) hp hj) dX10_ofOperation_6 (by first | assumption | exact isV.gl (by assumption) | exact wkAt.gl (by assumption) | exact tbAt.gl (by assumption)) rfl rfl rfl rfl (by first | (dsimp only [mX10_ofOperation, gM.dp, gM.kc, gM.ks]; omega) | exact Nat.le_of_ble_eq_true rfl | exact Nat.le_refl _ | omega) (by decide) (by first | (dsimp only [mX10_ofOperation, gM.dp, gM.kc, gM.ks]; omega) | exact Nat.le_of_ble_eq_true rfl | exact Nat.le_refl _ | omega) (by first | (dsimp only [mX10_ofOperation, gM.dp, gM.kc, gM.ks]; omega) | exact Nat.le_of_ble_eq_true rfl | exact Nat.le_refl _ | omega) (by first | exact Nat.le_of_ble_eq_true rfl | (simp [va_rf_cat]; done) | (simp [va_rf_cat, Value.category]; done)) rfl (fun _ _ h => h.elim) (fun v6 G6 hq => ?_)
  obtain ⟨oa, rfl, rfl, hop⟩ := hq
  obtain ⟨pa, f, vr, h1, -⟩ := id hop
  have lo : gL (im, ad, mc) oa (.inl (3, _)) := Or.inl h1
  refine GW.astore4 dX10_ofOperation_9 (g := ?_)
  refine GW.aload4 dX10_ofOperation_11 (g := ?_)
  refine GW.ifnonnullR (tgt := 26) dX10_ofOperation_13 (by decide) ?_
  refine GW.iload3 dX10_ofOperation_26 ?_
  refine GW.if_lt (tgt := 35) dX10_ofOperation_27 (by decide) (fun h27 => ?_) (fun h27 => ?_)
  · exact absurd h27 (mI_nonneg (by omega))
  · refine GW.iload3 dX10_ofOperation_30 ?_
    refine GW.iconst (v := 3) dX10_ofOperation_31 (by decide) ?_
    refine GW.icmp_le (tgt := 45) dX10_ofOperation_32 (by decide) (fun h32 => ?_) (fun h32 => ?_)
    · refine GW.aload4 dX10_ofOperation_45 (g := ?_)
      refine GW.iload3 dX10_ofOperation_47 ?_
      refine GW.callV0 cv_X10_244 mt_X3_tell (c_tell (G := (im, ad, mc)) hop hw) dX10_ofOperation_48 (by first | assumption | exact isV.gl (by assumption) | exact wkAt.gl (by assumption) | exact tbAt.gl (by assumption)) rfl rfl rfl rfl (by first | (dsimp only [mX10_ofOperation, gM.dp, gM.kc, gM.ks]; omega) | exact Nat.le_of_ble_eq_true rfl | exact Nat.le_refl _ | omega) (by decide) (by first | (dsimp only [mX10_ofOperation, gM.dp, gM.kc, gM.ks]; omega) | exact Nat.le_of_ble_eq_true rfl | exact Nat.le_refl _ | omega) (by first | (dsimp only [mX10_ofOperation, gM.dp, gM.kc, gM.ks]; omega) | exact Nat.le_of_ble_eq_true rfl | exact Nat.le_refl _ | omega) (by first | exact Nat.le_of_ble_eq_true rfl | (simp [va_rf_cat]; done) | (simp [va_rf_cat, Value.category]; done)) rfl (fun _ _ h => h.elim) (fun v48 G48 hq => ?_)
      obtain ⟨z, rfl, rfl, rfl⟩ := hq
      refine GW.ireturn dX10_ofOperation_51 (Or.inl rfl) (by first | (dsimp only [mX10_ofOperation, gM.dp, gM.kc, gM.ks]; omega) | exact Nat.le_of_ble_eq_true rfl | exact Nat.le_refl _ | omega) (by first | (dsimp only [mX10_ofOperation, gM.dp, gM.kc, gM.ks]; omega) | exact Nat.le_of_ble_eq_true rfl | exact Nat.le_refl _ | omega) ?_
      exact ⟨_, rfl, rfl, rfl⟩
    · exact absurd ((mI_le (b := 3) (by omega) (by omega)).mpr hw) h32
end CH
