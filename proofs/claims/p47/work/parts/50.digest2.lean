/-! MARLSTORE: digestValue, digestPatches, digest -/
section CH
variable {G : gG} {ds : Nat → Tr} {cl : Tr} {at_ : Nat} {ss : List Int32} {ps : List (List OpT)} {qs : List (List (Int32 × Int32))}
theorem mx_def (d : Int64) (x : Int32) : d * 31 + x.toInt64 = mx d x := rfl
abbrev mX10_digestValue (d kc ks : Nat) : gM := (RX10, cX10_digestValue, 9, (some .long), [], "digestValue", d, kc, ks)
abbrev kX10_digestValue (d kc ks : Nat) (as : List Value) (G : gG) (Q : Option Value → gG → Prop) (X : String → gG → Prop) : Prop := Ctr yX10_digestValue cX10_digestValue 9 (some .long) d kc ks as G Q X
theorem oX10_digestValue {d kc ks : Nat} {as : List Value} {G : gG} {Q : Option Value → gG → Prop} {X : String → gG → Prop} {L : List (Option Value)} (hL : gEnt as = L) (hlen : (lg_sl as).length ≤ 9) (g : GW (mX10_digestValue d kc ks) Q X G 0 0 0 L []) : kX10_digestValue d kc ks as G Q X := Ctr.of (by decide +kernel) rfl rfl hL hlen g
theorem c_digestValue {d : Int64} {a : Nat} {t : Tr} (hS : St G.1 G.2.1 G.2.2 ds cl at_ ss ps qs) (hv : isV G.1 a t) (hs : szT t ≤ 50) :
    kX10_digestValue 3 0 0 [.ref (G.2.1 0), .long d, .ref a] G (fun v G' => v = some (.long (dgV d t)) ∧ ∃ mc', (G.1, G.2.1, mc') = G' ∧ St G.1 G.2.1 mc' ds cl at_ ss ps qs) noX := by
  obtain ⟨im, ad, mc⟩ := G
  obtain ⟨⟨⟨cla, a1, a2⟩, a3, a4, a5⟩, ⟨b1, b2, b3, b4⟩, ⟨c1, c2, c3⟩, ⟨d1, d2, d3, d4⟩, f9⟩ := id hS
  obtain ⟨cnt, v, pa, st, lv, hwk⟩ := id d4
  have hv : isV im a t := hv
  have hst : sml t := by unfold sml; omega
  have l0 : gL (im, ad, mc) (ad 0) (.inl (10, _)) := Or.inr ⟨0, rfl, a1⟩
  obtain ⟨kr, pq, hnd, -, -⟩ := hv.node
  have la : gL (im, ad, mc) a (.inl (8, _)) := Or.inl hnd
  have l14 := wkAt.gl (G := (im, ad, mc)) hwk
  refine oX10_digestValue (L := [some (.ref (ad 0)), some (.long d), none, some (.ref a), none, none, none, none, none, none, none, none]) rfl (Nat.le_of_ble_eq_true rfl) ?_
  generalize hQ : (fun (v : Option Value) (G' : gG) => v = some (.long (dgV d t)) ∧ ∃ mc', ((im, ad, mc).1, (im, ad, mc).2.1, mc') = G' ∧ St (im, ad, mc).1 (im, ad, mc).2.1 mc' ds cl at_ ss ps qs) = Q
  refine GW.lload1 dX10_digestValue_0 ?_
  refine GW.ldc2 kc_X10_369 dX10_digestValue_1 ?_
  refine GW.lmul dX10_digestValue_4 ?_
  refine GW.aload3 dX10_digestValue_5 (g := ?_)
  refine GW.getf fl_X10_145 dX10_digestValue_6 (by assumption) (by rfl) ?_
  refine GW.i2l dX10_digestValue_9 ?_
  refine GW.ladd dX10_digestValue_10 ?_
  rw [mx_def]
  refine GW.lstore4 dX10_digestValue_11 (g := ?_)
  refine GW.lload4 dX10_digestValue_13 ?_
  refine GW.ldc2 kc_X10_369 dX10_digestValue_15 ?_
  refine GW.lmul dX10_digestValue_18 ?_
  refine GW.aload3 dX10_digestValue_19 (g := ?_)
  refine GW.getf fl_X10_179 dX10_digestValue_20 (by assumption) (by rfl) ?_
  refine GW.i2l dX10_digestValue_23 ?_
  refine GW.ladd dX10_digestValue_24 ?_
  rw [mx_def]
  refine GW.lstore4 dX10_digestValue_25 (g := ?_)
  refine GW.aload0 dX10_digestValue_27 (g := ?_)
  refine GW.getf fl_X10_65 dX10_digestValue_28 (by assumption) (by rfl) ?_
  refine GW.aload3 dX10_digestValue_31 (g := ?_)
  refine GW.callV0 cv_X10_425 mt_X9_fill (c_fill hwk hv hs) dX10_digestValue_32 (by first | assumption | exact isV.gl (by assumption) | exact wkAt.gl (by assumption) | exact tbAt.gl (by assumption)) rfl rfl rfl rfl (by first | (dsimp only [mX10_digestValue, gM.dp, gM.kc, gM.ks]; omega) | exact Nat.le_of_ble_eq_true rfl | exact Nat.le_refl _ | omega) (by decide) (by first | (dsimp only [mX10_digestValue, gM.dp, gM.kc, gM.ks]; omega) | exact Nat.le_of_ble_eq_true rfl | exact Nat.le_refl _ | omega) (by first | (dsimp only [mX10_digestValue, gM.dp, gM.kc, gM.ks]; omega) | exact Nat.le_of_ble_eq_true rfl | exact Nat.le_refl _ | omega) (by first | exact Nat.le_of_ble_eq_true rfl | (simp [va_rf_cat]; done) | (simp [va_rf_cat, Value.category]; done)) rfl (fun _ _ h => h.elim) (fun v32 G32 hq => ?_)
  obtain ⟨rfl, mc1, rfl, ho, hwt⟩ := hq
  have hS1 : St im ad mc1 ds cl at_ ss ps qs := hS.wk (gLe.rf _) ho hwt.any
  obtain ⟨⟨⟨cla1, a11, -⟩, -⟩, -⟩ := id hS1
  obtain ⟨v1, pa1, st1, lv1, hwk1, -⟩ := id hwt
  have l01 : gL (im, ad, mc1) (ad 0) (.inl (10, _)) := Or.inr ⟨0, rfl, a11⟩
  have l14 := wkAt.gl (G := (im, ad, mc1)) hwk1
  refine GW.iconst (v := 0) dX10_digestValue_35 (by decide) ?_
  refine GW.istore6 dX10_digestValue_36 (g := ?_)
  have loop : ∀ (m p : Nat) (l7 l8 : Option Value), (∀ z, l7 = some z → z.category ≠ 2) → p + m = szT t → GW (mX10_digestValue 3 0 0) Q noX (im, ad, mc1) 0 0 38 [some (.ref (ad 0)), some (.long d), none, some (.ref a), some (.long (dgP t p (mx (mx d (nI (szT t))) (nI (dpT t))))), none, some (.int (nI p)), l7, l8, none, none, none] [] := by
    intro m
    induction m with
    | zero =>
      intro p l7 l8 hl7 hp
      refine GW.iload6 dX10_digestValue_38 ?_
      refine GW.aload0 dX10_digestValue_40 (g := ?_)
      refine GW.getf fl_X10_65 dX10_digestValue_41 (by assumption) (by rfl) ?_
      refine GW.getf fl_X10_437 dX10_digestValue_44 (by assumption) (by rfl) ?_
      refine GW.icmp_ge (tgt := 153) dX10_digestValue_47 (by decide) (fun h47 => ?_) (fun h47 => ?_)
      · refine GW.lload4 dX10_digestValue_153 ?_
        refine GW.lreturn dX10_digestValue_155 rfl (by first | (dsimp only [mX10_digestValue, gM.dp, gM.kc, gM.ks]; omega) | exact Nat.le_of_ble_eq_true rfl | exact Nat.le_refl _ | omega) (by first | (dsimp only [mX10_digestValue, gM.dp, gM.kc, gM.ks]; omega) | exact Nat.le_of_ble_eq_true rfl | exact Nat.le_refl _ | omega) ?_
        subst hQ
        exact ⟨by rw [show p = szT t by omega]; rfl, mc1, rfl, hS1⟩
      · exact absurd ((mI_le (by omega) (by omega)).mpr (by omega)) h47
    | succ m ih =>
      intro p l7 l8 hl7 hp
      have he := entD_eq (t := t) (q := p) (by omega)
      have hes := ent_sml hst he
      have hew := hes.wd
      refine GW.iload6 dX10_digestValue_38 ?_
      refine GW.aload0 dX10_digestValue_40 (g := ?_)
      refine GW.getf fl_X10_65 dX10_digestValue_41 (by assumption) (by rfl) ?_
      refine GW.getf fl_X10_437 dX10_digestValue_44 (by assumption) (by rfl) ?_
      refine GW.icmp_ge (tgt := 153) dX10_digestValue_47 (by decide) (fun h47 => ?_) (fun h47 => ?_)
      · exact absurd ((mI_le (by omega) (by omega)).mp h47) (by omega)
      · refine GW.aload0 dX10_digestValue_50 (g := ?_)
        refine GW.getf fl_X10_65 dX10_digestValue_51 (by assumption) (by rfl) ?_
        refine GW.iload6 dX10_digestValue_54 ?_
        refine GW.callV0 cv_X10_345 mt_X9_valueAt (c_valueT (p := p) hwt (by omega) hs) dX10_digestValue_56 (by first | assumption | exact isV.gl (by assumption) | exact wkAt.gl (by assumption) | exact tbAt.gl (by assumption)) rfl rfl rfl rfl (by first | (dsimp only [mX10_digestValue, gM.dp, gM.kc, gM.ks]; omega) | exact Nat.le_of_ble_eq_true rfl | exact Nat.le_refl _ | omega) (by decide) (by first | (dsimp only [mX10_digestValue, gM.dp, gM.kc, gM.ks]; omega) | exact Nat.le_of_ble_eq_true rfl | exact Nat.le_refl _ | omega) (by first | (dsimp only [mX10_digestValue, gM.dp, gM.kc, gM.ks]; omega) | exact Nat.le_of_ble_eq_true rfl | exact Nat.le_refl _ | omega) (by first | exact Nat.le_of_ble_eq_true rfl | (simp [va_rf_cat]; done) | (simp [va_rf_cat, Value.category]; done)) rfl (fun _ _ h => h.elim) (fun v56 G56 hq => ?_)
        obtain ⟨b, rfl, rfl, hb⟩ := hq
        obtain ⟨kr2, pq2, hnd2, -, -⟩ := hb.node
        have lb : gL (im, ad, mc1) b (.inl (8, _)) := Or.inl hnd2
        refine GW.astore7 dX10_digestValue_59 (g := ?_)
        refine GW.aload7 dX10_digestValue_61 (g := ?_)
        refine GW.ifnull (tgt := 147) dX10_digestValue_63 (by decide) (fun h63 => ?_) (fun r63 h63 => ?_)
        · cases h63
        · cases h63
          refine GW.lload4 dX10_digestValue_66 ?_
          refine GW.ldc2 kc_X10_369 dX10_digestValue_68 ?_
          refine GW.lmul dX10_digestValue_71 ?_
          refine GW.aload7 dX10_digestValue_72 (g := ?_)
          refine GW.getf fl_X10_93 dX10_digestValue_74 (by assumption) (by rfl) ?_
          refine GW.i2l dX10_digestValue_77 ?_
          refine GW.ladd dX10_digestValue_78 ?_
          rw [mx_def]
          refine GW.lstore4 dX10_digestValue_79 (g := ?_)
          refine GW.lload4 dX10_digestValue_81 ?_
          refine GW.ldc2 kc_X10_369 dX10_digestValue_83 ?_
          refine GW.lmul dX10_digestValue_86 ?_
          refine GW.aload7 dX10_digestValue_87 (g := ?_)
          refine GW.getf fl_X10_167 dX10_digestValue_89 (by assumption) (by rfl) ?_
          refine GW.i2l dX10_digestValue_92 ?_
          refine GW.ladd dX10_digestValue_93 ?_
          rw [mx_def]
          refine GW.lstore4 dX10_digestValue_94 (g := ?_)
          refine GW.lload4 dX10_digestValue_96 ?_
          refine GW.ldc2 kc_X10_369 dX10_digestValue_98 ?_
          refine GW.lmul dX10_digestValue_101 ?_
          refine GW.aload7 dX10_digestValue_102 (g := ?_)
          refine GW.callV0 cv_X10_170 mt_X8_width (c_width (G := (im, ad, mc1)) hb) dX10_digestValue_104 (by first | assumption | exact isV.gl (by assumption) | exact wkAt.gl (by assumption) | exact tbAt.gl (by assumption)) rfl rfl rfl rfl (by first | (dsimp only [mX10_digestValue, gM.dp, gM.kc, gM.ks]; omega) | exact Nat.le_of_ble_eq_true rfl | exact Nat.le_refl _ | omega) (by decide) (by first | (dsimp only [mX10_digestValue, gM.dp, gM.kc, gM.ks]; omega) | exact Nat.le_of_ble_eq_true rfl | exact Nat.le_refl _ | omega) (by first | (dsimp only [mX10_digestValue, gM.dp, gM.kc, gM.ks]; omega) | exact Nat.le_of_ble_eq_true rfl | exact Nat.le_refl _ | omega) (by first | exact Nat.le_of_ble_eq_true rfl | (simp [va_rf_cat]; done) | (simp [va_rf_cat, Value.category]; done)) rfl (fun _ _ h => h.elim) (fun v104 G104 hq => ?_)
          obtain ⟨w, rfl, rfl, rfl⟩ := hq
          refine GW.i2l dX10_digestValue_107 ?_
          refine GW.ladd dX10_digestValue_108 ?_
          rw [mx_def]
          refine GW.lstore4 dX10_digestValue_109 (g := ?_)
          refine GW.iconst (v := 0) dX10_digestValue_111 (by decide) ?_
          refine GW.istore8 dX10_digestValue_112 (g := ?_)
          have inner : ∀ (m2 j : Nat), j + m2 = wd (entD t p).1 → GW (mX10_digestValue 3 0 0) Q noX (im, ad, mc1) 0 0 114 [some (.ref (ad 0)), some (.long d), none, some (.ref a), some (.long (dgS (entD t p).1 j (mx (mx (mx (dgP t p (mx (mx d (nI (szT t))) (nI (dpT t)))) (entD t p).1.1) (entD t p).1.2.1) (nI (wd (entD t p).1))))), none, some (.int (nI p)), some (va_rf (some b)), some (.int (nI j)), none, none, none] [] := by
            intro m2
            induction m2 with
            | zero =>
              intro j hj
              refine GW.iload8 dX10_digestValue_114 ?_
              refine GW.aload7 dX10_digestValue_116 (g := ?_)
              refine GW.callV0 cv_X10_170 mt_X8_width (c_width (G := (im, ad, mc1)) hb) dX10_digestValue_118 (by first | assumption | exact isV.gl (by assumption) | exact wkAt.gl (by assumption) | exact tbAt.gl (by assumption)) rfl rfl rfl rfl (by first | (dsimp only [mX10_digestValue, gM.dp, gM.kc, gM.ks]; omega) | exact Nat.le_of_ble_eq_true rfl | exact Nat.le_refl _ | omega) (by decide) (by first | (dsimp only [mX10_digestValue, gM.dp, gM.kc, gM.ks]; omega) | exact Nat.le_of_ble_eq_true rfl | exact Nat.le_refl _ | omega) (by first | (dsimp only [mX10_digestValue, gM.dp, gM.kc, gM.ks]; omega) | exact Nat.le_of_ble_eq_true rfl | exact Nat.le_refl _ | omega) (by first | exact Nat.le_of_ble_eq_true rfl | (simp [va_rf_cat]; done) | (simp [va_rf_cat, Value.category]; done)) rfl (fun _ _ h => h.elim) (fun v118 G118 hq => ?_)
              obtain ⟨w, rfl, rfl, rfl⟩ := hq
              refine GW.icmp_ge (tgt := 147) dX10_digestValue_121 (by decide) (fun h121 => ?_) (fun h121 => ?_)
              · refine GW.inc6 dX10_digestValue_147 (g := ?_)
                refine GW.goto (tgt := 38) dX10_digestValue_150 (by decide) ?_
                rw [mI_succ]
                have := ih (p + 1) (some (va_rf (some b))) (some (.int (nI j))) (fun z hz => by cases hz; show ¬ ((1 : Nat) = 2); decide) (by omega)
                rw [show j = wd (entD t p).1 by omega]
                rw [show j = wd (entD t p).1 by omega] at this
                exact this
              · exact absurd ((mI_le (by omega) (by omega)).mpr (by omega)) h121
            | succ m2 ih2 =>
              intro j hj
              refine GW.iload8 dX10_digestValue_114 ?_
              refine GW.aload7 dX10_digestValue_116 (g := ?_)
              refine GW.callV0 cv_X10_170 mt_X8_width (c_width (G := (im, ad, mc1)) hb) dX10_digestValue_118 (by first | assumption | exact isV.gl (by assumption) | exact wkAt.gl (by assumption) | exact tbAt.gl (by assumption)) rfl rfl rfl rfl (by first | (dsimp only [mX10_digestValue, gM.dp, gM.kc, gM.ks]; omega) | exact Nat.le_of_ble_eq_true rfl | exact Nat.le_refl _ | omega) (by decide) (by first | (dsimp only [mX10_digestValue, gM.dp, gM.kc, gM.ks]; omega) | exact Nat.le_of_ble_eq_true rfl | exact Nat.le_refl _ | omega) (by first | (dsimp only [mX10_digestValue, gM.dp, gM.kc, gM.ks]; omega) | exact Nat.le_of_ble_eq_true rfl | exact Nat.le_refl _ | omega) (by first | exact Nat.le_of_ble_eq_true rfl | (simp [va_rf_cat]; done) | (simp [va_rf_cat, Value.category]; done)) rfl (fun _ _ h => h.elim) (fun v118 G118 hq => ?_)
              obtain ⟨w, rfl, rfl, rfl⟩ := hq
              refine GW.icmp_ge (tgt := 147) dX10_digestValue_121 (by decide) (fun h121 => ?_) (fun h121 => ?_)
              · exact absurd ((mI_le (by omega) (by omega)).mp h121) (by omega)
              · refine GW.lload4 dX10_digestValue_124 ?_
                refine GW.ldc2 kc_X10_369 dX10_digestValue_126 ?_
                refine GW.lmul dX10_digestValue_129 ?_
                refine GW.aload7 dX10_digestValue_130 (g := ?_)
                refine GW.iload8 dX10_digestValue_132 ?_
                refine GW.callV0 cv_X10_176 mt_X8_stepOf (c_stepOf (G := (im, ad, mc1)) hb hes (nI j)) dX10_digestValue_134 (by first | assumption | exact isV.gl (by assumption) | exact wkAt.gl (by assumption) | exact tbAt.gl (by assumption)) rfl rfl rfl rfl (by first | (dsimp only [mX10_digestValue, gM.dp, gM.kc, gM.ks]; omega) | exact Nat.le_of_ble_eq_true rfl | exact Nat.le_refl _ | omega) (by decide) (by first | (dsimp only [mX10_digestValue, gM.dp, gM.kc, gM.ks]; omega) | exact Nat.le_of_ble_eq_true rfl | exact Nat.le_refl _ | omega) (by first | (dsimp only [mX10_digestValue, gM.dp, gM.kc, gM.ks]; omega) | exact Nat.le_of_ble_eq_true rfl | exact Nat.le_refl _ | omega) (by first | exact Nat.le_of_ble_eq_true rfl | (simp [va_rf_cat]; done) | (simp [va_rf_cat, Value.category]; done)) rfl (fun _ _ h => h.elim) (fun v134 G134 hq => ?_)
                obtain ⟨w, rfl, rfl, rfl⟩ := hq
                refine GW.i2l dX10_digestValue_137 ?_
                refine GW.ladd dX10_digestValue_138 ?_
                rw [mx_def]
                refine GW.lstore4 dX10_digestValue_139 (g := ?_)
                refine GW.inc8 dX10_digestValue_141 (g := ?_)
                refine GW.goto (tgt := 114) dX10_digestValue_144 (by decide) ?_
                rw [mI_succ]
                exact ih2 (j + 1) (by omega)
          exact inner (wd (entD t p).1) 0 (by omega)
  exact loop (szT t) 0 none none (fun z hz => by cases hz) (by omega)
abbrev mX10_digestPatches (d kc ks : Nat) : gM := (RX10, cX10_digestPatches, 9, (some .long), [], "digestPatches", d, kc, ks)
abbrev kX10_digestPatches (d kc ks : Nat) (as : List Value) (G : gG) (Q : Option Value → gG → Prop) (X : String → gG → Prop) : Prop := Ctr yX10_digestPatches cX10_digestPatches 9 (some .long) d kc ks as G Q X
theorem oX10_digestPatches {d kc ks : Nat} {as : List Value} {G : gG} {Q : Option Value → gG → Prop} {X : String → gG → Prop} {L : List (Option Value)} (hL : gEnt as = L) (hlen : (lg_sl as).length ≤ 9) (g : GW (mX10_digestPatches d kc ks) Q X G 0 0 0 L []) : kX10_digestPatches d kc ks as G Q X := Ctr.of (by decide +kernel) rfl rfl hL hlen g
set_option maxHeartbeats 2000000 in
theorem c_digestPatches {d : Int64} (hS : St G.1 G.2.1 G.2.2 ds cl at_ ss ps qs) :
    kX10_digestPatches 3 0 0 [.ref (G.2.1 0), .long d] G (ans G (fun v => v = .long (dgPs d ps))) noX := by
  obtain ⟨im, ad, mc⟩ := G
  obtain ⟨⟨⟨cla, a1, a2⟩, a3, a4, a5⟩, ⟨b1, b2, b3, b4⟩, ⟨c1, c2, c3⟩, ⟨d1, d2, d3, d4⟩, f9⟩ := id hS
  have b2 : ps.length ≤ 8 := b2
  have l0 : gL (im, ad, mc) (ad 0) (.inl (10, _)) := Or.inr ⟨0, rfl, a1⟩
  refine oX10_digestPatches (L := [some (.ref (ad 0)), some (.long d), none, none, none, none, none, none, none, none, none, none]) rfl (Nat.le_of_ble_eq_true rfl) ?_
  generalize hQ : ans (im, ad, mc) (fun v => v = .long (dgPs d ps)) = Q
  refine GW.lload1 dX10_digestPatches_0 ?_
  refine GW.ldc2 kc_X10_369 dX10_digestPatches_1 ?_
  refine GW.lmul dX10_digestPatches_4 ?_
  refine GW.aload0 dX10_digestPatches_5 (g := ?_)
  refine GW.getf fl_X10_220 dX10_digestPatches_6 (by assumption) (by rfl) ?_
  refine GW.i2l dX10_digestPatches_9 ?_
  refine GW.ladd dX10_digestPatches_10 ?_
  rw [mx_def]
  refine GW.lstore3 dX10_digestPatches_11 (g := ?_)
  refine GW.iconst (v := 0) dX10_digestPatches_12 (by decide) ?_
  refine GW.istore5 dX10_digestPatches_13 (g := ?_)
  have loop : ∀ (m i : Nat) (l6 l7 l8 : Option Value), (∀ z, l6 = some z → z.category ≠ 2) → (∀ z, l7 = some z → z.category ≠ 2) → i + m = ps.length → GW (mX10_digestPatches 3 0 0) Q noX (im, ad, mc) 0 0 15 [some (.ref (ad 0)), some (.long d), none, some (.long ((ps.take i).foldl dgOs (mx d (nI ps.length)))), none, some (.int (nI i)), l6, l7, l8, none, none, none] [] := by
    intro m
    induction m with
    | zero =>
      intro i l6 l7 l8 hl6 hl7 hi
      refine GW.iload5 dX10_digestPatches_15 ?_
      refine GW.aload0 dX10_digestPatches_17 (g := ?_)
      refine GW.getf fl_X10_220 dX10_digestPatches_18 (by assumption) (by rfl) ?_
      refine GW.icmp_ge (tgt := 97) dX10_digestPatches_21 (by decide) (fun h21 => ?_) (fun h21 => ?_)
      · refine GW.lload3 dX10_digestPatches_97 ?_
        refine GW.lreturn dX10_digestPatches_98 rfl (by first | (dsimp only [mX10_digestPatches, gM.dp, gM.kc, gM.ks]; omega) | exact Nat.le_of_ble_eq_true rfl | exact Nat.le_refl _ | omega) (by first | (dsimp only [mX10_digestPatches, gM.dp, gM.kc, gM.ks]; omega) | exact Nat.le_of_ble_eq_true rfl | exact Nat.le_refl _ | omega) ?_
        subst hQ
        exact ⟨_, rfl, rfl, by rw [List.take_of_length_le (by omega)]; rfl⟩
      · exact absurd ((mI_le (by omega) (by omega)).mpr (by omega)) h21
    | succ m ih =>
      intro i l6 l7 l8 hl6 hl7 hi
      obtain ⟨os, hos⟩ : ∃ os, ps[i]? = some os := ⟨_, List.getElem?_eq_getElem (by omega)⟩
      have hl20 := (b4 i os hos).1
      refine GW.iload5 dX10_digestPatches_15 ?_
      refine GW.aload0 dX10_digestPatches_17 (g := ?_)
      refine GW.getf fl_X10_220 dX10_digestPatches_18 (by assumption) (by rfl) ?_
      refine GW.icmp_ge (tgt := 97) dX10_digestPatches_21 (by decide) (fun h21 => ?_) (fun h21 => ?_)
      · exact absurd ((mI_le (by omega) (by omega)).mp h21) (by omega)
      · refine GW.aload0 dX10_digestPatches_24 (g := ?_)
        refine GW.iload5 dX10_digestPatches_25 ?_
        refine GW.callV0 cv_X10_438 mt_X10_operations (c_operations (G := (im, ad, mc)) hS hos) dX10_digestPatches_27 (by first | assumption | exact isV.gl (by assumption) | exact wkAt.gl (by assumption) | exact tbAt.gl (by assumption)) rfl rfl rfl rfl (by first | (dsimp only [mX10_digestPatches, gM.dp, gM.kc, gM.ks]; omega) | exact Nat.le_of_ble_eq_true rfl | exact Nat.le_refl _ | omega) (by decide) (by first | (dsimp only [mX10_digestPatches, gM.dp, gM.kc, gM.ks]; omega) | exact Nat.le_of_ble_eq_true rfl | exact Nat.le_refl _ | omega) (by first | (dsimp only [mX10_digestPatches, gM.dp, gM.kc, gM.ks]; omega) | exact Nat.le_of_ble_eq_true rfl | exact Nat.le_refl _ | omega) (by first | exact Nat.le_of_ble_eq_true rfl | (simp [va_rf_cat]; done) | (simp [va_rf_cat, Value.category]; done)) rfl (fun _ _ h => h.elim) (fun v27 G27 hq => ?_)
        obtain ⟨w, rfl, rfl, rfl⟩ := hq
        refine GW.istore6 dX10_digestPatches_30 (g := ?_)
        refine GW.lload3 dX10_digestPatches_32 ?_
        refine GW.ldc2 kc_X10_369 dX10_digestPatches_33 ?_
        refine GW.lmul dX10_digestPatches_36 ?_
        refine GW.iload6 dX10_digestPatches_37 ?_
        refine GW.i2l dX10_digestPatches_39 ?_
        refine GW.ladd dX10_digestPatches_40 ?_
        rw [mx_def]
        refine GW.lstore3 dX10_digestPatches_41 (g := ?_)
        refine GW.iconst (v := 0) dX10_digestPatches_42 (by decide) ?_
        refine GW.istore7 dX10_digestPatches_43 (g := ?_)
        have mid : ∀ (m2 j : Nat) (l8 : Option Value), j + m2 = os.length → GW (mX10_digestPatches 3 0 0) Q noX (im, ad, mc) 0 0 45 [some (.ref (ad 0)), some (.long d), none, some (.long ((os.take j).foldl dgO (mx ((ps.take i).foldl dgOs (mx d (nI ps.length))) (nI os.length)))), none, some (.int (nI i)), some (.int (nI os.length)), some (.int (nI j)), l8, none, none, none] [] := by
          intro m2
          induction m2 with
          | zero =>
            intro j l8 hj
            refine GW.iload7 dX10_digestPatches_45 ?_
            refine GW.iload6 dX10_digestPatches_47 ?_
            refine GW.icmp_ge (tgt := 91) dX10_digestPatches_49 (by decide) (fun h49 => ?_) (fun h49 => ?_)
            · refine GW.inc5 dX10_digestPatches_91 (g := ?_)
              refine GW.goto (tgt := 15) dX10_digestPatches_94 (by decide) ?_
              rw [mI_succ]
              have := ih (i + 1) (some (.int (nI os.length))) (some (.int (nI j))) l8 (fun z hz => by cases hz; show ¬ ((1 : Nat) = 2); decide) (fun z hz => by cases hz; show ¬ ((1 : Nat) = 2); decide) (by omega)
              rw [List.take_add_one, hos, List.foldl_append] at this
              rw [List.take_of_length_le (l := os) (by omega)]
              exact this
            · exact absurd ((mI_le (by omega) (by omega)).mpr (by omega)) h49
          | succ m2 ih2 =>
            intro j l8 hj
            obtain ⟨o, ho⟩ : ∃ o, os[j]? = some o := ⟨_, List.getElem?_eq_getElem (by omega)⟩
            refine GW.iload7 dX10_digestPatches_45 ?_
            refine GW.iload6 dX10_digestPatches_47 ?_
            refine GW.icmp_ge (tgt := 91) dX10_digestPatches_49 (by decide) (fun h49 => ?_) (fun h49 => ?_)
            · exact absurd ((mI_le (by omega) (by omega)).mp h49) (by omega)
            · refine GW.iconst (v := 0) dX10_digestPatches_52 (by decide) ?_
              refine GW.istore8 dX10_digestPatches_53 (g := ?_)
              generalize hD : (os.take j).foldl dgO (mx ((ps.take i).foldl dgOs (mx d (nI ps.length))) (nI os.length)) = D
              have one : ∀ (w : Nat) (D0 : Int64), w ≤ 3 → GW (mX10_digestPatches 3 0 0) Q noX (im, ad, mc) 0 0 55 [some (.ref (ad 0)), some (.long d), none, some (.long (mx D0 (if w = 0 then o.1 else if w = 1 then nI o.2.1.length else if w = 2 then o.2.2.1 else nI (opSz o)))), none, some (.int (nI i)), some (.int (nI os.length)), some (.int (nI j)), some (.int (nI (w + 1))), none, none, none] [] → GW (mX10_digestPatches 3 0 0) Q noX (im, ad, mc) 0 0 55 [some (.ref (ad 0)), some (.long d), none, some (.long D0), none, some (.int (nI i)), some (.int (nI os.length)), some (.int (nI j)), some (.int (nI w)), none, none, none] [] := by
                intro w D0 hw g
                refine GW.iload8 dX10_digestPatches_55 ?_
                refine GW.iconst (v := 3) dX10_digestPatches_57 (by decide) ?_
                refine GW.icmp_gt (tgt := 85) dX10_digestPatches_58 (by decide) (fun h58 => ?_) (fun h58 => ?_)
                · exact absurd ((mI_lt (a := 3) (by omega) (by omega)).mp h58) (by omega)
                · refine GW.lload3 dX10_digestPatches_61 ?_
                  refine GW.ldc2 kc_X10_369 dX10_digestPatches_62 ?_
                  refine GW.lmul dX10_digestPatches_65 ?_
                  refine GW.aload0 dX10_digestPatches_66 (g := ?_)
                  refine GW.iload5 dX10_digestPatches_67 ?_
                  refine GW.iload7 dX10_digestPatches_69 ?_
                  refine GW.iload8 dX10_digestPatches_71 ?_
                  refine GW.callV0 cv_X10_441 mt_X10_ofOperation (c_ofOperation (G := (im, ad, mc)) (w := w) hS hos ho hw) dX10_digestPatches_73 (by first | assumption | exact isV.gl (by assumption) | exact wkAt.gl (by assumption) | exact tbAt.gl (by assumption)) rfl rfl rfl rfl (by first | (dsimp only [mX10_digestPatches, gM.dp, gM.kc, gM.ks]; omega) | exact Nat.le_of_ble_eq_true rfl | exact Nat.le_refl _ | omega) (by decide) (by first | (dsimp only [mX10_digestPatches, gM.dp, gM.kc, gM.ks]; omega) | exact Nat.le_of_ble_eq_true rfl | exact Nat.le_refl _ | omega) (by first | (dsimp only [mX10_digestPatches, gM.dp, gM.kc, gM.ks]; omega) | exact Nat.le_of_ble_eq_true rfl | exact Nat.le_refl _ | omega) (by first | exact Nat.le_of_ble_eq_true rfl | (simp [va_rf_cat]; done) | (simp [va_rf_cat, Value.category]; done)) rfl (fun _ _ h => h.elim) (fun v73 G73 hq => ?_)
                  obtain ⟨z, rfl, rfl, rfl⟩ := hq
                  refine GW.i2l dX10_digestPatches_76 ?_
                  refine GW.ladd dX10_digestPatches_77 ?_
                  rw [mx_def]
                  refine GW.lstore3 dX10_digestPatches_78 (g := ?_)
                  refine GW.inc8 dX10_digestPatches_79 (g := ?_)
                  refine GW.goto (tgt := 55) dX10_digestPatches_82 (by decide) ?_
                  rw [mI_succ]
                  exact g
              refine one 0 D (by omega) ?_
              refine one 1 _ (by omega) ?_
              refine one 2 _ (by omega) ?_
              refine one 3 _ (by omega) ?_
              refine GW.iload8 dX10_digestPatches_55 ?_
              refine GW.iconst (v := 3) dX10_digestPatches_57 (by decide) ?_
              refine GW.icmp_gt (tgt := 85) dX10_digestPatches_58 (by decide) (fun h58 => ?_) (fun h58 => ?_)
              · refine GW.inc7 dX10_digestPatches_85 (g := ?_)
                refine GW.goto (tgt := 45) dX10_digestPatches_88 (by decide) ?_
                rw [mI_succ]
                have := ih2 (j + 1) (some (.int (nI 4))) (by omega)
                rw [List.take_add_one, ho, List.foldl_append, hD] at this
                exact this
              · exact absurd (show (3 : Int32) < nI 4 by decide) h58
        exact mid os.length 0 _ (by omega)
  exact loop ps.length 0 none none none (fun z hz => by cases hz) (fun z hz => by cases hz) (by omega)
abbrev mX10_digest (d kc ks : Nat) : gM := (RX10, cX10_digest, 5, (some .long), [], "digest", d, kc, ks)
abbrev kX10_digest (d kc ks : Nat) (as : List Value) (G : gG) (Q : Option Value → gG → Prop) (X : String → gG → Prop) : Prop := Ctr yX10_digest cX10_digest 5 (some .long) d kc ks as G Q X
theorem oX10_digest {d kc ks : Nat} {as : List Value} {G : gG} {Q : Option Value → gG → Prop} {X : String → gG → Prop} {L : List (Option Value)} (hL : gEnt as = L) (hlen : (lg_sl as).length ≤ 5) (g : GW (mX10_digest d kc ks) Q X G 0 0 0 L []) : kX10_digest d kc ks as G Q X := Ctr.of (by decide +kernel) rfl rfl hL hlen g
set_option maxHeartbeats 2000000 in
theorem c_digest (hS : St G.1 G.2.1 G.2.2 ds cl at_ ss ps qs) (hI : Inv ds cl at_ ss ps) (hok : okQ qs) :
    kX10_digest 40 40 250 [.ref (G.2.1 0)] G (fun v G' => v = some (.long (digT ds cl at_ ss ps qs)) ∧ ∃ mc', (G.1, G.2.1, mc') = G' ∧ St G.1 G.2.1 mc' ds cl at_ ss ps qs) noX := by
  obtain ⟨im, ad, mc⟩ := G
  obtain ⟨⟨⟨cla, a1, a2⟩, a3, a4, a5⟩, ⟨b1, b2, b3, b4⟩, ⟨c1, c2, c3⟩, ⟨d1, d2, d3, d4⟩, f9⟩ := id hS
  have c2 : qs.length ≤ 6 := c2
  have hl6 : ss.length ≤ 6 := a4.1
  have l0 : gL (im, ad, mc) (ad 0) (.inl (10, _)) := Or.inr ⟨0, rfl, a1⟩
  have l2 : gL (im, ad, mc) (ad 2) (.inl (5, _)) := Or.inr ⟨2, rfl, a4.2.1⟩
  refine oX10_digest (L := [some (.ref (ad 0)), none, none, none, none, none, none, none, none, none, none, none]) rfl (Nat.le_of_ble_eq_true rfl) ?_
  generalize hQ : (fun (v : Option Value) (G' : gG) => v = some (.long (digT ds cl at_ ss ps qs)) ∧ ∃ mc', ((im, ad, mc).1, (im, ad, mc).2.1, mc') = G' ∧ St (im, ad, mc).1 (im, ad, mc).2.1 mc' ds cl at_ ss ps qs) = Q
  generalize hD1 : ss.foldl mx (mx (mx 58048 (nI at_)) (nI ss.length)) = D1
  -- the queries
  have quer : ∀ (D5 : Int64), dgPs (dgF ds 5 (dgV (dgD ds 6 D1) cl)) ps = D5 → ∀ (m i : Nat) (mc1 : Nat → Option gC) (l4 : Option Value), i + m = qs.length → St im ad mc1 ds cl at_ ss ps qs → GW (mX10_digest 40 40 250) Q noX (im, ad, mc1) (6 * i) (36 * i) 170 [some (.ref (ad 0)), some (.long ((qs.take i).foldl (dgQ ds) D5)), none, some (.int (nI i)), l4, none, none, none, none, none, none, none] [] := by
    intro D5 hD5 m
    induction m with
    | zero =>
      intro i mc1 l4 hi hS1
      obtain ⟨⟨⟨cla1, a11, -⟩, -⟩, -⟩ := id hS1
      have l01 : gL (im, ad, mc1) (ad 0) (.inl (10, _)) := Or.inr ⟨0, rfl, a11⟩
      refine GW.iload3 dX10_digest_170 ?_
      refine GW.aload0 dX10_digest_171 (g := ?_)
      refine GW.getf fl_X10_311 dX10_digest_172 (by assumption) (by rfl) ?_
      refine GW.icmp_ge (tgt := 215) dX10_digest_175 (by decide) (fun h175 => ?_) (fun h175 => ?_)
      · refine GW.lload1 dX10_digest_215 ?_
        refine GW.lreturn dX10_digest_216 rfl (by first | (dsimp only [mX10_digest, gM.dp, gM.kc, gM.ks]; omega) | exact Nat.le_of_ble_eq_true rfl | exact Nat.le_refl _ | omega) (by first | (dsimp only [mX10_digest, gM.dp, gM.kc, gM.ks]; omega) | exact Nat.le_of_ble_eq_true rfl | exact Nat.le_refl _ | omega) ?_
        subst hQ
        refine ⟨?_, mc1, rfl, hS1⟩
        rw [List.take_of_length_le (by omega)]
        unfold digT
        rw [hD1, hD5]
      · exact absurd ((mI_le (by omega) (by omega)).mpr (by omega)) h175
    | succ m ih =>
      intro i mc1 l4 hi hS1
      obtain ⟨⟨⟨cla1, a11, -⟩, -⟩, -⟩ := id hS1
      have l01 : gL (im, ad, mc1) (ad 0) (.inl (10, _)) := Or.inr ⟨0, rfl, a11⟩
      obtain ⟨q, hqi⟩ : ∃ q, qs[i]? = some q := ⟨_, List.getElem?_eq_getElem (by omega)⟩
      refine GW.iload3 dX10_digest_170 ?_
      refine GW.aload0 dX10_digest_171 (g := ?_)
      refine GW.getf fl_X10_311 dX10_digest_172 (by assumption) (by rfl) ?_
      refine GW.icmp_ge (tgt := 215) dX10_digest_175 (by decide) (fun h175 => ?_) (fun h175 => ?_)
      · exact absurd ((mI_le (by omega) (by omega)).mp h175) (by omega)
      · refine GW.iconst (v := 0) dX10_digest_178 (by decide) ?_
        refine GW.istore4 dX10_digest_179 (g := ?_)
        have inner : ∀ (m2 j : Nat) (mc2 : Nat → Option gC), j + m2 = 6 → St im ad mc2 ds cl at_ ss ps qs → GW (mX10_digest 40 40 250) Q noX (im, ad, mc2) (6 * i + j) (36 * i + 6 * j) 181 [some (.ref (ad 0)), some (.long (dgQ1 ds q j ((qs.take i).foldl (dgQ ds) D5))), none, some (.int (nI i)), some (.int (nI j)), none, none, none, none, none, none, none] [] := by
          intro m2
          induction m2 with
          | zero =>
            intro j mc2 hj hS2
            have hj6 : j = 6 := by omega
            subst hj6
            refine GW.iload4 dX10_digest_181 ?_
            refine GW.bipush (v := 6) dX10_digest_183 (by decide) ?_
            refine GW.icmp_ge (tgt := 209) dX10_digest_185 (by decide) (fun h185 => ?_) (fun h185 => ?_)
            · refine GW.inc3 dX10_digest_209 (g := ?_)
              refine GW.goto (tgt := 170) dX10_digest_212 (by decide) ?_
              rw [mI_succ]
              have := ih (i + 1) mc2 (some (.int (nI 6))) (by omega) hS2
              rw [List.take_add_one, hqi, List.foldl_append] at this
              exact GW.widen (by omega) (by omega) this
            · exact absurd (by decide) h185
          | succ m2 ih2 =>
            intro j mc2 hj hS2
            obtain ⟨⟨⟨cla2, a12, -⟩, -⟩, -⟩ := id hS2
            have l02 : gL (im, ad, mc2) (ad 0) (.inl (10, _)) := Or.inr ⟨0, rfl, a12⟩
            refine GW.iload4 dX10_digest_181 ?_
            refine GW.bipush (v := 6) dX10_digest_183 (by decide) ?_
            refine GW.icmp_ge (tgt := 209) dX10_digest_185 (by decide) (fun h185 => ?_) (fun h185 => ?_)
            · exact absurd ((mI_le (a := 6) (by omega) (by omega)).mp h185) (by omega)
            · refine GW.lload1 dX10_digest_188 ?_
              refine GW.ldc2 kc_X10_369 dX10_digest_189 ?_
              refine GW.lmul dX10_digest_192 ?_
              refine GW.aload0 dX10_digest_193 (g := ?_)
              refine GW.iload3 dX10_digest_194 ?_
              refine GW.iload4 dX10_digest_195 ?_
              refine GW.callV cv_X10_388 mt_X10_found (c_found (G := (im, ad, mc2)) hS2 hok hqi (d := j) (by omega) (hI.1 j (by omega))) dX10_digest_197 (by first | assumption | exact isV.gl (by assumption) | exact wkAt.gl (by assumption) | exact tbAt.gl (by assumption)) rfl rfl rfl rfl (by first | (dsimp only [mX10_digest, gM.dp, gM.kc, gM.ks]; omega) | exact Nat.le_of_ble_eq_true rfl | exact Nat.le_refl _ | omega) (by decide) (by first | omega | (dsimp only [mX10_digest, gM.dp, gM.kc, gM.ks]; omega)) (by first | omega | (dsimp only [mX10_digest, gM.dp, gM.kc, gM.ks]; omega)) (by first | exact Nat.le_of_ble_eq_true rfl | (simp [va_rf_cat]; done) | (simp [va_rf_cat, Value.category]; done)) rfl (fun _ _ h => h.elim) (fun v197 G197 hq => ?_)
              obtain ⟨rfl, mc3, rfl, hS3⟩ := hq
              refine GW.i2l dX10_digest_200 ?_
              refine GW.ladd dX10_digest_201 ?_
              rw [mx_def]
              refine GW.lstore1 dX10_digest_202 (g := ?_)
              refine GW.inc4 dX10_digest_203 (g := ?_)
              refine GW.goto (tgt := 181) dX10_digest_206 (by decide) ?_
              rw [mI_succ]
              have := ih2 (j + 1) mc3 (by omega) hS3
              exact GW.widen (by omega) (by omega) this
        have := inner 6 0 mc1 (by omega) hS1
        exact this
  -- the differences, the patches, the schemas
  have diffs : ∀ (D3 : Int64), dgV (dgD ds 6 D1) cl = D3 → ∀ (m i : Nat) (mc1 : Nat → Option gC), i + m = 5 → St im ad mc1 ds cl at_ ss ps qs → GW (mX10_digest 40 40 250) Q noX (im, ad, mc1) 0 0 103 [some (.ref (ad 0)), some (.long (dgF ds i D3)), none, some (.int (nI i)), none, none, none, none, none, none, none, none] [] := by
    intro D3 hD3 m
    induction m with
    | zero =>
      intro i mc1 hi hS1
      have hi5 : i = 5 := by omega
      subst hi5
      obtain ⟨⟨⟨cla1, a11, -⟩, -⟩, -⟩ := id hS1
      have l01 : gL (im, ad, mc1) (ad 0) (.inl (10, _)) := Or.inr ⟨0, rfl, a11⟩
      refine GW.iload3 dX10_digest_103 ?_
      refine GW.iconst (v := 1) dX10_digest_104 (by decide) ?_
      refine GW.iadd dX10_digest_105 ?_
      refine GW.bipush (v := 6) dX10_digest_106 (by decide) ?_
      refine GW.icmp_ge (tgt := 133) dX10_digest_108 (by decide) (fun h108 => ?_) (fun h108 => ?_)
      · refine GW.aload0 dX10_digest_133 (g := ?_)
        refine GW.lload1 dX10_digest_134 ?_
        refine GW.callV cv_X10_382 mt_X10_digestPatches (c_digestPatches (G := (im, ad, mc1)) (d := dgF ds 5 D3) hS1) dX10_digest_135 (by first | assumption | exact isV.gl (by assumption) | exact wkAt.gl (by assumption) | exact tbAt.gl (by assumption)) rfl rfl rfl rfl (by first | (dsimp only [mX10_digest, gM.dp, gM.kc, gM.ks]; omega) | exact Nat.le_of_ble_eq_true rfl | exact Nat.le_refl _ | omega) (by decide) (by first | omega | (dsimp only [mX10_digest, gM.dp, gM.kc, gM.ks]; omega)) (by first | omega | (dsimp only [mX10_digest, gM.dp, gM.kc, gM.ks]; omega)) (by first | exact Nat.le_of_ble_eq_true rfl | (simp [va_rf_cat]; done) | (simp [va_rf_cat, Value.category]; done)) rfl (fun _ _ h => h.elim) (fun v135 G135 hq => ?_)
        obtain ⟨z, rfl, rfl, rfl⟩ := hq
        refine GW.lstore1 dX10_digest_138 (g := ?_)
        refine GW.iconst (v := 0) dX10_digest_139 (by decide) ?_
        refine GW.istore3 dX10_digest_140 (g := ?_)
        refine GW.iload3 dX10_digest_141 ?_
        refine GW.aload0 dX10_digest_142 (g := ?_)
        refine GW.getf fl_X10_250 dX10_digest_143 (by assumption) (by rfl) ?_
        refine GW.icmp_ge (tgt := 168) dX10_digest_146 (by decide) (fun h146 => ?_) (fun h146 => ?_)
        · refine GW.iconst (v := 0) dX10_digest_168 (by decide) ?_
          refine GW.istore3 dX10_digest_169 (g := ?_)
          exact quer _ (by rw [hD3]; rfl) qs.length 0 mc1 none (by omega) hS1
        · exact absurd (Int32.le_refl _) h146
      · exact absurd (by decide) h108
    | succ m ih =>
      intro i mc1 hi hS1
      obtain ⟨⟨⟨cla1, a11, -⟩, -⟩, -⟩ := id hS1
      have l01 : gL (im, ad, mc1) (ad 0) (.inl (10, _)) := Or.inr ⟨0, rfl, a11⟩
      refine GW.iload3 dX10_digest_103 ?_
      refine GW.iconst (v := 1) dX10_digest_104 (by decide) ?_
      refine GW.iadd dX10_digest_105 ?_
      rw [mI_succ]
      refine GW.bipush (v := 6) dX10_digest_106 (by decide) ?_
      refine GW.icmp_ge (tgt := 133) dX10_digest_108 (by decide) (fun h108 => ?_) (fun h108 => ?_)
      · exact absurd ((mI_le (a := 6) (by omega) (by omega)).mp h108) (by omega)
      · refine GW.lload1 dX10_digest_111 ?_
        refine GW.ldc2 kc_X10_369 dX10_digest_112 ?_
        refine GW.lmul dX10_digest_115 ?_
        refine GW.aload0 dX10_digest_116 (g := ?_)
        refine GW.iload3 dX10_digest_117 ?_
        refine GW.iload3 dX10_digest_118 ?_
        refine GW.iconst (v := 1) dX10_digest_119 (by decide) ?_
        refine GW.iadd dX10_digest_120 ?_
        rw [mI_succ]
        refine GW.callV cv_X10_378 mt_X10_difference (c_difference (G := (im, ad, mc1)) (i := i) (j := i + 1) hS1 (by omega) (by omega) (hI.1 _ (by omega)) (hI.1 _ (by omega))) dX10_digest_121 (by first | assumption | exact isV.gl (by assumption) | exact wkAt.gl (by assumption) | exact tbAt.gl (by assumption)) rfl rfl rfl rfl (by first | (dsimp only [mX10_digest, gM.dp, gM.kc, gM.ks]; omega) | exact Nat.le_of_ble_eq_true rfl | exact Nat.le_refl _ | omega) (by decide) (by first | omega | (dsimp only [mX10_digest, gM.dp, gM.kc, gM.ks]; omega)) (by first | omega | (dsimp only [mX10_digest, gM.dp, gM.kc, gM.ks]; omega)) (by first | exact Nat.le_of_ble_eq_true rfl | (simp [va_rf_cat]; done) | (simp [va_rf_cat, Value.category]; done)) rfl (fun _ _ h => h.elim) (fun v121 G121 hq => ?_)
        obtain ⟨rfl, mc2, rfl, hS2⟩ := hq
        refine GW.i2l dX10_digest_124 ?_
        refine GW.ladd dX10_digest_125 ?_
        rw [mx_def]
        refine GW.lstore1 dX10_digest_126 (g := ?_)
        refine GW.inc3 dX10_digest_127 (g := ?_)
        refine GW.goto (tgt := 103) dX10_digest_130 (by decide) ?_
        rw [mI_succ]
        exact ih (i + 1) mc2 (by omega) hS2
  -- the documents, the CLIP
  have docs : ∀ (m i : Nat) (mc1 : Nat → Option gC), i + m = 6 → St im ad mc1 ds cl at_ ss ps qs → GW (mX10_digest 40 40 250) Q noX (im, ad, mc1) 0 0 68 [some (.ref (ad 0)), some (.long (dgD ds i D1)), none, some (.int (nI i)), none, none, none, none, none, none, none, none] [] := by
    intro m
    induction m with
    | zero =>
      intro i mc1 hi hS1
      have hi6 : i = 6 := by omega
      subst hi6
      obtain ⟨⟨⟨cla1, a11, a21⟩, -⟩, -⟩ := id hS1
      have l01 : gL (im, ad, mc1) (ad 0) (.inl (10, _)) := Or.inr ⟨0, rfl, a11⟩
      refine GW.iload3 dX10_digest_68 ?_
      refine GW.bipush (v := 6) dX10_digest_69 (by decide) ?_
      refine GW.icmp_ge (tgt := 91) dX10_digest_71 (by decide) (fun h71 => ?_) (fun h71 => ?_)
      · refine GW.aload0 dX10_digest_91 (g := ?_)
        refine GW.lload1 dX10_digest_92 ?_
        refine GW.aload0 dX10_digest_93 (g := ?_)
        refine GW.getf fl_X10_18 dX10_digest_94 (by assumption) (by rfl) ?_
        refine GW.callV cv_X10_374 mt_X10_digestValue (c_digestValue (G := (im, ad, mc1)) (d := dgD ds 6 D1) hS1 a21 hI.2.1.2.1) dX10_digest_97 (by first | assumption | exact isV.gl (by assumption) | exact wkAt.gl (by assumption) | exact tbAt.gl (by assumption)) rfl rfl rfl rfl (by first | (dsimp only [mX10_digest, gM.dp, gM.kc, gM.ks]; omega) | exact Nat.le_of_ble_eq_true rfl | exact Nat.le_refl _ | omega) (by decide) (by first | omega | (dsimp only [mX10_digest, gM.dp, gM.kc, gM.ks]; omega)) (by first | omega | (dsimp only [mX10_digest, gM.dp, gM.kc, gM.ks]; omega)) (by first | exact Nat.le_of_ble_eq_true rfl | (simp [va_rf_cat]; done) | (simp [va_rf_cat, Value.category]; done)) rfl (fun _ _ h => h.elim) (fun v97 G97 hq => ?_)
        obtain ⟨rfl, mc2, rfl, hS2⟩ := hq
        refine GW.lstore1 dX10_digest_100 (g := ?_)
        refine GW.iconst (v := 0) dX10_digest_101 (by decide) ?_
        refine GW.istore3 dX10_digest_102 (g := ?_)
        exact diffs _ rfl 5 0 mc2 (by omega) hS2
      · exact absurd (by decide) h71
    | succ m ih =>
      intro i mc1 hi hS1
      obtain ⟨⟨⟨cla1, a11, a21⟩, a31, -⟩, -⟩ := id hS1
      have l01 : gL (im, ad, mc1) (ad 0) (.inl (10, _)) := Or.inr ⟨0, rfl, a11⟩
      refine GW.iload3 dX10_digest_68 ?_
      refine GW.bipush (v := 6) dX10_digest_69 (by decide) ?_
      refine GW.icmp_ge (tgt := 91) dX10_digest_71 (by decide) (fun h71 => ?_) (fun h71 => ?_)
      · exact absurd ((mI_le (a := 6) (by omega) (by omega)).mp h71) (by omega)
      · refine GW.aload0 dX10_digest_74 (g := ?_)
        refine GW.lload1 dX10_digest_75 ?_
        refine GW.aload0 dX10_digest_76 (g := ?_)
        refine GW.iload3 dX10_digest_77 ?_
        refine GW.callV cv_X10_85 mt_X10_wholeOf (c_wholeOf (G := (im, ad, mc1)) (i := i) a11 a31 (by omega)) dX10_digest_78 (by first | assumption | exact isV.gl (by assumption) | exact wkAt.gl (by assumption) | exact tbAt.gl (by assumption)) rfl rfl rfl rfl (by first | (dsimp only [mX10_digest, gM.dp, gM.kc, gM.ks]; omega) | exact Nat.le_of_ble_eq_true rfl | exact Nat.le_refl _ | omega) (by decide) (by first | omega | (dsimp only [mX10_digest, gM.dp, gM.kc, gM.ks]; omega)) (by first | omega | (dsimp only [mX10_digest, gM.dp, gM.kc, gM.ks]; omega)) (by first | exact Nat.le_of_ble_eq_true rfl | (simp [va_rf_cat]; done) | (simp [va_rf_cat, Value.category]; done)) rfl (fun _ _ h => h.elim) (fun v78 G78 hq => ?_)
        obtain ⟨a, rfl, rfl, hv⟩ := hq
        refine GW.callV cv_X10_374 mt_X10_digestValue (c_digestValue (G := (im, ad, mc1)) (d := dgD ds i D1) hS1 hv (hI.1 i (by omega)).2.1) dX10_digest_81 (by first | assumption | exact isV.gl (by assumption) | exact wkAt.gl (by assumption) | exact tbAt.gl (by assumption)) rfl rfl rfl rfl (by first | (dsimp only [mX10_digest, gM.dp, gM.kc, gM.ks]; omega) | exact Nat.le_of_ble_eq_true rfl | exact Nat.le_refl _ | omega) (by decide) (by first | omega | (dsimp only [mX10_digest, gM.dp, gM.kc, gM.ks]; omega)) (by first | omega | (dsimp only [mX10_digest, gM.dp, gM.kc, gM.ks]; omega)) (by first | exact Nat.le_of_ble_eq_true rfl | (simp [va_rf_cat]; done) | (simp [va_rf_cat, Value.category]; done)) rfl (fun _ _ h => h.elim) (fun v81 G81 hq => ?_)
        obtain ⟨rfl, mc2, rfl, hS2⟩ := hq
        refine GW.lstore1 dX10_digest_84 (g := ?_)
        refine GW.inc3 dX10_digest_85 (g := ?_)
        refine GW.goto (tgt := 68) dX10_digest_88 (by decide) ?_
        rw [mI_succ]
        exact ih (i + 1) mc2 (by omega) hS2
  -- the path
  have path : ∀ (m i : Nat), i + m = ss.length → GW (mX10_digest 40 40 250) Q noX (im, ad, mc) 0 0 36 [some (.ref (ad 0)), some (.long ((ss.take i).foldl mx (mx (mx 58048 (nI at_)) (nI ss.length)))), none, some (.int (nI i)), none, none, none, none, none, none, none, none] [] := by
    intro m
    induction m with
    | zero =>
      intro i hi
      refine GW.iload3 dX10_digest_36 ?_
      refine GW.aload0 dX10_digest_37 (g := ?_)
      refine GW.getf fl_X10_25 dX10_digest_38 (by assumption) (by rfl) ?_
      refine GW.getf fl_X10_128 dX10_digest_41 (by assumption) (by rfl) ?_
      refine GW.icmp_ge (tgt := 66) dX10_digest_44 (by decide) (fun h44 => ?_) (fun h44 => ?_)
      · refine GW.iconst (v := 0) dX10_digest_66 (by decide) ?_
        refine GW.istore3 dX10_digest_67 (g := ?_)
        rw [List.take_of_length_le (by omega), hD1]
        exact docs 6 0 mc (by omega) hS
      · exact absurd ((mI_le (by omega) (by omega)).mpr (by omega)) h44
    | succ m ih =>
      intro i hi
      obtain ⟨s, hsi⟩ : ∃ s, ss[i]? = some s := ⟨_, List.getElem?_eq_getElem (by omega)⟩
      refine GW.iload3 dX10_digest_36 ?_
      refine GW.aload0 dX10_digest_37 (g := ?_)
      refine GW.getf fl_X10_25 dX10_digest_38 (by assumption) (by rfl) ?_
      refine GW.getf fl_X10_128 dX10_digest_41 (by assumption) (by rfl) ?_
      refine GW.icmp_ge (tgt := 66) dX10_digest_44 (by decide) (fun h44 => ?_) (fun h44 => ?_)
      · exact absurd ((mI_le (by omega) (by omega)).mp h44) (by omega)
      · refine GW.lload1 dX10_digest_47 ?_
        refine GW.ldc2 kc_X10_369 dX10_digest_48 ?_
        refine GW.lmul dX10_digest_51 ?_
        refine GW.aload0 dX10_digest_52 (g := ?_)
        refine GW.iload3 dX10_digest_53 ?_
        refine GW.callV cv_X10_371 mt_X10_stepAt (c_stepAt (G := (im, ad, mc)) hS hsi) dX10_digest_54 (by first | assumption | exact isV.gl (by assumption) | exact wkAt.gl (by assumption) | exact tbAt.gl (by assumption)) rfl rfl rfl rfl (by first | (dsimp only [mX10_digest, gM.dp, gM.kc, gM.ks]; omega) | exact Nat.le_of_ble_eq_true rfl | exact Nat.le_refl _ | omega) (by decide) (by first | omega | (dsimp only [mX10_digest, gM.dp, gM.kc, gM.ks]; omega)) (by first | omega | (dsimp only [mX10_digest, gM.dp, gM.kc, gM.ks]; omega)) (by first | exact Nat.le_of_ble_eq_true rfl | (simp [va_rf_cat]; done) | (simp [va_rf_cat, Value.category]; done)) rfl (fun _ _ h => h.elim) (fun v54 G54 hq => ?_)
        obtain ⟨z, rfl, rfl, rfl⟩ := hq
        refine GW.i2l dX10_digest_57 ?_
        refine GW.ladd dX10_digest_58 ?_
        rw [mx_def]
        refine GW.lstore1 dX10_digest_59 (g := ?_)
        refine GW.inc3 dX10_digest_60 (g := ?_)
        refine GW.goto (tgt := 36) dX10_digest_63 (by decide) ?_
        rw [mI_succ]
        have := ih (i + 1) (by omega)
        rw [List.take_add_one, hsi, List.foldl_append] at this
        exact this
  refine GW.ldc2 kc_X10_367 dX10_digest_0 ?_
  refine GW.lstore1 dX10_digest_3 (g := ?_)
  refine GW.lload1 dX10_digest_4 ?_
  refine GW.ldc2 kc_X10_369 dX10_digest_5 ?_
  refine GW.lmul dX10_digest_8 ?_
  refine GW.aload0 dX10_digest_9 (g := ?_)
  refine GW.getf fl_X10_25 dX10_digest_10 (by assumption) (by rfl) ?_
  refine GW.getf fl_X10_131 dX10_digest_13 (by assumption) (by rfl) ?_
  refine GW.i2l dX10_digest_16 ?_
  refine GW.ladd dX10_digest_17 ?_
  rw [mx_def]
  refine GW.lstore1 dX10_digest_18 (g := ?_)
  refine GW.lload1 dX10_digest_19 ?_
  refine GW.ldc2 kc_X10_369 dX10_digest_20 ?_
  refine GW.lmul dX10_digest_23 ?_
  refine GW.aload0 dX10_digest_24 (g := ?_)
  refine GW.getf fl_X10_25 dX10_digest_25 (by assumption) (by rfl) ?_
  refine GW.getf fl_X10_128 dX10_digest_28 (by assumption) (by rfl) ?_
  refine GW.i2l dX10_digest_31 ?_
  refine GW.ladd dX10_digest_32 ?_
  rw [mx_def]
  refine GW.lstore1 dX10_digest_33 (g := ?_)
  refine GW.iconst (v := 0) dX10_digest_34 (by decide) ?_
  refine GW.istore3 dX10_digest_35 (g := ?_)
  exact path ss.length 0 (by omega)
end CH
