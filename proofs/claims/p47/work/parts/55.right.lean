/-! THE LAW'S METHODS: areDocumentsRight, areFewRight -/
theorem St.at6 {im : gIm} {ad : Nat → Nat} {mc : Nat → Option gC} {ds : Nat → Tr} {cl : Tr} {at_ : Nat} {ss : List Int32} {ps : List (List OpT)} {qs : List (List (Int32 × Int32))} (h : St im ad mc ds cl at_ ss ps qs) : at_ < 6 := h.1.2.2.2
theorem St.s6 {im : gIm} {ad : Nat → Nat} {mc : Nat → Option gC} {ds : Nat → Tr} {cl : Tr} {at_ : Nat} {ss : List Int32} {ps : List (List OpT)} {qs : List (List (Int32 × Int32))} (h : St im ad mc ds cl at_ ss ps qs) : ss.length ≤ 6 := h.1.2.2.1.1
theorem dpT_1 (t : Tr) : 1 ≤ dpT t := Nat.le_add_right 1 _
/-- what the POINTER points at -/
theorem Inv.pt {ds : Nat → Tr} {cl : Tr} {at_ : Nat} {ss : List Int32} {ps : List (List OpT)} (h : Inv ds cl at_ ss ps) (ha : at_ < 6) : belT (ds at_) ss = some (pT (ds at_) ss) ∧ okD (pT (ds at_) ss) ∧ dpT (pT (ds at_) ss) + ss.length ≤ dpT (ds at_) ∧ szT (pT (ds at_) ss) ≤ szT (ds at_) := by
  obtain ⟨h1, h2, ⟨u, h3⟩, h4⟩ := h
  have hp : pT (ds at_) ss = u := by unfold pT; rw [h3]; rfl
  have hD := h1 at_ ha
  have hd := belT_dp ss (ds at_) u h3
  have hz := belT_sz ss (ds at_) u h3
  rw [hp]
  exact ⟨h3, ⟨wfT_belT ss (ds at_) u hD.1 h3, Nat.le_trans hz hD.2.1, by have := hD.2.2; omega⟩, hd, hz⟩
theorem Df_wr {t u : Tr} (ht : okD t) (hu : okD u) : Df 7 t u = 0 ↔ Wr 7 [] t u = [] := by
  have hs : szT t + szT u < 2 ^ 20 := by have := ht.2.1; have := hu.2.1; omega
  rw [Wr_nil ht.1 hu.1 ht.2.2 hs]
  constructor
  · exact fun h => Df_zero 7 t u ht.1 hu.1 ht.2.2 h
  · intro h; subst h; exact Df_self 7 t
section LAWR
variable {G : gG} {ds : Nat → Tr} {cl : Tr} {at_ : Nat} {ss : List Int32} {ps : List (List OpT)} {qs : List (List (Int32 × Int32))}
abbrev mL_areDocumentsRight (d kc ks : Nat) : gM := (RL, cL_areDocumentsRight, 4, (some .boolean), [], "areDocumentsRight", d, kc, ks)
abbrev kL_areDocumentsRight (d kc ks : Nat) (as : List Value) (G : gG) (Q : Option Value → gG → Prop) (X : String → gG → Prop) : Prop := Ctr yL_areDocumentsRight cL_areDocumentsRight 4 (some .boolean) d kc ks as G Q X
theorem oL_areDocumentsRight {d kc ks : Nat} {as : List Value} {G : gG} {Q : Option Value → gG → Prop} {X : String → gG → Prop} {L : List (Option Value)} (hL : gEnt as = L) (hlen : (lg_sl as).length ≤ 4) (g : GW (mL_areDocumentsRight d kc ks) Q X G 0 0 0 L []) : kL_areDocumentsRight d kc ks as G Q X := Ctr.of (by decide +kernel) rfl rfl hL hlen g
set_option maxHeartbeats 4000000 in
theorem c_docsRight (hS : St G.1 G.2.1 G.2.2 ds cl at_ ss ps qs) (hI : Inv ds cl at_ ss ps) :
    kL_areDocumentsRight 66 1440 7200 [.ref (G.2.1 0)] G (fun v G' => v = some (.int 1) ∧ ∃ im' mc', (im', G.2.1, mc') = G' ∧ St im' G.2.1 mc' ds cl at_ ss ps qs) noX := by
  obtain ⟨im, ad, mc⟩ := G
  have hS : St im ad mc ds cl at_ ss ps qs := hS
  have ha := hS.at6
  refine oL_areDocumentsRight (L := [some (.ref (ad 0)), none, none, none, none, none, none, none, none, none, none, none]) rfl (Nat.le_of_ble_eq_true rfl) ?_
  generalize hQ : (fun (v : Option Value) (G' : gG) => v = some (Value.int 1) ∧ ∃ im' mc', (im', (im, ad, mc).2.1, mc') = G' ∧ St im' (im, ad, mc).2.1 mc' ds cl at_ ss ps qs) = Q
  have fin : ∀ im' mc', St im' ad mc' ds cl at_ ss ps qs → Q (some (.int 1)) (im', ad, mc') := fun im' mc' h2 => by subst hQ; exact ⟨rfl, im', mc', rfl, h2⟩
  have outer : ∀ (m i : Nat) (im1 : gIm) (mc1 : Nat → Option gC), i + m = 6 → St im1 ad mc1 ds cl at_ ss ps qs →
      GW (mL_areDocumentsRight 66 1440 7200) Q noX (im1, ad, mc1) (240 * i) (1200 * i) 2 [some (.ref (ad 0)), some (.int (nI i)), none, none, none, none, none, none, none, none, none, none] [] := by
    intro m
    induction m with
    | zero =>
      intro i im1 mc1 hm hS1
      obtain ⟨_, l1⟩ := hS1.g0
      have hi : i = 6 := by omega
      subst hi
      refine GW.iload1 dL_areDocumentsRight_2 ?_
      refine GW.bipush (v := 6) dL_areDocumentsRight_3 (by decide) ?_
      refine GW.icmp_ge (tgt := 150) dL_areDocumentsRight_5 (by decide) (fun h5 => ?_) (fun h5 => ?_)
      rotate_left
      · exact absurd (by decide) h5
      refine GW.aload0 dL_areDocumentsRight_150 (g := ?_)
      refine GW.callV0 cv_L_59 mt_X10_steps (c_steps (G := (im1, ad, mc1)) hS1) dL_areDocumentsRight_151 (by first | assumption | exact isV.gl (by assumption) | exact wkAt.gl (by assumption) | exact tbAt.gl (by assumption)) rfl rfl rfl rfl (by first | (dsimp only [mL_areDocumentsRight, gM.dp, gM.kc, gM.ks]; omega) | exact Nat.le_of_ble_eq_true rfl | exact Nat.le_refl _ | omega) (by decide) (by first | (dsimp only [mL_areDocumentsRight, gM.dp, gM.kc, gM.ks]; omega) | exact Nat.le_of_ble_eq_true rfl | exact Nat.le_refl _ | omega) (by first | (dsimp only [mL_areDocumentsRight, gM.dp, gM.kc, gM.ks]; omega) | exact Nat.le_of_ble_eq_true rfl | exact Nat.le_refl _ | omega) (by first | exact Nat.le_of_ble_eq_true rfl | (simp [va_rf_cat]; done) | (simp [va_rf_cat, Value.category]; done)) rfl (fun _ _ h => h.elim) (fun v151 G151 hq => ?_)
      obtain ⟨z, rfl, rfl, rfl⟩ := hq
      refine GW.aload0 dL_areDocumentsRight_154 (g := ?_)
      refine GW.aload0 dL_areDocumentsRight_155 (g := ?_)
      refine GW.callV0 cv_L_33 mt_X10_document (c_document (G := (im1, ad, mc1)) hS1) dL_areDocumentsRight_156 (by first | assumption | exact isV.gl (by assumption) | exact wkAt.gl (by assumption) | exact tbAt.gl (by assumption)) rfl rfl rfl rfl (by first | (dsimp only [mL_areDocumentsRight, gM.dp, gM.kc, gM.ks]; omega) | exact Nat.le_of_ble_eq_true rfl | exact Nat.le_refl _ | omega) (by decide) (by first | (dsimp only [mL_areDocumentsRight, gM.dp, gM.kc, gM.ks]; omega) | exact Nat.le_of_ble_eq_true rfl | exact Nat.le_refl _ | omega) (by first | (dsimp only [mL_areDocumentsRight, gM.dp, gM.kc, gM.ks]; omega) | exact Nat.le_of_ble_eq_true rfl | exact Nat.le_refl _ | omega) (by first | exact Nat.le_of_ble_eq_true rfl | (simp [va_rf_cat]; done) | (simp [va_rf_cat, Value.category]; done)) rfl (fun _ _ h => h.elim) (fun v156 G156 hq => ?_)
      obtain ⟨z, rfl, rfl, rfl⟩ := hq
      refine GW.callV0 cv_L_128 mt_X10_depth (c_depth (G := (im1, ad, mc1)) (i := at_) hS1 ha) dL_areDocumentsRight_159 (by first | assumption | exact isV.gl (by assumption) | exact wkAt.gl (by assumption) | exact tbAt.gl (by assumption)) rfl rfl rfl rfl (by first | (dsimp only [mL_areDocumentsRight, gM.dp, gM.kc, gM.ks]; omega) | exact Nat.le_of_ble_eq_true rfl | exact Nat.le_refl _ | omega) (by decide) (by first | (dsimp only [mL_areDocumentsRight, gM.dp, gM.kc, gM.ks]; omega) | exact Nat.le_of_ble_eq_true rfl | exact Nat.le_refl _ | omega) (by first | (dsimp only [mL_areDocumentsRight, gM.dp, gM.kc, gM.ks]; omega) | exact Nat.le_of_ble_eq_true rfl | exact Nat.le_refl _ | omega) (by first | exact Nat.le_of_ble_eq_true rfl | (simp [va_rf_cat]; done) | (simp [va_rf_cat, Value.category]; done)) rfl (fun _ _ h => h.elim) (fun v159 G159 hq => ?_)
      obtain ⟨z, rfl, rfl, rfl⟩ := hq
      obtain ⟨-, -, hdp, -⟩ := hI.pt ha
      have h7 := (hI.1 at_ ha).2.2
      have hd1 := dpT_1 (pT (ds at_) ss)
      refine GW.icmp_ge (tgt := 178) dL_areDocumentsRight_162 (by decide) (fun h162 => ?_) (fun h162 => ?_)
      · exact absurd ((mI_le (by omega) (by omega)).mp h162) (by omega)
      refine GW.aload0 dL_areDocumentsRight_165 (g := ?_)
      refine GW.callV0 cv_L_83 mt_X10_clip (c_clip (G := (im1, ad, mc1)) hS1) dL_areDocumentsRight_166 (by first | assumption | exact isV.gl (by assumption) | exact wkAt.gl (by assumption) | exact tbAt.gl (by assumption)) rfl rfl rfl rfl (by first | (dsimp only [mL_areDocumentsRight, gM.dp, gM.kc, gM.ks]; omega) | exact Nat.le_of_ble_eq_true rfl | exact Nat.le_refl _ | omega) (by decide) (by first | (dsimp only [mL_areDocumentsRight, gM.dp, gM.kc, gM.ks]; omega) | exact Nat.le_of_ble_eq_true rfl | exact Nat.le_refl _ | omega) (by first | (dsimp only [mL_areDocumentsRight, gM.dp, gM.kc, gM.ks]; omega) | exact Nat.le_of_ble_eq_true rfl | exact Nat.le_refl _ | omega) (by first | exact Nat.le_of_ble_eq_true rfl | (simp [va_rf_cat]; done) | (simp [va_rf_cat, Value.category]; done)) rfl (fun _ _ h => h.elim) (fun v166 G166 hq => ?_)
      obtain ⟨z, rfl, rfl, rfl⟩ := hq
      have hc := hI.2.1.2.1
      refine GW.bipush (v := 50) dL_areDocumentsRight_169 (by decide) ?_
      refine GW.icmp_gt (tgt := 178) dL_areDocumentsRight_171 (by decide) (fun h171 => ?_) (fun h171 => ?_)
      · exact absurd ((mI_lt (a := 50) (by decide) (by omega)).mp h171) (by omega)
      refine GW.iconst (v := 1) dL_areDocumentsRight_174 (by decide) ?_
      refine GW.goto (tgt := 179) dL_areDocumentsRight_175 (by decide) ?_
      refine GW.ireturn dL_areDocumentsRight_179 (Or.inr ⟨rfl, by first | exact Or.inl rfl | exact Or.inr rfl | assumption⟩) (by first | (dsimp only [mL_areDocumentsRight, gM.dp, gM.kc, gM.ks]; omega) | exact Nat.le_of_ble_eq_true rfl | exact Nat.le_refl _ | omega) (by first | (dsimp only [mL_areDocumentsRight, gM.dp, gM.kc, gM.ks]; omega) | exact Nat.le_of_ble_eq_true rfl | exact Nat.le_refl _ | omega) ?_
      exact fin _ _ hS1
    | succ m ih =>
      intro i im1 mc1 hm hS1
      obtain ⟨_, l1⟩ := hS1.g0
      have hi : i < 6 := by omega
      have hD := hI.1 i hi
      have hz1 := szT_pos (ds i)
      have hd1 := dpT_1 (ds i)
      have hz5 := hD.2.1
      have hd7 := hD.2.2
      have hdz := dpT_le (ds i)
      refine GW.iload1 dL_areDocumentsRight_2 ?_
      refine GW.bipush (v := 6) dL_areDocumentsRight_3 (by decide) ?_
      refine GW.icmp_ge (tgt := 150) dL_areDocumentsRight_5 (by decide) (fun h5 => ?_) (fun h5 => ?_)
      · exact absurd ((mI_le (a := 6) (by decide) (by omega)).mp h5) (by omega)
      refine GW.aload0 dL_areDocumentsRight_8 (g := ?_)
      refine GW.iload1 dL_areDocumentsRight_9 ?_
      refine GW.callV0 cv_L_37 mt_X10_size (c_size (G := (im1, ad, mc1)) (i := i) hS1 hi) dL_areDocumentsRight_10 (by first | assumption | exact isV.gl (by assumption) | exact wkAt.gl (by assumption) | exact tbAt.gl (by assumption)) rfl rfl rfl rfl (by first | (dsimp only [mL_areDocumentsRight, gM.dp, gM.kc, gM.ks]; omega) | exact Nat.le_of_ble_eq_true rfl | exact Nat.le_refl _ | omega) (by decide) (by first | (dsimp only [mL_areDocumentsRight, gM.dp, gM.kc, gM.ks]; omega) | exact Nat.le_of_ble_eq_true rfl | exact Nat.le_refl _ | omega) (by first | (dsimp only [mL_areDocumentsRight, gM.dp, gM.kc, gM.ks]; omega) | exact Nat.le_of_ble_eq_true rfl | exact Nat.le_refl _ | omega) (by first | exact Nat.le_of_ble_eq_true rfl | (simp [va_rf_cat]; done) | (simp [va_rf_cat, Value.category]; done)) rfl (fun _ _ h => h.elim) (fun v10 G10 hq => ?_)
      obtain ⟨z, rfl, rfl, rfl⟩ := hq
      refine GW.iconst (v := 1) dL_areDocumentsRight_13 (by decide) ?_
      refine GW.icmp_lt (tgt := 59) dL_areDocumentsRight_14 (by decide) (fun h14 => ?_) (fun h14 => ?_)
      · exact absurd ((mI_lt (b := 1) (by omega) (by decide)).mp h14) (by omega)
      refine GW.aload0 dL_areDocumentsRight_17 (g := ?_)
      refine GW.iload1 dL_areDocumentsRight_18 ?_
      refine GW.callV0 cv_L_37 mt_X10_size (c_size (G := (im1, ad, mc1)) (i := i) hS1 hi) dL_areDocumentsRight_19 (by first | assumption | exact isV.gl (by assumption) | exact wkAt.gl (by assumption) | exact tbAt.gl (by assumption)) rfl rfl rfl rfl (by first | (dsimp only [mL_areDocumentsRight, gM.dp, gM.kc, gM.ks]; omega) | exact Nat.le_of_ble_eq_true rfl | exact Nat.le_refl _ | omega) (by decide) (by first | (dsimp only [mL_areDocumentsRight, gM.dp, gM.kc, gM.ks]; omega) | exact Nat.le_of_ble_eq_true rfl | exact Nat.le_refl _ | omega) (by first | (dsimp only [mL_areDocumentsRight, gM.dp, gM.kc, gM.ks]; omega) | exact Nat.le_of_ble_eq_true rfl | exact Nat.le_refl _ | omega) (by first | exact Nat.le_of_ble_eq_true rfl | (simp [va_rf_cat]; done) | (simp [va_rf_cat, Value.category]; done)) rfl (fun _ _ h => h.elim) (fun v19 G19 hq => ?_)
      obtain ⟨z, rfl, rfl, rfl⟩ := hq
      refine GW.bipush (v := 50) dL_areDocumentsRight_22 (by decide) ?_
      refine GW.icmp_gt (tgt := 59) dL_areDocumentsRight_24 (by decide) (fun h24 => ?_) (fun h24 => ?_)
      · exact absurd ((mI_lt (a := 50) (by decide) (by omega)).mp h24) (by omega)
      refine GW.aload0 dL_areDocumentsRight_27 (g := ?_)
      refine GW.iload1 dL_areDocumentsRight_28 ?_
      refine GW.callV0 cv_L_128 mt_X10_depth (c_depth (G := (im1, ad, mc1)) (i := i) hS1 hi) dL_areDocumentsRight_29 (by first | assumption | exact isV.gl (by assumption) | exact wkAt.gl (by assumption) | exact tbAt.gl (by assumption)) rfl rfl rfl rfl (by first | (dsimp only [mL_areDocumentsRight, gM.dp, gM.kc, gM.ks]; omega) | exact Nat.le_of_ble_eq_true rfl | exact Nat.le_refl _ | omega) (by decide) (by first | (dsimp only [mL_areDocumentsRight, gM.dp, gM.kc, gM.ks]; omega) | exact Nat.le_of_ble_eq_true rfl | exact Nat.le_refl _ | omega) (by first | (dsimp only [mL_areDocumentsRight, gM.dp, gM.kc, gM.ks]; omega) | exact Nat.le_of_ble_eq_true rfl | exact Nat.le_refl _ | omega) (by first | exact Nat.le_of_ble_eq_true rfl | (simp [va_rf_cat]; done) | (simp [va_rf_cat, Value.category]; done)) rfl (fun _ _ h => h.elim) (fun v29 G29 hq => ?_)
      obtain ⟨z, rfl, rfl, rfl⟩ := hq
      refine GW.iconst (v := 1) dL_areDocumentsRight_32 (by decide) ?_
      refine GW.icmp_lt (tgt := 59) dL_areDocumentsRight_33 (by decide) (fun h33 => ?_) (fun h33 => ?_)
      · exact absurd ((mI_lt (b := 1) (by omega) (by decide)).mp h33) (by omega)
      refine GW.aload0 dL_areDocumentsRight_36 (g := ?_)
      refine GW.iload1 dL_areDocumentsRight_37 ?_
      refine GW.callV0 cv_L_128 mt_X10_depth (c_depth (G := (im1, ad, mc1)) (i := i) hS1 hi) dL_areDocumentsRight_38 (by first | assumption | exact isV.gl (by assumption) | exact wkAt.gl (by assumption) | exact tbAt.gl (by assumption)) rfl rfl rfl rfl (by first | (dsimp only [mL_areDocumentsRight, gM.dp, gM.kc, gM.ks]; omega) | exact Nat.le_of_ble_eq_true rfl | exact Nat.le_refl _ | omega) (by decide) (by first | (dsimp only [mL_areDocumentsRight, gM.dp, gM.kc, gM.ks]; omega) | exact Nat.le_of_ble_eq_true rfl | exact Nat.le_refl _ | omega) (by first | (dsimp only [mL_areDocumentsRight, gM.dp, gM.kc, gM.ks]; omega) | exact Nat.le_of_ble_eq_true rfl | exact Nat.le_refl _ | omega) (by first | exact Nat.le_of_ble_eq_true rfl | (simp [va_rf_cat]; done) | (simp [va_rf_cat, Value.category]; done)) rfl (fun _ _ h => h.elim) (fun v38 G38 hq => ?_)
      obtain ⟨z, rfl, rfl, rfl⟩ := hq
      refine GW.bipush (v := 7) dL_areDocumentsRight_41 (by decide) ?_
      refine GW.icmp_gt (tgt := 59) dL_areDocumentsRight_43 (by decide) (fun h43 => ?_) (fun h43 => ?_)
      · exact absurd ((mI_lt (a := 7) (by decide) (by omega)).mp h43) (by omega)
      refine GW.aload0 dL_areDocumentsRight_46 (g := ?_)
      refine GW.iload1 dL_areDocumentsRight_47 ?_
      refine GW.callV0 cv_L_128 mt_X10_depth (c_depth (G := (im1, ad, mc1)) (i := i) hS1 hi) dL_areDocumentsRight_48 (by first | assumption | exact isV.gl (by assumption) | exact wkAt.gl (by assumption) | exact tbAt.gl (by assumption)) rfl rfl rfl rfl (by first | (dsimp only [mL_areDocumentsRight, gM.dp, gM.kc, gM.ks]; omega) | exact Nat.le_of_ble_eq_true rfl | exact Nat.le_refl _ | omega) (by decide) (by first | (dsimp only [mL_areDocumentsRight, gM.dp, gM.kc, gM.ks]; omega) | exact Nat.le_of_ble_eq_true rfl | exact Nat.le_refl _ | omega) (by first | (dsimp only [mL_areDocumentsRight, gM.dp, gM.kc, gM.ks]; omega) | exact Nat.le_of_ble_eq_true rfl | exact Nat.le_refl _ | omega) (by first | exact Nat.le_of_ble_eq_true rfl | (simp [va_rf_cat]; done) | (simp [va_rf_cat, Value.category]; done)) rfl (fun _ _ h => h.elim) (fun v48 G48 hq => ?_)
      obtain ⟨z, rfl, rfl, rfl⟩ := hq
      refine GW.aload0 dL_areDocumentsRight_51 (g := ?_)
      refine GW.iload1 dL_areDocumentsRight_52 ?_
      refine GW.callV0 cv_L_37 mt_X10_size (c_size (G := (im1, ad, mc1)) (i := i) hS1 hi) dL_areDocumentsRight_53 (by first | assumption | exact isV.gl (by assumption) | exact wkAt.gl (by assumption) | exact tbAt.gl (by assumption)) rfl rfl rfl rfl (by first | (dsimp only [mL_areDocumentsRight, gM.dp, gM.kc, gM.ks]; omega) | exact Nat.le_of_ble_eq_true rfl | exact Nat.le_refl _ | omega) (by decide) (by first | (dsimp only [mL_areDocumentsRight, gM.dp, gM.kc, gM.ks]; omega) | exact Nat.le_of_ble_eq_true rfl | exact Nat.le_refl _ | omega) (by first | (dsimp only [mL_areDocumentsRight, gM.dp, gM.kc, gM.ks]; omega) | exact Nat.le_of_ble_eq_true rfl | exact Nat.le_refl _ | omega) (by first | exact Nat.le_of_ble_eq_true rfl | (simp [va_rf_cat]; done) | (simp [va_rf_cat, Value.category]; done)) rfl (fun _ _ h => h.elim) (fun v53 G53 hq => ?_)
      obtain ⟨z, rfl, rfl, rfl⟩ := hq
      refine GW.icmp_le (tgt := 61) dL_areDocumentsRight_56 (by decide) (fun h56 => ?_) (fun h56 => ?_)
      rotate_left
      · exact absurd ((mI_le (by omega) (by omega)).mpr hdz) h56
      refine GW.iconst (v := 0) dL_areDocumentsRight_61 (by decide) ?_
      refine GW.istore2 dL_areDocumentsRight_62 (g := ?_)
      have inner : ∀ (m2 j : Nat) (im2 : gIm) (mc2 : Nat → Option gC), j + m2 = 6 → St im2 ad mc2 ds cl at_ ss ps qs →
          GW (mL_areDocumentsRight 66 1440 7200) Q noX (im2, ad, mc2) (240 * i + 40 * j) (1200 * i + 200 * j) 63 [some (.ref (ad 0)), some (.int (nI i)), some (.int (nI j)), none, none, none, none, none, none, none, none, none] [] := by
        intro m2
        induction m2 with
        | zero =>
          intro j im2 mc2 hm2 hS2
          have hj : j = 6 := by omega
          subst hj
          refine GW.iload2 dL_areDocumentsRight_63 ?_
          refine GW.bipush (v := 6) dL_areDocumentsRight_64 (by decide) ?_
          refine GW.icmp_ge (tgt := 144) dL_areDocumentsRight_66 (by decide) (fun h66 => ?_) (fun h66 => ?_)
          rotate_left
          · exact absurd (by decide) h66
          refine GW.inc1 dL_areDocumentsRight_144 (g := ?_)
          refine GW.goto (tgt := 2) dL_areDocumentsRight_147 (by decide) ?_
          refine GW.drop 2 ?_
          rw [mI_succ, show 240 * i + 40 * 6 = 240 * (i + 1) from by omega, show 1200 * i + 200 * 6 = 1200 * (i + 1) from by omega]
          exact ih (i + 1) im2 mc2 (by omega) hS2
        | succ m2 ih2 =>
          intro j im2 mc2 hm2 hS2
          obtain ⟨_, l2⟩ := hS2.g0
          have hj : j < 6 := by omega
          have hE := hI.1 j hj
          have hle := Df_le 7 (ds i) (ds j)
          have hw := (Wr_ok 7 [] (ds i) (ds j) hE.1).2.2
          have he5 := hE.2.1
          have hiff := Df_wr hD hE
          refine GW.iload2 dL_areDocumentsRight_63 ?_
          refine GW.bipush (v := 6) dL_areDocumentsRight_64 (by decide) ?_
          refine GW.icmp_ge (tgt := 144) dL_areDocumentsRight_66 (by decide) (fun h66 => ?_) (fun h66 => ?_)
          · exact absurd ((mI_le (a := 6) (by decide) (by omega)).mp h66) (by omega)
          refine GW.aload0 dL_areDocumentsRight_69 (g := ?_)
          refine GW.iload1 dL_areDocumentsRight_70 ?_
          refine GW.iload2 dL_areDocumentsRight_71 ?_
          refine GW.callV0 cv_L_131 mt_X10_difference (c_difference (G := (im2, ad, mc2)) (i := i) (j := j) hS2 hi hj hD hE) dL_areDocumentsRight_72 (by first | assumption | exact isV.gl (by assumption) | exact wkAt.gl (by assumption) | exact tbAt.gl (by assumption)) rfl rfl rfl rfl (by first | (dsimp only [mL_areDocumentsRight, gM.dp, gM.kc, gM.ks]; omega) | exact Nat.le_of_ble_eq_true rfl | exact Nat.le_refl _ | omega) (by decide) (by first | (dsimp only [mL_areDocumentsRight, gM.dp, gM.kc, gM.ks]; omega) | exact Nat.le_of_ble_eq_true rfl | exact Nat.le_refl _ | omega) (by first | (dsimp only [mL_areDocumentsRight, gM.dp, gM.kc, gM.ks]; omega) | exact Nat.le_of_ble_eq_true rfl | exact Nat.le_refl _ | omega) (by first | exact Nat.le_of_ble_eq_true rfl | (simp [va_rf_cat]; done) | (simp [va_rf_cat, Value.category]; done)) rfl (fun _ _ h => h.elim) (fun v72 G72 hq => ?_)
          obtain ⟨rfl, mc3, rfl, hS3⟩ := hq
          obtain ⟨_, l3⟩ := St.g0 (hS3 : St im2 ad mc3 ds cl at_ ss ps qs)
          refine GW.istore3 dL_areDocumentsRight_75 (g := ?_)
          refine GW.iload3 dL_areDocumentsRight_76 ?_
          refine GW.aload0 dL_areDocumentsRight_77 (g := ?_)
          refine GW.iload2 dL_areDocumentsRight_78 ?_
          refine GW.iload1 dL_areDocumentsRight_79 ?_
          refine GW.callV0 cv_L_131 mt_X10_difference (c_difference (G := (im2, ad, mc3)) (i := j) (j := i) hS3 hj hi hE hD) dL_areDocumentsRight_80 (by first | assumption | exact isV.gl (by assumption) | exact wkAt.gl (by assumption) | exact tbAt.gl (by assumption)) rfl rfl rfl rfl (by first | (dsimp only [mL_areDocumentsRight, gM.dp, gM.kc, gM.ks]; omega) | exact Nat.le_of_ble_eq_true rfl | exact Nat.le_refl _ | omega) (by decide) (by first | (dsimp only [mL_areDocumentsRight, gM.dp, gM.kc, gM.ks]; omega) | exact Nat.le_of_ble_eq_true rfl | exact Nat.le_refl _ | omega) (by first | (dsimp only [mL_areDocumentsRight, gM.dp, gM.kc, gM.ks]; omega) | exact Nat.le_of_ble_eq_true rfl | exact Nat.le_refl _ | omega) (by first | exact Nat.le_of_ble_eq_true rfl | (simp [va_rf_cat]; done) | (simp [va_rf_cat, Value.category]; done)) rfl (fun _ _ h => h.elim) (fun v80 G80 hq => ?_)
          obtain ⟨rfl, mc4, rfl, hS4⟩ := hq
          have hS4 : St im2 ad mc4 ds cl at_ ss ps qs := hS4
          obtain ⟨_, l4⟩ := hS4.g0
          refine GW.icmp_ne (tgt := 136) dL_areDocumentsRight_83 (by decide) (fun h83 => ?_) (fun h83 => ?_)
          · exact absurd (by rw [Df_sym]) h83
          refine GW.iload3 dL_areDocumentsRight_86 ?_
          refine GW.aload0 dL_areDocumentsRight_87 (g := ?_)
          refine GW.iload1 dL_areDocumentsRight_88 ?_
          refine GW.callV0 cv_L_37 mt_X10_size (c_size (G := (im2, ad, mc4)) (i := i) hS4 hi) dL_areDocumentsRight_89 (by first | assumption | exact isV.gl (by assumption) | exact wkAt.gl (by assumption) | exact tbAt.gl (by assumption)) rfl rfl rfl rfl (by first | (dsimp only [mL_areDocumentsRight, gM.dp, gM.kc, gM.ks]; omega) | exact Nat.le_of_ble_eq_true rfl | exact Nat.le_refl _ | omega) (by decide) (by first | (dsimp only [mL_areDocumentsRight, gM.dp, gM.kc, gM.ks]; omega) | exact Nat.le_of_ble_eq_true rfl | exact Nat.le_refl _ | omega) (by first | (dsimp only [mL_areDocumentsRight, gM.dp, gM.kc, gM.ks]; omega) | exact Nat.le_of_ble_eq_true rfl | exact Nat.le_refl _ | omega) (by first | exact Nat.le_of_ble_eq_true rfl | (simp [va_rf_cat]; done) | (simp [va_rf_cat, Value.category]; done)) rfl (fun _ _ h => h.elim) (fun v89 G89 hq => ?_)
          obtain ⟨z, rfl, rfl, rfl⟩ := hq
          refine GW.aload0 dL_areDocumentsRight_92 (g := ?_)
          refine GW.iload2 dL_areDocumentsRight_93 ?_
          refine GW.callV0 cv_L_37 mt_X10_size (c_size (G := (im2, ad, mc4)) (i := j) hS4 hj) dL_areDocumentsRight_94 (by first | assumption | exact isV.gl (by assumption) | exact wkAt.gl (by assumption) | exact tbAt.gl (by assumption)) rfl rfl rfl rfl (by first | (dsimp only [mL_areDocumentsRight, gM.dp, gM.kc, gM.ks]; omega) | exact Nat.le_of_ble_eq_true rfl | exact Nat.le_refl _ | omega) (by decide) (by first | (dsimp only [mL_areDocumentsRight, gM.dp, gM.kc, gM.ks]; omega) | exact Nat.le_of_ble_eq_true rfl | exact Nat.le_refl _ | omega) (by first | (dsimp only [mL_areDocumentsRight, gM.dp, gM.kc, gM.ks]; omega) | exact Nat.le_of_ble_eq_true rfl | exact Nat.le_refl _ | omega) (by first | exact Nat.le_of_ble_eq_true rfl | (simp [va_rf_cat]; done) | (simp [va_rf_cat, Value.category]; done)) rfl (fun _ _ h => h.elim) (fun v94 G94 hq => ?_)
          obtain ⟨z, rfl, rfl, rfl⟩ := hq
          refine GW.iadd dL_areDocumentsRight_97 ?_
          rw [mI_add]
          refine GW.icmp_gt (tgt := 136) dL_areDocumentsRight_98 (by decide) (fun h98 => ?_) (fun h98 => ?_)
          · exact absurd ((mI_lt (by omega) (by omega)).mp h98) (by omega)
          have k119 : ∀ b : Int32, (b = 1 ∧ Df 7 (ds i) (ds j) = 0) ∨ (b = 0 ∧ Df 7 (ds i) (ds j) ≠ 0) → GW (mL_areDocumentsRight 66 1440 7200) Q noX (im2, ad, mc4) (240 * i + 40 * j) (1200 * i + 200 * j) 119 [some (.ref (ad 0)), some (.int (nI i)), some (.int (nI j)), some (.int (nI (Df 7 (ds i) (ds j)))), none, none, none, none, none, none, none, none] [.int b] := by
            intro b hb
            refine GW.aload0 dL_areDocumentsRight_119 (g := ?_)
            refine GW.iload1 dL_areDocumentsRight_120 ?_
            refine GW.iload2 dL_areDocumentsRight_121 ?_
            refine GW.callV cv_L_98 mt_X10_changes (c_changes (G := (im2, ad, mc4)) (i := i) (j := j) hS4 hi hj hD hE) dL_areDocumentsRight_122 (by first | assumption | exact isV.gl (by assumption) | exact wkAt.gl (by assumption) | exact tbAt.gl (by assumption)) rfl rfl rfl rfl (by first | (dsimp only [mL_areDocumentsRight, gM.dp, gM.kc, gM.ks]; omega) | exact Nat.le_of_ble_eq_true rfl | exact Nat.le_refl _ | omega) (by decide) (by first | omega | (dsimp only [mL_areDocumentsRight, gM.dp, gM.kc, gM.ks]; omega)) (by first | omega | (dsimp only [mL_areDocumentsRight, gM.dp, gM.kc, gM.ks]; omega)) (by first | exact Nat.le_of_ble_eq_true rfl | (simp [va_rf_cat]; done) | (simp [va_rf_cat, Value.category]; done)) rfl (fun _ _ h => h.elim) (fun v122 G122 hq => ?_)
            obtain ⟨rfl, im5, mc5, hle5, rfl, hS5⟩ := hq
            rw [show 240 * i + 40 * j + 40 = 240 * i + 40 * (j + 1) from by omega, show 1200 * i + 200 * j + 200 = 1200 * i + 200 * (j + 1) from by omega]
            have k138 : GW (mL_areDocumentsRight 66 1440 7200) Q noX (im5, ad, mc5) (240 * i + 40 * (j + 1)) (1200 * i + 200 * (j + 1)) 138 [some (.ref (ad 0)), some (.int (nI i)), some (.int (nI j)), some (.int (nI (Df 7 (ds i) (ds j)))), none, none, none, none, none, none, none, none] [] := by
              refine GW.inc2 dL_areDocumentsRight_138 (g := ?_)
              refine GW.goto (tgt := 63) dL_areDocumentsRight_141 (by decide) ?_
              refine GW.drop 3 ?_
              rw [mI_succ]
              exact ih2 (j + 1) im5 mc5 (by omega) hS5
            refine GW.if_ne (tgt := 132) dL_areDocumentsRight_125 (by decide) (fun h125 => ?_) (fun h125 => ?_)
            · refine GW.iconst (v := 0) dL_areDocumentsRight_132 (by decide) ?_
              refine GW.icmp_eq (tgt := 138) dL_areDocumentsRight_133 (by decide) (fun h133 => ?_) (fun h133 => ?_)
              · exact k138
              · rcases hb with ⟨rfl, h0⟩ | ⟨rfl, h0⟩
                · rw [hiff.mp h0] at h125
                  exact absurd rfl h125
                · exact absurd rfl h133
            · refine GW.iconst (v := 1) dL_areDocumentsRight_128 (by decide) ?_
              refine GW.goto (tgt := 133) dL_areDocumentsRight_129 (by decide) ?_
              refine GW.icmp_eq (tgt := 138) dL_areDocumentsRight_133 (by decide) (fun h133 => ?_) (fun h133 => ?_)
              · exact k138
              · rcases hb with ⟨rfl, h0⟩ | ⟨rfl, h0⟩
                · exact absurd rfl h133
                · have h125 := (mI_eq (b := 0) (by omega) (by decide)).mp h125
                  exact absurd (hiff.mpr (List.eq_nil_of_length_eq_zero h125)) h0
          have k110 : GW (mL_areDocumentsRight 66 1440 7200) Q noX (im2, ad, mc4) (240 * i + 40 * j) (1200 * i + 200 * j) 110 [some (.ref (ad 0)), some (.int (nI i)), some (.int (nI j)), some (.int (nI (Df 7 (ds i) (ds j)))), none, none, none, none, none, none, none, none] [] := by
            refine GW.iload3 dL_areDocumentsRight_110 ?_
            refine GW.if_ne (tgt := 118) dL_areDocumentsRight_111 (by decide) (fun h111 => ?_) (fun h111 => ?_)
            · refine GW.iconst (v := 0) dL_areDocumentsRight_118 (by decide) ?_
              exact k119 0 (Or.inr ⟨rfl, fun h => by rw [h] at h111; exact h111 rfl⟩)
            · refine GW.iconst (v := 1) dL_areDocumentsRight_114 (by decide) ?_
              refine GW.goto (tgt := 119) dL_areDocumentsRight_115 (by decide) ?_
              exact k119 1 (Or.inl ⟨rfl, (mI_eq (b := 0) (by omega) (by decide)).mp h111⟩)
          refine GW.iload1 dL_areDocumentsRight_101 ?_
          refine GW.iload2 dL_areDocumentsRight_102 ?_
          refine GW.icmp_ne (tgt := 110) dL_areDocumentsRight_103 (by decide) (fun h103 => ?_) (fun h103 => ?_)
          · exact k110
          · have h103 := (mI_eq (by omega) (by omega)).mp h103
            refine GW.iload3 dL_areDocumentsRight_106 ?_
            refine GW.if_ne (tgt := 136) dL_areDocumentsRight_107 (by decide) (fun h107 => ?_) (fun h107 => ?_)
            · exact absurd (by rw [← h103, Df_self]; rfl) h107
            · exact k110
      exact inner 6 0 im1 mc1 (by omega) hS1
  refine GW.iconst (v := 0) dL_areDocumentsRight_0 (by decide) ?_
  refine GW.istore1 dL_areDocumentsRight_1 (g := ?_)
  exact outer 6 0 im mc (by omega) hS
theorem step_lt {t : Tr} {i : Nat} (hw : wfT t) (hi : i + 1 < wd t) (hs : wd t < 2 ^ 20) : stepT t (nI i) < stepT t (nI (i + 1)) := by
  obtain ⟨x, hx, -⟩ := kid_ex (t := t) (j := i) (by omega)
  obtain ⟨y, hy, -⟩ := kid_ex hi
  rw [stepT_mI (by omega) hx, stepT_mI (by omega) hy]
  by_cases h4 : t.1 = 4
  · rw [if_pos h4, if_pos h4]
    have hk := (hw.1.2.2.2.2 h4).1
    obtain ⟨l1, e1⟩ := List.getElem?_eq_some_iff.mp hx
    obtain ⟨l2, e2⟩ := List.getElem?_eq_some_iff.mp hy
    have := List.pairwise_iff_getElem.mp hk i (i + 1) l1 l2 (by omega)
    rw [e1, e2] at this
    exact this
  · rw [if_neg h4, if_neg h4]
    exact (mI_lt (by omega) (by omega)).mpr (by omega)
abbrev mL_areFewRight (d kc ks : Nat) : gM := (RL, cL_areFewRight, 2, (some .boolean), [], "areFewRight", d, kc, ks)
abbrev kL_areFewRight (d kc ks : Nat) (as : List Value) (G : gG) (Q : Option Value → gG → Prop) (X : String → gG → Prop) : Prop := Ctr yL_areFewRight cL_areFewRight 2 (some .boolean) d kc ks as G Q X
theorem oL_areFewRight {d kc ks : Nat} {as : List Value} {G : gG} {Q : Option Value → gG → Prop} {X : String → gG → Prop} {L : List (Option Value)} (hL : gEnt as = L) (hlen : (lg_sl as).length ≤ 2) (g : GW (mL_areFewRight d kc ks) Q X G 0 0 0 L []) : kL_areFewRight d kc ks as G Q X := Ctr.of (by decide +kernel) rfl rfl hL hlen g
set_option maxHeartbeats 4000000 in
theorem c_fewRight (hS : St G.1 G.2.1 G.2.2 ds cl at_ ss ps qs) (hI : Inv ds cl at_ ss ps) :
    kL_areFewRight 7 120 700 [.ref (G.2.1 0)] G (fun v G' => v = some (.int 1) ∧ G = G') noX := by
  obtain ⟨im, ad, mc⟩ := G
  have hS : St im ad mc ds cl at_ ss ps qs := hS
  obtain ⟨_, l0⟩ := hS.g0
  have ha := hS.at6
  have h8 := hS.l8
  have hD := hI.1 at_ ha
  obtain ⟨-, hP, -, hz⟩ := hI.pt ha
  obtain ⟨t, ht⟩ : ∃ t, t = pT (ds at_) ss := ⟨_, rfl⟩
  rw [← ht] at hP hz
  have hw : wd t + 1 ≤ 50 := by
    have := kids_len t.2.2
    have h1 := hP.2.1
    unfold szT at h1
    unfold wd
    omega
  refine oL_areFewRight (L := [some (.ref (ad 0)), none, none, none, none, none, none, none, none, none, none, none]) rfl (Nat.le_of_ble_eq_true rfl) ?_
  generalize hQ : (fun (v : Option Value) (G' : gG) => v = some (Value.int 1) ∧ (im, ad, mc) = G') = Q
  have fin : Q (some (.int 1)) (im, ad, mc) := by subst hQ; exact ⟨rfl, rfl⟩
  have k59 : ∀ k n, k ≤ 120 → n ≤ 700 → GW (mL_areFewRight 7 120 700) Q noX (im, ad, mc) k n 59 [some (.ref (ad 0)), none, none, none, none, none, none, none, none, none, none, none] [] := by
    intro k n hk hn
    have k98 : GW (mL_areFewRight 7 120 700) Q noX (im, ad, mc) k n 98 [some (.ref (ad 0)), none, none, none, none, none, none, none, none, none, none, none] [] := by
      refine GW.iconst (v := 1) dL_areFewRight_98 (by decide) ?_
      refine GW.goto (tgt := 103) dL_areFewRight_99 (by decide) ?_
      refine GW.ireturn dL_areFewRight_103 (Or.inr ⟨rfl, by first | exact Or.inl rfl | exact Or.inr rfl | assumption⟩) (by first | (dsimp only [mL_areFewRight, gM.dp, gM.kc, gM.ks]; omega) | exact Nat.le_of_ble_eq_true rfl | exact Nat.le_refl _ | omega) (by first | (dsimp only [mL_areFewRight, gM.dp, gM.kc, gM.ks]; omega) | exact Nat.le_of_ble_eq_true rfl | exact Nat.le_refl _ | omega) ?_
      exact fin
    have k74 : ∀ b : Int32, (b = 1 ∧ t.2.1 = -10000) ∨ (b = 0 ∧ t.2.1 ≠ -10000) → GW (mL_areFewRight 7 120 700) Q noX (im, ad, mc) k n 74 [some (.ref (ad 0)), none, none, none, none, none, none, none, none, none, none, none] [.int b] := by
      intro b hb
      have hn : t.2.1 = -10000 ↔ (t.1 ≠ 1 ∧ t.1 ≠ 2) := hP.1.1.2.1
      have k94 : ¬ (t.1 ≠ 1 ∧ t.1 ≠ 2) → GW (mL_areFewRight 7 120 700) Q noX (im, ad, mc) k n 94 [some (.ref (ad 0)), none, none, none, none, none, none, none, none, none, none, none] [.int b] := by
        intro h
        refine GW.iconst (v := 0) dL_areFewRight_94 (by decide) ?_
        refine GW.icmp_ne (tgt := 102) dL_areFewRight_95 (by decide) (fun h95 => ?_) (fun h95 => ?_)
        · rcases hb with ⟨rfl, h0⟩ | ⟨rfl, h0⟩
          · exact absurd (hn.mp h0) h
          · exact absurd rfl h95
        · exact k98
      refine GW.aload0 dL_areFewRight_74 (g := ?_)
      refine GW.callV0 cv_L_65 mt_X10_kind (c_kind (G := (im, ad, mc)) hS hD.sml) dL_areFewRight_75 (by first | assumption | exact isV.gl (by assumption) | exact wkAt.gl (by assumption) | exact tbAt.gl (by assumption)) rfl rfl rfl rfl (by first | (dsimp only [mL_areFewRight, gM.dp, gM.kc, gM.ks]; omega) | exact Nat.le_of_ble_eq_true rfl | exact Nat.le_refl _ | omega) (by decide) (by first | (dsimp only [mL_areFewRight, gM.dp, gM.kc, gM.ks]; omega) | exact Nat.le_of_ble_eq_true rfl | exact Nat.le_refl _ | omega) (by first | (dsimp only [mL_areFewRight, gM.dp, gM.kc, gM.ks]; omega) | exact Nat.le_of_ble_eq_true rfl | exact Nat.le_refl _ | omega) (by first | exact Nat.le_of_ble_eq_true rfl | (simp [va_rf_cat]; done) | (simp [va_rf_cat, Value.category]; done)) rfl (fun _ _ h => h.elim) (fun v75 G75 hq => ?_)
      obtain ⟨z, rfl, rfl, rfl⟩ := hq
      rw [← ht]
      refine GW.iconst (v := 1) dL_areFewRight_78 (by decide) ?_
      refine GW.icmp_eq (tgt := 94) dL_areFewRight_79 (by decide) (fun h79 => ?_) (fun h79 => ?_)
      · exact k94 (fun h => h.1 h79)
      refine GW.aload0 dL_areFewRight_82 (g := ?_)
      refine GW.callV0 cv_L_65 mt_X10_kind (c_kind (G := (im, ad, mc)) hS hD.sml) dL_areFewRight_83 (by first | assumption | exact isV.gl (by assumption) | exact wkAt.gl (by assumption) | exact tbAt.gl (by assumption)) rfl rfl rfl rfl (by first | (dsimp only [mL_areFewRight, gM.dp, gM.kc, gM.ks]; omega) | exact Nat.le_of_ble_eq_true rfl | exact Nat.le_refl _ | omega) (by decide) (by first | (dsimp only [mL_areFewRight, gM.dp, gM.kc, gM.ks]; omega) | exact Nat.le_of_ble_eq_true rfl | exact Nat.le_refl _ | omega) (by first | (dsimp only [mL_areFewRight, gM.dp, gM.kc, gM.ks]; omega) | exact Nat.le_of_ble_eq_true rfl | exact Nat.le_refl _ | omega) (by first | exact Nat.le_of_ble_eq_true rfl | (simp [va_rf_cat]; done) | (simp [va_rf_cat, Value.category]; done)) rfl (fun _ _ h => h.elim) (fun v83 G83 hq => ?_)
      obtain ⟨z, rfl, rfl, rfl⟩ := hq
      rw [← ht]
      refine GW.iconst (v := 2) dL_areFewRight_86 (by decide) ?_
      refine GW.icmp_eq (tgt := 94) dL_areFewRight_87 (by decide) (fun h87 => ?_) (fun h87 => ?_)
      · exact k94 (fun h => h.2 h87)
      refine GW.iconst (v := 1) dL_areFewRight_90 (by decide) ?_
      refine GW.goto (tgt := 95) dL_areFewRight_91 (by decide) ?_
      refine GW.icmp_ne (tgt := 102) dL_areFewRight_95 (by decide) (fun h95 => ?_) (fun h95 => ?_)
      · rcases hb with ⟨rfl, h0⟩ | ⟨rfl, h0⟩
        · exact absurd rfl h95
        · exact absurd (hn.mpr ⟨h79, h87⟩) h0
      · exact k98
    refine GW.aload0 dL_areFewRight_59 (g := ?_)
    refine GW.callV0 cv_L_134 mt_X10_number (c_number (G := (im, ad, mc)) hS hD.sml) dL_areFewRight_60 (by first | assumption | exact isV.gl (by assumption) | exact wkAt.gl (by assumption) | exact tbAt.gl (by assumption)) rfl rfl rfl rfl (by first | (dsimp only [mL_areFewRight, gM.dp, gM.kc, gM.ks]; omega) | exact Nat.le_of_ble_eq_true rfl | exact Nat.le_refl _ | omega) (by decide) (by first | (dsimp only [mL_areFewRight, gM.dp, gM.kc, gM.ks]; omega) | exact Nat.le_of_ble_eq_true rfl | exact Nat.le_refl _ | omega) (by first | (dsimp only [mL_areFewRight, gM.dp, gM.kc, gM.ks]; omega) | exact Nat.le_of_ble_eq_true rfl | exact Nat.le_refl _ | omega) (by first | exact Nat.le_of_ble_eq_true rfl | (simp [va_rf_cat]; done) | (simp [va_rf_cat, Value.category]; done)) rfl (fun _ _ h => h.elim) (fun v60 G60 hq => ?_)
    obtain ⟨z, rfl, rfl, rfl⟩ := hq
    rw [← ht]
    refine GW.sipush (v := -10000) dL_areFewRight_63 (by decide) ?_
    refine GW.icmp_ne (tgt := 73) dL_areFewRight_66 (by decide) (fun h66 => ?_) (fun h66 => ?_)
    · refine GW.iconst (v := 0) dL_areFewRight_73 (by decide) ?_
      exact k74 0 (Or.inr ⟨rfl, h66⟩)
    · refine GW.iconst (v := 1) dL_areFewRight_69 (by decide) ?_
      refine GW.goto (tgt := 74) dL_areFewRight_70 (by decide) ?_
      exact k74 1 (Or.inl ⟨rfl, h66⟩)
  have loop : ∀ (m i : Nat), i + m = max 1 (wd t) → 1 ≤ i → GW (mL_areFewRight 7 120 700) Q noX (im, ad, mc) (2 * i - 2) (12 * i - 12) 28 [some (.ref (ad 0)), some (.int (nI i)), none, none, none, none, none, none, none, none, none, none] [] := by
    intro m
    induction m with
    | zero =>
      intro i hm hi
      refine GW.iload1 dL_areFewRight_28 ?_
      refine GW.aload0 dL_areFewRight_29 (g := ?_)
      refine GW.callV0 cv_L_48 mt_X10_children (c_children (G := (im, ad, mc)) hS hD.sml) dL_areFewRight_30 (by first | assumption | exact isV.gl (by assumption) | exact wkAt.gl (by assumption) | exact tbAt.gl (by assumption)) rfl rfl rfl rfl (by first | (dsimp only [mL_areFewRight, gM.dp, gM.kc, gM.ks]; omega) | exact Nat.le_of_ble_eq_true rfl | exact Nat.le_refl _ | omega) (by decide) (by first | (dsimp only [mL_areFewRight, gM.dp, gM.kc, gM.ks]; omega) | exact Nat.le_of_ble_eq_true rfl | exact Nat.le_refl _ | omega) (by first | (dsimp only [mL_areFewRight, gM.dp, gM.kc, gM.ks]; omega) | exact Nat.le_of_ble_eq_true rfl | exact Nat.le_refl _ | omega) (by first | exact Nat.le_of_ble_eq_true rfl | (simp [va_rf_cat]; done) | (simp [va_rf_cat, Value.category]; done)) rfl (fun _ _ h => h.elim) (fun v30 G30 hq => ?_)
      obtain ⟨z, rfl, rfl, rfl⟩ := hq
      rw [← ht]
      refine GW.icmp_ge (tgt := 59) dL_areFewRight_33 (by decide) (fun h33 => ?_) (fun h33 => ?_)
      · refine GW.drop 1 ?_
        exact k59 _ _ (by omega) (by omega)
      · exact absurd ((mI_le (by omega) (by omega)).mpr (by omega)) h33
    | succ m ih =>
      intro i hm hi
      refine GW.iload1 dL_areFewRight_28 ?_
      refine GW.aload0 dL_areFewRight_29 (g := ?_)
      refine GW.callV0 cv_L_48 mt_X10_children (c_children (G := (im, ad, mc)) hS hD.sml) dL_areFewRight_30 (by first | assumption | exact isV.gl (by assumption) | exact wkAt.gl (by assumption) | exact tbAt.gl (by assumption)) rfl rfl rfl rfl (by first | (dsimp only [mL_areFewRight, gM.dp, gM.kc, gM.ks]; omega) | exact Nat.le_of_ble_eq_true rfl | exact Nat.le_refl _ | omega) (by decide) (by first | (dsimp only [mL_areFewRight, gM.dp, gM.kc, gM.ks]; omega) | exact Nat.le_of_ble_eq_true rfl | exact Nat.le_refl _ | omega) (by first | (dsimp only [mL_areFewRight, gM.dp, gM.kc, gM.ks]; omega) | exact Nat.le_of_ble_eq_true rfl | exact Nat.le_refl _ | omega) (by first | exact Nat.le_of_ble_eq_true rfl | (simp [va_rf_cat]; done) | (simp [va_rf_cat, Value.category]; done)) rfl (fun _ _ h => h.elim) (fun v30 G30 hq => ?_)
      obtain ⟨z, rfl, rfl, rfl⟩ := hq
      rw [← ht]
      refine GW.icmp_ge (tgt := 59) dL_areFewRight_33 (by decide) (fun h33 => ?_) (fun h33 => ?_)
      · refine GW.drop 1 ?_
        exact k59 _ _ (by omega) (by omega)
      have hlt : i < wd t := by
        rcases Nat.lt_or_ge i (wd t) with q | q
        · exact q
        · exact absurd ((mI_le (by omega) (by omega)).mpr q) h33
      refine GW.aload0 dL_areFewRight_36 (g := ?_)
      refine GW.iload1 dL_areFewRight_37 ?_
      refine GW.callV cv_L_56 mt_X10_childStep (c_childStep (G := (im, ad, mc)) (i := i) hS hD.sml (by rw [← ht]; exact hP.sml) (by omega)) dL_areFewRight_38 (by first | assumption | exact isV.gl (by assumption) | exact wkAt.gl (by assumption) | exact tbAt.gl (by assumption)) rfl rfl rfl rfl (by first | (dsimp only [mL_areFewRight, gM.dp, gM.kc, gM.ks]; omega) | exact Nat.le_of_ble_eq_true rfl | exact Nat.le_refl _ | omega) (by decide) (by first | omega | (dsimp only [mL_areFewRight, gM.dp, gM.kc, gM.ks]; omega)) (by first | omega | (dsimp only [mL_areFewRight, gM.dp, gM.kc, gM.ks]; omega)) (by first | exact Nat.le_of_ble_eq_true rfl | (simp [va_rf_cat]; done) | (simp [va_rf_cat, Value.category]; done)) rfl (fun E G' hx => absurd hx.1 (by rw [← ht]; omega)) (fun v38 G38 hq => ?_)
      obtain ⟨-, rfl, rfl⟩ := hq
      refine GW.aload0 dL_areFewRight_41 (g := ?_)
      refine GW.iload1 dL_areFewRight_42 ?_
      refine GW.iconst (v := 1) dL_areFewRight_43 (by decide) ?_
      refine GW.isub dL_areFewRight_44 ?_
      rw [mI_pred (a := i) (by omega)]
      refine GW.callV cv_L_56 mt_X10_childStep (c_childStep (G := (im, ad, mc)) (i := i - 1) hS hD.sml (by rw [← ht]; exact hP.sml) (by omega)) dL_areFewRight_45 (by first | assumption | exact isV.gl (by assumption) | exact wkAt.gl (by assumption) | exact tbAt.gl (by assumption)) rfl rfl rfl rfl (by first | (dsimp only [mL_areFewRight, gM.dp, gM.kc, gM.ks]; omega) | exact Nat.le_of_ble_eq_true rfl | exact Nat.le_refl _ | omega) (by decide) (by first | omega | (dsimp only [mL_areFewRight, gM.dp, gM.kc, gM.ks]; omega)) (by first | omega | (dsimp only [mL_areFewRight, gM.dp, gM.kc, gM.ks]; omega)) (by first | exact Nat.le_of_ble_eq_true rfl | (simp [va_rf_cat]; done) | (simp [va_rf_cat, Value.category]; done)) rfl (fun E G' hx => absurd hx.1 (by rw [← ht]; omega)) (fun v45 G45 hq => ?_)
      obtain ⟨-, rfl, rfl⟩ := hq
      rw [← ht]
      refine GW.icmp_gt (tgt := 53) dL_areFewRight_48 (by decide) (fun h48 => ?_) (fun h48 => ?_)
      · refine GW.inc1 dL_areFewRight_53 (g := ?_)
        refine GW.goto (tgt := 28) dL_areFewRight_56 (by decide) ?_
        rw [mI_succ, show 2 * i - 2 + 1 + 1 = 2 * (i + 1) - 2 from by omega, show 12 * i - 12 + 6 + 6 = 12 * (i + 1) - 12 from by omega]
        exact ih (i + 1) (by omega) (by omega)
      · have := step_lt (t := t) (i := i - 1) hP.1 (by omega) (by omega)
        rw [show i - 1 + 1 = i from by omega] at this
        exact absurd this h48
  have k26 : GW (mL_areFewRight 7 120 700) Q noX (im, ad, mc) 0 0 26 [some (.ref (ad 0)), none, none, none, none, none, none, none, none, none, none, none] [] := by
    refine GW.iconst (v := 1) dL_areFewRight_26 (by decide) ?_
    refine GW.istore1 dL_areFewRight_27 (g := ?_)
    exact loop (max 1 (wd t) - 1) 1 (by omega) (Nat.le_refl _)
  refine GW.aload0 dL_areFewRight_0 (g := ?_)
  refine GW.callV0 cv_L_101 mt_X10_patches (c_patches (G := (im, ad, mc)) hS) dL_areFewRight_1 (by first | assumption | exact isV.gl (by assumption) | exact wkAt.gl (by assumption) | exact tbAt.gl (by assumption)) rfl rfl rfl rfl (by first | (dsimp only [mL_areFewRight, gM.dp, gM.kc, gM.ks]; omega) | exact Nat.le_of_ble_eq_true rfl | exact Nat.le_refl _ | omega) (by decide) (by first | (dsimp only [mL_areFewRight, gM.dp, gM.kc, gM.ks]; omega) | exact Nat.le_of_ble_eq_true rfl | exact Nat.le_refl _ | omega) (by first | (dsimp only [mL_areFewRight, gM.dp, gM.kc, gM.ks]; omega) | exact Nat.le_of_ble_eq_true rfl | exact Nat.le_refl _ | omega) (by first | exact Nat.le_of_ble_eq_true rfl | (simp [va_rf_cat]; done) | (simp [va_rf_cat, Value.category]; done)) rfl (fun _ _ h => h.elim) (fun v1 G1 hq => ?_)
  obtain ⟨z, rfl, rfl, rfl⟩ := hq
  refine GW.bipush (v := 8) dL_areFewRight_4 (by decide) ?_
  refine GW.icmp_gt (tgt := 24) dL_areFewRight_6 (by decide) (fun h6 => ?_) (fun h6 => ?_)
  · exact absurd ((mI_lt (a := 8) (by decide) (by omega)).mp h6) (by omega)
  refine GW.aload0 dL_areFewRight_9 (g := ?_)
  refine GW.callV0 cv_L_48 mt_X10_children (c_children (G := (im, ad, mc)) hS hD.sml) dL_areFewRight_10 (by first | assumption | exact isV.gl (by assumption) | exact wkAt.gl (by assumption) | exact tbAt.gl (by assumption)) rfl rfl rfl rfl (by first | (dsimp only [mL_areFewRight, gM.dp, gM.kc, gM.ks]; omega) | exact Nat.le_of_ble_eq_true rfl | exact Nat.le_refl _ | omega) (by decide) (by first | (dsimp only [mL_areFewRight, gM.dp, gM.kc, gM.ks]; omega) | exact Nat.le_of_ble_eq_true rfl | exact Nat.le_refl _ | omega) (by first | (dsimp only [mL_areFewRight, gM.dp, gM.kc, gM.ks]; omega) | exact Nat.le_of_ble_eq_true rfl | exact Nat.le_refl _ | omega) (by first | exact Nat.le_of_ble_eq_true rfl | (simp [va_rf_cat]; done) | (simp [va_rf_cat, Value.category]; done)) rfl (fun _ _ h => h.elim) (fun v10 G10 hq => ?_)
  obtain ⟨z, rfl, rfl, rfl⟩ := hq
  rw [← ht]
  refine GW.if_le (tgt := 26) dL_areFewRight_13 (by decide) (fun h13 => ?_) (fun h13 => ?_)
  · exact k26
  refine GW.aload0 dL_areFewRight_16 (g := ?_)
  refine GW.callV0 cv_L_65 mt_X10_kind (c_kind (G := (im, ad, mc)) hS hD.sml) dL_areFewRight_17 (by first | assumption | exact isV.gl (by assumption) | exact wkAt.gl (by assumption) | exact tbAt.gl (by assumption)) rfl rfl rfl rfl (by first | (dsimp only [mL_areFewRight, gM.dp, gM.kc, gM.ks]; omega) | exact Nat.le_of_ble_eq_true rfl | exact Nat.le_refl _ | omega) (by decide) (by first | (dsimp only [mL_areFewRight, gM.dp, gM.kc, gM.ks]; omega) | exact Nat.le_of_ble_eq_true rfl | exact Nat.le_refl _ | omega) (by first | (dsimp only [mL_areFewRight, gM.dp, gM.kc, gM.ks]; omega) | exact Nat.le_of_ble_eq_true rfl | exact Nat.le_refl _ | omega) (by first | exact Nat.le_of_ble_eq_true rfl | (simp [va_rf_cat]; done) | (simp [va_rf_cat, Value.category]; done)) rfl (fun _ _ h => h.elim) (fun v17 G17 hq => ?_)
  obtain ⟨z, rfl, rfl, rfl⟩ := hq
  rw [← ht]
  refine GW.iconst (v := 3) dL_areFewRight_20 (by decide) ?_
  refine GW.icmp_ge (tgt := 26) dL_areFewRight_21 (by decide) (fun h21 => ?_) (fun h21 => ?_)
  · exact k26
  · have hne : kids t.2.2 ≠ [] := fun h => h13 (by unfold wd; rw [h]; decide)
    rcases hP.1.1.2.2.1 hne with h | h
    · rw [h] at h21; exact absurd (by decide) h21
    · rw [h] at h21; exact absurd (by decide) h21
end LAWR
