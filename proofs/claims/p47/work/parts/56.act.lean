/-! THE LAW'S METHODS: act -/
/-- the store stands as it should, at its addresses -/
def stOk (ad : Nat → Nat) (G : gG) : Prop := ∃ im mc ds cl at_ ss ps qs, (im, ad, mc) = G ∧ St im ad mc ds cl at_ ss ps qs ∧ Inv ds cl at_ ss ps ∧ okQ qs
theorem fin_cases (ds : Nat → Tr) (at_ : Nat) (ss : List Int32) (o : Option Tr) : (∃ t, o = some t ∧ szT t ≤ 50 ∧ dpT t ≤ 7 ∧ finV o = nI (szT t) ∧ finD ds at_ o = updD ds at_ t ∧ finS ss o = ss.take (stl t ss)) ∨ (finV o = -1 ∧ finD ds at_ o = ds ∧ finS ss o = ss) := by
  cases o with
  | none => exact Or.inr ⟨rfl, rfl, rfl⟩
  | some t =>
    by_cases h : szT t ≤ 50 ∧ dpT t ≤ 7
    · exact Or.inl ⟨t, rfl, h.1, h.2, if_pos h, if_pos h, if_pos h⟩
    · exact Or.inr ⟨if_neg h, if_neg h, if_neg h⟩
theorem Inv.upd' {ds : Nat → Tr} {cl : Tr} {at_ : Nat} {ss : List Int32} {ps : List (List OpT)} {u : Tr} (h : Inv ds cl at_ ss ps) (hu : okD u) : Inv (updD ds at_ u) cl at_ (ss.take (stl u ss)) ps := by
  have := h.upd (d := at_) hu
  rwa [if_pos rfl] at this
theorem belT_take {t u : Tr} {ss : List Int32} (k : Nat) (h : belT t ss = some u) : ∃ v, belT t (ss.take k) = some v := by
  rw [← List.take_append_drop k ss, belT_app] at h
  cases hb : belT t (ss.take k) with
  | none => rw [hb] at h; cases h
  | some v => exact ⟨v, rfl⟩
theorem max1 (w : Nat) (hw : w < 2 ^ 31) : (if (1 : Int32) < nI w then nI w else 1) = nI (max 1 w) := by
  show (if nI 1 < nI w then nI w else nI 1) = nI (max 1 w)
  by_cases h : 1 < w
  · rw [if_pos ((mI_lt (a := 1) (by decide) hw).mpr h), Nat.max_eq_right (by omega)]
  · rw [if_neg (fun q => h ((mI_lt (a := 1) (by decide) hw).mp q)), Nat.max_eq_left (by omega)]
theorem okQ_new {qs : List (List (Int32 × Int32))} {p : Int32} (h : okQ qs) (hp : p = 1 ∨ p = 2 ∨ p = 3) : okQ ((qs ++ [[]]).set qs.length [(p, 0)]) := by
  intro q hq x hx
  rcases List.mem_or_eq_of_mem_set hq with hq | rfl
  · rcases List.mem_append.mp hq with hq | hq
    · exact h q hq x hx
    · rw [List.mem_singleton.mp hq] at hx
      exact absurd hx List.not_mem_nil
  · rw [List.mem_singleton.mp hx]
    exact hp
theorem j18 {j : Nat} (h : j < 18) : j = 0 ∨ (j = 1 ∨ j = 2 ∨ j = 3 ∨ j = 4) ∨ j = 5 ∨ (j = 6 ∨ j = 7 ∨ j = 8) ∨ j = 9 ∨ (j = 10 ∨ j = 11 ∨ j = 12) ∨ j = 13 ∨ j = 14 ∨ j = 15 ∨ j = 16 ∨ j = 17 := by omega
section LAWA
variable {G : gG} {ds : Nat → Tr} {cl : Tr} {at_ : Nat} {ss : List Int32} {ps : List (List OpT)} {qs : List (List (Int32 × Int32))}
set_option maxHeartbeats 8000000 in
theorem c_act {x : Int32} (hS : St G.1 G.2.1 G.2.2 ds cl at_ ss ps qs) (hI : Inv ds cl at_ ss ps) (hok : okQ qs) :
    kL_act 66 1600 35000 [.ref (G.2.1 0), .int x] G (fun v G' => v = some (.int 1) ∧ stOk G.2.1 G') noX := by
  obtain ⟨im, ad, mc⟩ := G
  have hS : St im ad mc ds cl at_ ss ps qs := hS
  obtain ⟨_, l0⟩ := hS.g0
  have ha := hS.at6
  have h8 := hS.l8
  have hs6 := hS.s6
  have hD := hI.1 at_ ha
  have hz5 := hD.2.1
  obtain ⟨hb, hP, hdp, hz⟩ := hI.pt ha
  obtain ⟨t, ht⟩ : ∃ t, t = pT (ds at_) ss := ⟨_, rfl⟩
  rw [← ht] at hb hP hdp hz
  have hw : wd t + 1 ≤ 50 := by
    have := kids_len t.2.2
    have h1 := hP.2.1
    unfold szT at h1
    unfold wd
    omega
  refine oL_act (L := [some (.ref (ad 0)), some (.int x), none, none, none, none, none, none, none, none, none, none]) rfl (Nat.le_of_ble_eq_true rfl) ?_
  generalize hQ : (fun (v : Option Value) (G' : gG) => v = some (Value.int 1) ∧ stOk (im, ad, mc).2.1 G') = Q
  have fin : ∀ {im' mc' ds' cl' at' ss' ps' qs'}, St im' ad mc' ds' cl' at' ss' ps' qs' → Inv ds' cl' at' ss' ps' → okQ qs' → Q (some (.int 1)) (im', ad, mc') := fun h1 h2 h3 => by subst hQ; exact ⟨rfl, _, _, _, _, _, _, _, _, rfl, h1, h2, h3⟩
  have ret1 : ∀ {k n : Nat} {L : List (Option Value)} {G' : gG}, Q (some (.int 1)) G' → k ≤ 1600 → n ≤ 35000 → GW (mL_act 66 1600 35000) Q noX G' k n 490 L [] := by
    intro k n L G' hq hk hn
    refine GW.goto (tgt := 527) dL_act_490 (by decide) ?_
    refine GW.iconst (v := 1) dL_act_527 (by decide) ?_
    refine GW.ireturn dL_act_528 (Or.inr ⟨rfl, by first | exact Or.inl rfl | exact Or.inr rfl | assumption⟩) (by first | (dsimp only [mL_act, gM.dp, gM.kc, gM.ks]; omega) | exact Nat.le_of_ble_eq_true rfl | exact Nat.le_refl _ | omega) (by first | (dsimp only [mL_act, gM.dp, gM.kc, gM.ks]; omega) | exact Nat.le_of_ble_eq_true rfl | exact Nat.le_refl _ | omega) ?_
    exact hq
  have hn493 : ∀ {k n : Nat} {im' : gIm} {mc' : Nat → Option gC} {a4 a5 a6 a7 a8 a9 a10 a11 : Option Value} (q : Nat), St im' ad mc' ds cl at_ ss ps qs → k ≤ 1600 → n ≤ 35000 → GW (mL_act 66 1600 35000) Q noX (im', ad, mc') k n 493 [some (.ref (ad 0)), some (.int x), some (.int (nI at_)), some (.int (nI (szT (ds at_)))), a4, a5, a6, a7, a8, a9, a10, a11] [.ref q] := by
    intro k n im' mc' a4 a5 a6 a7 a8 a9 a10 a11 q hS' hk hn
    obtain ⟨_, l'⟩ := hS'.g0
    refine GW.astore4 dL_act_493 (g := ?_)
    refine GW.aload0 dL_act_495 (g := ?_)
    refine GW.iload2 dL_act_496 ?_
    refine GW.callVh cv_L_37 mt_X10_size (c_size (G := (im', ad, mc')) (i := at_) hS' ha) dL_act_497 (by first | assumption | exact isV.gl (by assumption) | exact wkAt.gl (by assumption) | exact tbAt.gl (by assumption)) rfl rfl rfl rfl (by first | (dsimp only [mL_act, gM.dp, gM.kc, gM.ks]; omega) | exact Nat.le_of_ble_eq_true rfl | exact Nat.le_refl _ | omega) (by decide) (by first | omega | (dsimp only [mL_act, gM.dp, gM.kc, gM.ks]; omega)) (by first | omega | (dsimp only [mL_act, gM.dp, gM.kc, gM.ks]; omega)) (by first | exact Nat.le_of_ble_eq_true rfl | (simp [va_rf_cat]; done) | (simp [va_rf_cat, Value.category]; done)) (fun _ _ h => h.elim) (fun v497 G497 hq => ?_)
    obtain ⟨z, rfl, rfl, rfl⟩ := hq
    refine GW.iload3 dL_act_500 ?_
    refine GW.icmp_ne (tgt := 508) dL_act_501 (by decide) (fun h501 => ?_) (fun h501 => ?_)
    · exact absurd rfl h501
    refine GW.iconst (v := 1) dL_act_504 (by decide) ?_
    refine GW.goto (tgt := 509) dL_act_505 (by decide) ?_
    refine GW.ireturn dL_act_509 (Or.inr ⟨rfl, by first | exact Or.inl rfl | exact Or.inr rfl | assumption⟩) (by first | (dsimp only [mL_act, gM.dp, gM.kc, gM.ks]; omega) | exact Nat.le_of_ble_eq_true rfl | exact Nat.le_refl _ | omega) (by first | (dsimp only [mL_act, gM.dp, gM.kc, gM.ks]; omega) | exact Nat.le_of_ble_eq_true rfl | exact Nat.le_refl _ | omega) ?_
    exact fin hS' hI hok
  have hn510 : ∀ {k n : Nat} {im' : gIm} {mc' : Nat → Option gC} {a4 a5 a6 a7 a8 a9 a10 a11 : Option Value} (q : Nat), St im' ad mc' ds cl at_ ss ps qs → k ≤ 1600 → n ≤ 35000 → GW (mL_act 66 1600 35000) Q noX (im', ad, mc') k n 510 [some (.ref (ad 0)), some (.int x), some (.int (nI at_)), some (.int (nI (szT (ds at_)))), a4, a5, a6, a7, a8, a9, a10, a11] [.ref q] := by
    intro k n im' mc' a4 a5 a6 a7 a8 a9 a10 a11 q hS' hk hn
    obtain ⟨_, l'⟩ := hS'.g0
    refine GW.astore4 dL_act_510 (g := ?_)
    refine GW.aload0 dL_act_512 (g := ?_)
    refine GW.iload2 dL_act_513 ?_
    refine GW.callVh cv_L_37 mt_X10_size (c_size (G := (im', ad, mc')) (i := at_) hS' ha) dL_act_514 (by first | assumption | exact isV.gl (by assumption) | exact wkAt.gl (by assumption) | exact tbAt.gl (by assumption)) rfl rfl rfl rfl (by first | (dsimp only [mL_act, gM.dp, gM.kc, gM.ks]; omega) | exact Nat.le_of_ble_eq_true rfl | exact Nat.le_refl _ | omega) (by decide) (by first | omega | (dsimp only [mL_act, gM.dp, gM.kc, gM.ks]; omega)) (by first | omega | (dsimp only [mL_act, gM.dp, gM.kc, gM.ks]; omega)) (by first | exact Nat.le_of_ble_eq_true rfl | (simp [va_rf_cat]; done) | (simp [va_rf_cat, Value.category]; done)) (fun _ _ h => h.elim) (fun v514 G514 hq => ?_)
    obtain ⟨z, rfl, rfl, rfl⟩ := hq
    refine GW.iload3 dL_act_517 ?_
    refine GW.icmp_ne (tgt := 525) dL_act_518 (by decide) (fun h518 => ?_) (fun h518 => ?_)
    · exact absurd rfl h518
    refine GW.iconst (v := 1) dL_act_521 (by decide) ?_
    refine GW.goto (tgt := 526) dL_act_522 (by decide) ?_
    refine GW.ireturn dL_act_526 (Or.inr ⟨rfl, by first | exact Or.inl rfl | exact Or.inr rfl | assumption⟩) (by first | (dsimp only [mL_act, gM.dp, gM.kc, gM.ks]; omega) | exact Nat.le_of_ble_eq_true rfl | exact Nat.le_refl _ | omega) (by first | (dsimp only [mL_act, gM.dp, gM.kc, gM.ks]; omega) | exact Nat.le_of_ble_eq_true rfl | exact Nat.le_refl _ | omega) ?_
    exact fin hS' hI hok
  have k100 : GW (mL_act 66 1600 35000) Q noX (im, ad, mc) 0 0 100 [some (.ref (ad 0)), some (.int x), some (.int (nI at_)), some (.int (nI (szT (ds at_)))), none, none, none, none, none, none, none, none] [] := by
    refine GW.aload0 dL_act_100 (g := ?_)
    refine GW.iload1 dL_act_101 ?_
    refine GW.iconst (v := 4) dL_act_102 (by decide) ?_
    refine GW.ishr dL_act_103 ?_
    refine GW.iconst (v := 3) dL_act_104 (by decide) ?_
    refine GW.callSh cs_L_41 mt_L_below (c_Lbelow (n := 3) (by decide) (by decide)) dL_act_105 rfl rfl (by first | (dsimp only [mL_act, gM.dp, gM.kc, gM.ks]; omega) | exact Nat.le_of_ble_eq_true rfl | exact Nat.le_refl _ | omega) (by decide) (by first | omega | (dsimp only [mL_act, gM.dp, gM.kc, gM.ks]; omega)) (by first | omega | (dsimp only [mL_act, gM.dp, gM.kc, gM.ks]; omega)) (by first | exact Nat.le_of_ble_eq_true rfl | (simp [va_rf_cat]; done) | (simp [va_rf_cat, Value.category]; done)) (fun _ _ h => h.elim) (fun v105 G105 hq => ?_)
    obtain ⟨z, rfl, rfl, j, hj, rfl⟩ := hq
    refine GW.callVh cv_L_45 mt_X10_point (c_point (G := (im, ad, mc)) (d := j) hS (by omega)) dL_act_108 (by first | assumption | exact isV.gl (by assumption) | exact wkAt.gl (by assumption) | exact tbAt.gl (by assumption)) rfl rfl rfl rfl (by first | (dsimp only [mL_act, gM.dp, gM.kc, gM.ks]; omega) | exact Nat.le_of_ble_eq_true rfl | exact Nat.le_refl _ | omega) (by decide) (by first | omega | (dsimp only [mL_act, gM.dp, gM.kc, gM.ks]; omega)) (by first | omega | (dsimp only [mL_act, gM.dp, gM.kc, gM.ks]; omega)) (by first | exact Nat.le_of_ble_eq_true rfl | (simp [va_rf_cat]; done) | (simp [va_rf_cat, Value.category]; done)) (fun _ _ h => h.elim) (fun v108 G108 hq => ?_)
    obtain ⟨⟨w, rfl⟩, mc1, rfl, hS1⟩ := hq
    refine GW.pop dL_act_111 (hv := by first | rfl | exact va_rf_cat _) (g := ?_)
    refine GW.goto (tgt := 490) dL_act_112 (by decide) ?_
    exact ret1 (fin hS1 ⟨hI.1, hI.2.1, ⟨_, rfl⟩, hI.2.2.2⟩ hok) (by omega) (by omega)
  have k115 : GW (mL_act 66 1600 35000) Q noX (im, ad, mc) 0 0 115 [some (.ref (ad 0)), some (.int x), some (.int (nI at_)), some (.int (nI (szT (ds at_)))), none, none, none, none, none, none, none, none] [] := by
    refine GW.iload1 dL_act_115 ?_
    refine GW.iconst (v := 5) dL_act_116 (by decide) ?_
    refine GW.ishr dL_act_117 ?_
    refine GW.iconst (v := 1) dL_act_118 (by decide) ?_
    refine GW.aload0 dL_act_119 (g := ?_)
    refine GW.callVh cv_L_48 mt_X10_children (c_children (G := (im, ad, mc)) hS hD.sml) dL_act_120 (by first | assumption | exact isV.gl (by assumption) | exact wkAt.gl (by assumption) | exact tbAt.gl (by assumption)) rfl rfl rfl rfl (by first | (dsimp only [mL_act, gM.dp, gM.kc, gM.ks]; omega) | exact Nat.le_of_ble_eq_true rfl | exact Nat.le_refl _ | omega) (by decide) (by first | omega | (dsimp only [mL_act, gM.dp, gM.kc, gM.ks]; omega)) (by first | omega | (dsimp only [mL_act, gM.dp, gM.kc, gM.ks]; omega)) (by first | exact Nat.le_of_ble_eq_true rfl | (simp [va_rf_cat]; done) | (simp [va_rf_cat, Value.category]; done)) (fun _ _ h => h.elim) (fun v120 G120 hq => ?_)
    obtain ⟨z, rfl, rfl, rfl⟩ := hq
    rw [← ht]
    refine GW.mmax cs_L_51 dL_act_123 max_w m_ini (by first | exact Nat.le_of_ble_eq_true rfl | omega) (by first | (dsimp only [mL_act, gM.dp, gM.kc, gM.ks]; omega) | exact Nat.le_of_ble_eq_true rfl | omega) (by first | (dsimp only [mL_act, gM.dp, gM.kc, gM.ks]; omega) | exact Nat.le_of_ble_eq_true rfl | omega) (by first | exact Nat.le_of_ble_eq_true rfl | (simp [va_rf_cat]; done)) ?_
    rw [max1 (wd t) (by omega)]
    refine GW.callSh cs_L_41 mt_L_below (c_Lbelow (n := max 1 (wd t)) (by omega) (by omega)) dL_act_126 rfl rfl (by first | (dsimp only [mL_act, gM.dp, gM.kc, gM.ks]; omega) | exact Nat.le_of_ble_eq_true rfl | exact Nat.le_refl _ | omega) (by decide) (by first | omega | (dsimp only [mL_act, gM.dp, gM.kc, gM.ks]; omega)) (by first | omega | (dsimp only [mL_act, gM.dp, gM.kc, gM.ks]; omega)) (by first | exact Nat.le_of_ble_eq_true rfl | (simp [va_rf_cat]; done) | (simp [va_rf_cat, Value.category]; done)) (fun _ _ h => h.elim) (fun v126 G126 hq => ?_)
    obtain ⟨z, rfl, rfl, j, hj, rfl⟩ := hq
    refine GW.istore4 dL_act_129 (g := ?_)
    refine GW.aload0 dL_act_131 (g := ?_)
    refine GW.iload4 dL_act_132 ?_
    refine GW.callVh cv_L_56 mt_X10_childStep (c_childStep (G := (im, ad, mc)) (i := j) hS hD.sml (by rw [← ht]; exact hP.sml) (by omega)) dL_act_134 (by first | assumption | exact isV.gl (by assumption) | exact wkAt.gl (by assumption) | exact tbAt.gl (by assumption)) rfl rfl rfl rfl (by first | (dsimp only [mL_act, gM.dp, gM.kc, gM.ks]; omega) | exact Nat.le_of_ble_eq_true rfl | exact Nat.le_refl _ | omega) (by decide) (by first | omega | (dsimp only [mL_act, gM.dp, gM.kc, gM.ks]; omega)) (by first | omega | (dsimp only [mL_act, gM.dp, gM.kc, gM.ks]; omega)) (by first | exact Nat.le_of_ble_eq_true rfl | (simp [va_rf_cat]; done) | (simp [va_rf_cat, Value.category]; done)) (fun E G' hx => by obtain ⟨-, rfl, rfl⟩ := hx; exact ⟨493, catI cov134, fun q => hn493 q hS (by omega) (by omega)⟩) (fun v134 G134 hq => ?_)
    rw [← ht] at hq
    obtain ⟨hjw, rfl, rfl⟩ := hq
    obtain ⟨y, hy, hyk⟩ := kid_ex hjw
    obtain ⟨s, hs⟩ : ∃ s, s = stepT t (nI j) := ⟨_, rfl⟩
    rw [← hs]
    have hst : stp t s = some y.2 := by
      rw [hs, stepT_mI (by omega) hy]
      exact stp_eq (placeT_kid hP.1 hy (by omega)) hyk
    have hbs : belT (ds at_) (ss ++ [s]) = some y.2 := by
      rw [belT_appS hb, belT, hst]; rfl
    have hps : pT (ds at_) (ss ++ [s]) = y.2 := by unfold pT; rw [hbs]; rfl
    have hl6 : ss.length < 6 := by
      have q1 := belT_dp [s] t y.2 (by rw [belT, hst]; rfl)
      have q2 := dpT_1 y.2
      have q3 := hD.2.2
      have q4 : [s].length = 1 := rfl
      omega
    refine GW.istore5 dL_act_137 (g := ?_)
    refine GW.aload0 dL_act_139 (g := ?_)
    refine GW.callVh cv_L_59 mt_X10_steps (c_steps (G := (im, ad, mc)) hS) dL_act_140 (by first | assumption | exact isV.gl (by assumption) | exact wkAt.gl (by assumption) | exact tbAt.gl (by assumption)) rfl rfl rfl rfl (by first | (dsimp only [mL_act, gM.dp, gM.kc, gM.ks]; omega) | exact Nat.le_of_ble_eq_true rfl | exact Nat.le_refl _ | omega) (by decide) (by first | omega | (dsimp only [mL_act, gM.dp, gM.kc, gM.ks]; omega)) (by first | omega | (dsimp only [mL_act, gM.dp, gM.kc, gM.ks]; omega)) (by first | exact Nat.le_of_ble_eq_true rfl | (simp [va_rf_cat]; done) | (simp [va_rf_cat, Value.category]; done)) (fun _ _ h => h.elim) (fun v140 G140 hq => ?_)
    obtain ⟨z, rfl, rfl, rfl⟩ := hq
    refine GW.istore6 dL_act_143 (g := ?_)
    refine GW.aload0 dL_act_145 (g := ?_)
    refine GW.iload5 dL_act_146 ?_
    refine GW.callVh cv_L_62 mt_X10_into (c_into (G := (im, ad, mc)) (s := s) (c := y.2) hS hD.sml (by rw [← ht]; exact hP.sml) (by rw [← ht]; exact hst) hl6) dL_act_148 (by first | assumption | exact isV.gl (by assumption) | exact wkAt.gl (by assumption) | exact tbAt.gl (by assumption)) rfl rfl rfl rfl (by first | (dsimp only [mL_act, gM.dp, gM.kc, gM.ks]; omega) | exact Nat.le_of_ble_eq_true rfl | exact Nat.le_refl _ | omega) (by decide) (by first | omega | (dsimp only [mL_act, gM.dp, gM.kc, gM.ks]; omega)) (by first | omega | (dsimp only [mL_act, gM.dp, gM.kc, gM.ks]; omega)) (by first | exact Nat.le_of_ble_eq_true rfl | (simp [va_rf_cat]; done) | (simp [va_rf_cat, Value.category]; done)) (fun _ _ h => h.elim) (fun v148 G148 hq => ?_)
    obtain ⟨rfl, mc1, rfl, hS1⟩ := hq
    have hS1 : St im ad mc1 ds cl at_ (ss ++ [s]) ps qs := hS1
    obtain ⟨_, l1⟩ := hS1.g0
    refine GW.aload0 dL_act_151 (g := ?_)
    refine GW.callVh cv_L_65 mt_X10_kind (c_kind (G := (im, ad, mc1)) hS1 hD.sml) dL_act_152 (by first | assumption | exact isV.gl (by assumption) | exact wkAt.gl (by assumption) | exact tbAt.gl (by assumption)) rfl rfl rfl rfl (by first | (dsimp only [mL_act, gM.dp, gM.kc, gM.ks]; omega) | exact Nat.le_of_ble_eq_true rfl | exact Nat.le_refl _ | omega) (by decide) (by first | omega | (dsimp only [mL_act, gM.dp, gM.kc, gM.ks]; omega)) (by first | omega | (dsimp only [mL_act, gM.dp, gM.kc, gM.ks]; omega)) (by first | exact Nat.le_of_ble_eq_true rfl | (simp [va_rf_cat]; done) | (simp [va_rf_cat, Value.category]; done)) (fun _ _ h => h.elim) (fun v152 G152 hq => ?_)
    obtain ⟨z, rfl, rfl, rfl⟩ := hq
    rw [hps]
    refine GW.icmp_ne (tgt := 184) dL_act_155 (by decide) (fun h155 => ?_) (fun h155 => ?_)
    · exact absurd rfl h155
    refine GW.aload0 dL_act_158 (g := ?_)
    refine GW.callVh cv_L_59 mt_X10_steps (c_steps (G := (im, ad, mc1)) hS1) dL_act_159 (by first | assumption | exact isV.gl (by assumption) | exact wkAt.gl (by assumption) | exact tbAt.gl (by assumption)) rfl rfl rfl rfl (by first | (dsimp only [mL_act, gM.dp, gM.kc, gM.ks]; omega) | exact Nat.le_of_ble_eq_true rfl | exact Nat.le_refl _ | omega) (by decide) (by first | omega | (dsimp only [mL_act, gM.dp, gM.kc, gM.ks]; omega)) (by first | omega | (dsimp only [mL_act, gM.dp, gM.kc, gM.ks]; omega)) (by first | exact Nat.le_of_ble_eq_true rfl | (simp [va_rf_cat]; done) | (simp [va_rf_cat, Value.category]; done)) (fun _ _ h => h.elim) (fun v159 G159 hq => ?_)
    obtain ⟨z, rfl, rfl, rfl⟩ := hq
    refine GW.iload6 dL_act_162 ?_
    refine GW.iconst (v := 1) dL_act_164 (by decide) ?_
    refine GW.iadd dL_act_165 ?_
    rw [mI_succ, List.length_append, List.length_singleton]
    refine GW.icmp_ne (tgt := 184) dL_act_166 (by decide) (fun h166 => ?_) (fun h166 => ?_)
    · exact absurd rfl h166
    refine GW.aload0 dL_act_169 (g := ?_)
    refine GW.iload6 dL_act_170 ?_
    refine GW.callVh cv_L_68 mt_X10_stepAt (c_stepAt (G := (im, ad, mc1)) (i := ss.length) (s := s) hS1 (by simp)) dL_act_172 (by first | assumption | exact isV.gl (by assumption) | exact wkAt.gl (by assumption) | exact tbAt.gl (by assumption)) rfl rfl rfl rfl (by first | (dsimp only [mL_act, gM.dp, gM.kc, gM.ks]; omega) | exact Nat.le_of_ble_eq_true rfl | exact Nat.le_refl _ | omega) (by decide) (by first | omega | (dsimp only [mL_act, gM.dp, gM.kc, gM.ks]; omega)) (by first | omega | (dsimp only [mL_act, gM.dp, gM.kc, gM.ks]; omega)) (by first | exact Nat.le_of_ble_eq_true rfl | (simp [va_rf_cat]; done) | (simp [va_rf_cat, Value.category]; done)) (fun _ _ h => h.elim) (fun v172 G172 hq => ?_)
    obtain ⟨z, rfl, rfl, rfl⟩ := hq
    refine GW.iload5 dL_act_175 ?_
    refine GW.icmp_ne (tgt := 184) dL_act_177 (by decide) (fun h177 => ?_) (fun h177 => ?_)
    · exact absurd rfl h177
    refine GW.iconst (v := 1) dL_act_180 (by decide) ?_
    refine GW.goto (tgt := 185) dL_act_181 (by decide) ?_
    refine GW.ireturn dL_act_185 (Or.inr ⟨rfl, by first | exact Or.inl rfl | exact Or.inr rfl | assumption⟩) (by first | (dsimp only [mL_act, gM.dp, gM.kc, gM.ks]; omega) | exact Nat.le_of_ble_eq_true rfl | exact Nat.le_refl _ | omega) (by first | (dsimp only [mL_act, gM.dp, gM.kc, gM.ks]; omega) | exact Nat.le_of_ble_eq_true rfl | exact Nat.le_refl _ | omega) ?_
    exact fin hS1 ⟨hI.1, hI.2.1, ⟨_, hbs⟩, hI.2.2.2⟩ hok
  have k186 : GW (mL_act 66 1600 35000) Q noX (im, ad, mc) 0 0 186 [some (.ref (ad 0)), some (.int x), some (.int (nI at_)), some (.int (nI (szT (ds at_)))), none, none, none, none, none, none, none, none] [] := by
    refine GW.aload0 dL_act_186 (g := ?_)
    refine GW.callVh cv_L_71 mt_X10_up (c_up (G := (im, ad, mc)) hS) dL_act_187 (by first | assumption | exact isV.gl (by assumption) | exact wkAt.gl (by assumption) | exact tbAt.gl (by assumption)) rfl rfl rfl rfl (by first | (dsimp only [mL_act, gM.dp, gM.kc, gM.ks]; omega) | exact Nat.le_of_ble_eq_true rfl | exact Nat.le_refl _ | omega) (by decide) (by first | omega | (dsimp only [mL_act, gM.dp, gM.kc, gM.ks]; omega)) (by first | omega | (dsimp only [mL_act, gM.dp, gM.kc, gM.ks]; omega)) (by first | exact Nat.le_of_ble_eq_true rfl | (simp [va_rf_cat]; done) | (simp [va_rf_cat, Value.category]; done)) (fun E G' hx => by obtain ⟨rfl, rfl⟩ := hx; exact ⟨510, catS cov187, fun q => hn510 q hS (by omega) (by omega)⟩) (fun v187 G187 hq => ?_)
    obtain ⟨⟨w, rfl⟩, mc1, rfl, hS1⟩ := hq
    refine GW.pop dL_act_190 (hv := by first | rfl | exact va_rf_cat _) (g := ?_)
    refine GW.goto (tgt := 490) dL_act_191 (by decide) ?_
    exact ret1 (fin hS1 ⟨hI.1, hI.2.1, belT_take _ hb, hI.2.2.2⟩ hok) (by omega) (by omega)
  have k194 : GW (mL_act 66 1600 35000) Q noX (im, ad, mc) 0 0 194 [some (.ref (ad 0)), some (.int x), some (.int (nI at_)), some (.int (nI (szT (ds at_)))), none, none, none, none, none, none, none, none] [] := by
    refine GW.aload0 dL_act_194 (g := ?_)
    refine GW.iload1 dL_act_195 ?_
    refine GW.iconst (v := 4) dL_act_196 (by decide) ?_
    refine GW.ishr dL_act_197 ?_
    refine GW.iconst (v := 5) dL_act_198 (by decide) ?_
    refine GW.callSh cs_L_41 mt_L_below (c_Lbelow (n := 5) (by decide) (by decide)) dL_act_199 rfl rfl (by first | (dsimp only [mL_act, gM.dp, gM.kc, gM.ks]; omega) | exact Nat.le_of_ble_eq_true rfl | exact Nat.le_refl _ | omega) (by decide) (by first | omega | (dsimp only [mL_act, gM.dp, gM.kc, gM.ks]; omega)) (by first | omega | (dsimp only [mL_act, gM.dp, gM.kc, gM.ks]; omega)) (by first | exact Nat.le_of_ble_eq_true rfl | (simp [va_rf_cat]; done) | (simp [va_rf_cat, Value.category]; done)) (fun _ _ h => h.elim) (fun v199 G199 hq => ?_)
    obtain ⟨z, rfl, rfl, j, hj, rfl⟩ := hq
    refine GW.iload1 dL_act_202 ?_
    refine GW.bipush (v := 7) dL_act_203 (by decide) ?_
    refine GW.ishr dL_act_205 ?_
    refine GW.iconst (v := 2) dL_act_206 (by decide) ?_
    refine GW.callSh cs_L_41 mt_L_below (c_Lbelow (n := 2) (by decide) (by decide)) dL_act_207 rfl rfl (by first | (dsimp only [mL_act, gM.dp, gM.kc, gM.ks]; omega) | exact Nat.le_of_ble_eq_true rfl | exact Nat.le_refl _ | omega) (by decide) (by first | omega | (dsimp only [mL_act, gM.dp, gM.kc, gM.ks]; omega)) (by first | omega | (dsimp only [mL_act, gM.dp, gM.kc, gM.ks]; omega)) (by first | exact Nat.le_of_ble_eq_true rfl | (simp [va_rf_cat]; done) | (simp [va_rf_cat, Value.category]; done)) (fun _ _ h => h.elim) (fun v207 G207 hq => ?_)
    obtain ⟨z, rfl, rfl, j2, hj2, rfl⟩ := hq
    refine GW.callVh cv_L_74 mt_X10_set (c_set (G := (im, ad, mc)) (kd := j) (nb := j2) hS hD hj hj2) dL_act_210 (by first | assumption | exact isV.gl (by assumption) | exact wkAt.gl (by assumption) | exact tbAt.gl (by assumption)) rfl rfl rfl rfl (by first | (dsimp only [mL_act, gM.dp, gM.kc, gM.ks]; omega) | exact Nat.le_of_ble_eq_true rfl | exact Nat.le_refl _ | omega) (by decide) (by first | omega | (dsimp only [mL_act, gM.dp, gM.kc, gM.ks]; omega)) (by first | omega | (dsimp only [mL_act, gM.dp, gM.kc, gM.ks]; omega)) (by first | exact Nat.le_of_ble_eq_true rfl | (simp [va_rf_cat]; done) | (simp [va_rf_cat, Value.category]; done)) (fun _ _ h => h.elim) (fun v210 G210 hq => ?_)
    obtain ⟨rfl, im1, mc1, hle1, rfl, hS1⟩ := hq
    rw [← ht]
    obtain ⟨wf, zf, df⟩ := fvT_ok hj hj2
    have hpu : doPut (ds at_) ss (fvT j j2) = some (plug (ds at_) ss (fvT j j2)) := by unfold doPut; rw [hb]; rfl
    have hsz := szT_doPut hpu hb
    have hp1 := szT_pos t
    have hdq := dpT_plug ss (ds at_) t (fvT j j2) hD.1 hb (by rw [df]; exact dpT_1 t)
    have hu : okD (plug (ds at_) ss (fvT j j2)) := ⟨wfT_plug ss _ t _ hD.1 wf hb, by omega, Nat.le_trans hdq hD.2.2⟩
    have hS1 : St im1 ad mc1 (finD ds at_ (doPut (ds at_) ss (fvT j j2))) cl at_ (finS ss (doPut (ds at_) ss (fvT j j2))) ps qs := hS1
    rw [hpu] at hS1
    rw [show finD ds at_ (some (plug (ds at_) ss (fvT j j2))) = updD ds at_ (plug (ds at_) ss (fvT j j2)) from if_pos hu.2, show finS ss (some (plug (ds at_) ss (fvT j j2))) = ss.take (stl (plug (ds at_) ss (fvT j j2)) ss) from if_pos hu.2] at hS1
    obtain ⟨_, l1⟩ := hS1.g0
    refine GW.istore7 dL_act_213 (g := ?_)
    refine GW.aload0 dL_act_215 (g := ?_)
    refine GW.iload2 dL_act_216 ?_
    refine GW.callVh cv_L_37 mt_X10_size (c_size (G := (im1, ad, mc1)) (i := at_) hS1 ha) dL_act_217 (by first | assumption | exact isV.gl (by assumption) | exact wkAt.gl (by assumption) | exact tbAt.gl (by assumption)) rfl rfl rfl rfl (by first | (dsimp only [mL_act, gM.dp, gM.kc, gM.ks]; omega) | exact Nat.le_of_ble_eq_true rfl | exact Nat.le_refl _ | omega) (by decide) (by first | omega | (dsimp only [mL_act, gM.dp, gM.kc, gM.ks]; omega)) (by first | omega | (dsimp only [mL_act, gM.dp, gM.kc, gM.ks]; omega)) (by first | exact Nat.le_of_ble_eq_true rfl | (simp [va_rf_cat]; done) | (simp [va_rf_cat, Value.category]; done)) (fun _ _ h => h.elim) (fun v217 G217 hq => ?_)
    obtain ⟨z, rfl, rfl, rfl⟩ := hq
    rw [updD_same]
    refine GW.iload3 dL_act_220 ?_
    refine GW.iload7 dL_act_221 ?_
    refine GW.isub dL_act_223 ?_
    refine GW.iconst (v := 1) dL_act_224 (by decide) ?_
    refine GW.iadd dL_act_225 ?_
    rw [pk_sub hz, mI_succ]
    refine GW.icmp_ne (tgt := 233) dL_act_226 (by decide) (fun h226 => ?_) (fun h226 => ?_)
    · refine absurd ?_ h226
      rw [show szT (plug (ds at_) ss (fvT j j2)) = szT (ds at_) - szT t + 1 from by omega]
    refine GW.iconst (v := 1) dL_act_229 (by decide) ?_
    refine GW.goto (tgt := 234) dL_act_230 (by decide) ?_
    refine GW.ireturn dL_act_234 (Or.inr ⟨rfl, by first | exact Or.inl rfl | exact Or.inr rfl | assumption⟩) (by first | (dsimp only [mL_act, gM.dp, gM.kc, gM.ks]; omega) | exact Nat.le_of_ble_eq_true rfl | exact Nat.le_refl _ | omega) (by first | (dsimp only [mL_act, gM.dp, gM.kc, gM.ks]; omega) | exact Nat.le_of_ble_eq_true rfl | exact Nat.le_refl _ | omega) ?_
    exact fin hS1 (hI.upd' hu) hok
  have k235 : GW (mL_act 66 1600 35000) Q noX (im, ad, mc) 0 0 235 [some (.ref (ad 0)), some (.int x), some (.int (nI at_)), some (.int (nI (szT (ds at_)))), none, none, none, none, none, none, none, none] [] := by
    refine GW.aload0 dL_act_235 (g := ?_)
    refine GW.callVh cv_L_77 mt_X10_copy (c_copy (G := (im, ad, mc)) hS hD.sml) dL_act_236 (by first | assumption | exact isV.gl (by assumption) | exact wkAt.gl (by assumption) | exact tbAt.gl (by assumption)) rfl rfl rfl rfl (by first | (dsimp only [mL_act, gM.dp, gM.kc, gM.ks]; omega) | exact Nat.le_of_ble_eq_true rfl | exact Nat.le_refl _ | omega) (by decide) (by first | omega | (dsimp only [mL_act, gM.dp, gM.kc, gM.ks]; omega)) (by first | omega | (dsimp only [mL_act, gM.dp, gM.kc, gM.ks]; omega)) (by first | exact Nat.le_of_ble_eq_true rfl | (simp [va_rf_cat]; done) | (simp [va_rf_cat, Value.category]; done)) (fun _ _ h => h.elim) (fun v236 G236 hq => ?_)
    obtain ⟨⟨w, rfl⟩, mc1, rfl, hS1⟩ := hq
    refine GW.pop dL_act_239 (hv := by first | rfl | exact va_rf_cat _) (g := ?_)
    refine GW.goto (tgt := 490) dL_act_240 (by decide) ?_
    exact ret1 (fin hS1 ⟨hI.1, by rw [← ht]; exact hP, hI.2.2.1, hI.2.2.2⟩ hok) (by omega) (by omega)
  have k243 : GW (mL_act 66 1600 35000) Q noX (im, ad, mc) 0 0 243 [some (.ref (ad 0)), some (.int x), some (.int (nI at_)), some (.int (nI (szT (ds at_)))), none, none, none, none, none, none, none, none] [] := by
    refine GW.aload0 dL_act_243 (g := ?_)
    refine GW.iload1 dL_act_244 ?_
    refine GW.iconst (v := 5) dL_act_245 (by decide) ?_
    refine GW.ishr dL_act_246 ?_
    refine GW.bipush (v := 6) dL_act_247 (by decide) ?_
    refine GW.callSh cs_L_41 mt_L_below (c_Lbelow (n := 6) (by decide) (by decide)) dL_act_249 rfl rfl (by first | (dsimp only [mL_act, gM.dp, gM.kc, gM.ks]; omega) | exact Nat.le_of_ble_eq_true rfl | exact Nat.le_refl _ | omega) (by decide) (by first | omega | (dsimp only [mL_act, gM.dp, gM.kc, gM.ks]; omega)) (by first | omega | (dsimp only [mL_act, gM.dp, gM.kc, gM.ks]; omega)) (by first | exact Nat.le_of_ble_eq_true rfl | (simp [va_rf_cat]; done) | (simp [va_rf_cat, Value.category]; done)) (fun _ _ h => h.elim) (fun v249 G249 hq => ?_)
    obtain ⟨z, rfl, rfl, j, hj, rfl⟩ := hq
    refine GW.callVh cv_L_80 mt_X10_insert (c_insert (G := (im, ad, mc)) (s := nI j) hS hD hI.2.1) dL_act_252 (by first | assumption | exact isV.gl (by assumption) | exact wkAt.gl (by assumption) | exact tbAt.gl (by assumption)) rfl rfl rfl rfl (by first | (dsimp only [mL_act, gM.dp, gM.kc, gM.ks]; omega) | exact Nat.le_of_ble_eq_true rfl | exact Nat.le_refl _ | omega) (by decide) (by first | omega | (dsimp only [mL_act, gM.dp, gM.kc, gM.ks]; omega)) (by first | omega | (dsimp only [mL_act, gM.dp, gM.kc, gM.ks]; omega)) (by first | exact Nat.le_of_ble_eq_true rfl | (simp [va_rf_cat]; done) | (simp [va_rf_cat, Value.category]; done)) (fun _ _ h => h.elim) (fun v252 G252 hq => ?_)
    obtain ⟨rfl, im1, mc1, hle1, rfl, hS1⟩ := hq
    have hS1 : St im1 ad mc1 (finD ds at_ (doAdd (ds at_) ss (nI j) cl)) cl at_ (finS ss (doAdd (ds at_) ss (nI j) cl)) ps qs := hS1
    obtain ⟨_, l1⟩ := hS1.g0
    rcases fin_cases ds at_ ss (doAdd (ds at_) ss (nI j) cl) with ⟨t1, e1, z1, d1, e2, e3, e4⟩ | ⟨e2, e3, e4⟩
    · rw [e3, e4] at hS1
      rw [e2]
      have hsz := szT_doAdd e1
      obtain ⟨u, i, g1, g2, g3⟩ := doAdd_some e1
      have hu : okD t1 := ⟨by rw [g3]; exact wfT_plug ss _ u _ hD.1 (wfT_addP (wfT_belT ss _ u hD.1 g1) hI.2.1.1 g2) g1, z1, d1⟩
      refine GW.istore8 dL_act_255 (g := ?_)
      refine GW.iload8 dL_act_257 ?_
      refine GW.iconst (v := -1) dL_act_259 (by decide) ?_
      refine GW.icmp_ne (tgt := 280) dL_act_260 (by decide) (fun h260 => ?_) (fun h260 => ?_)
      rotate_left
      · exact absurd (by rw [h260]; decide) (mI_nonneg (a := szT t1) (by omega))
      refine GW.iload8 dL_act_280 ?_
      refine GW.iload3 dL_act_282 ?_
      refine GW.aload0 dL_act_283 (g := ?_)
      refine GW.callVh cv_L_83 mt_X10_clip (c_clip (G := (im1, ad, mc1)) hS1) dL_act_284 (by first | assumption | exact isV.gl (by assumption) | exact wkAt.gl (by assumption) | exact tbAt.gl (by assumption)) rfl rfl rfl rfl (by first | (dsimp only [mL_act, gM.dp, gM.kc, gM.ks]; omega) | exact Nat.le_of_ble_eq_true rfl | exact Nat.le_refl _ | omega) (by decide) (by first | omega | (dsimp only [mL_act, gM.dp, gM.kc, gM.ks]; omega)) (by first | omega | (dsimp only [mL_act, gM.dp, gM.kc, gM.ks]; omega)) (by first | exact Nat.le_of_ble_eq_true rfl | (simp [va_rf_cat]; done) | (simp [va_rf_cat, Value.category]; done)) (fun _ _ h => h.elim) (fun v284 G284 hq => ?_)
      obtain ⟨z, rfl, rfl, rfl⟩ := hq
      refine GW.iadd dL_act_287 ?_
      rw [mI_add, ← hsz]
      refine GW.icmp_ne (tgt := 305) dL_act_288 (by decide) (fun h288 => ?_) (fun h288 => ?_)
      · exact absurd rfl h288
      refine GW.aload0 dL_act_291 (g := ?_)
      refine GW.iload2 dL_act_292 ?_
      refine GW.callVh cv_L_37 mt_X10_size (c_size (G := (im1, ad, mc1)) (i := at_) hS1 ha) dL_act_293 (by first | assumption | exact isV.gl (by assumption) | exact wkAt.gl (by assumption) | exact tbAt.gl (by assumption)) rfl rfl rfl rfl (by first | (dsimp only [mL_act, gM.dp, gM.kc, gM.ks]; omega) | exact Nat.le_of_ble_eq_true rfl | exact Nat.le_refl _ | omega) (by decide) (by first | omega | (dsimp only [mL_act, gM.dp, gM.kc, gM.ks]; omega)) (by first | omega | (dsimp only [mL_act, gM.dp, gM.kc, gM.ks]; omega)) (by first | exact Nat.le_of_ble_eq_true rfl | (simp [va_rf_cat]; done) | (simp [va_rf_cat, Value.category]; done)) (fun _ _ h => h.elim) (fun v293 G293 hq => ?_)
      obtain ⟨z, rfl, rfl, rfl⟩ := hq
      rw [updD_same]
      refine GW.iload8 dL_act_296 ?_
      refine GW.icmp_ne (tgt := 305) dL_act_298 (by decide) (fun h298 => ?_) (fun h298 => ?_)
      · exact absurd rfl h298
      refine GW.iconst (v := 1) dL_act_301 (by decide) ?_
      refine GW.goto (tgt := 306) dL_act_302 (by decide) ?_
      refine GW.ireturn dL_act_306 (Or.inr ⟨rfl, by first | exact Or.inl rfl | exact Or.inr rfl | assumption⟩) (by first | (dsimp only [mL_act, gM.dp, gM.kc, gM.ks]; omega) | exact Nat.le_of_ble_eq_true rfl | exact Nat.le_refl _ | omega) (by first | (dsimp only [mL_act, gM.dp, gM.kc, gM.ks]; omega) | exact Nat.le_of_ble_eq_true rfl | exact Nat.le_refl _ | omega) ?_
      exact fin hS1 (hI.upd' hu) hok
    · rw [e3, e4] at hS1
      rw [e2]
      refine GW.istore8 dL_act_255 (g := ?_)
      refine GW.iload8 dL_act_257 ?_
      refine GW.iconst (v := -1) dL_act_259 (by decide) ?_
      refine GW.icmp_ne (tgt := 280) dL_act_260 (by decide) (fun h260 => ?_) (fun h260 => ?_)
      · exact absurd rfl h260
      refine GW.aload0 dL_act_263 (g := ?_)
      refine GW.iload2 dL_act_264 ?_
      refine GW.callVh cv_L_37 mt_X10_size (c_size (G := (im1, ad, mc1)) (i := at_) hS1 ha) dL_act_265 (by first | assumption | exact isV.gl (by assumption) | exact wkAt.gl (by assumption) | exact tbAt.gl (by assumption)) rfl rfl rfl rfl (by first | (dsimp only [mL_act, gM.dp, gM.kc, gM.ks]; omega) | exact Nat.le_of_ble_eq_true rfl | exact Nat.le_refl _ | omega) (by decide) (by first | omega | (dsimp only [mL_act, gM.dp, gM.kc, gM.ks]; omega)) (by first | omega | (dsimp only [mL_act, gM.dp, gM.kc, gM.ks]; omega)) (by first | exact Nat.le_of_ble_eq_true rfl | (simp [va_rf_cat]; done) | (simp [va_rf_cat, Value.category]; done)) (fun _ _ h => h.elim) (fun v265 G265 hq => ?_)
      obtain ⟨z, rfl, rfl, rfl⟩ := hq
      refine GW.iload3 dL_act_268 ?_
      refine GW.icmp_ne (tgt := 276) dL_act_269 (by decide) (fun h269 => ?_) (fun h269 => ?_)
      · exact absurd rfl h269
      refine GW.iconst (v := 1) dL_act_272 (by decide) ?_
      refine GW.goto (tgt := 306) dL_act_273 (by decide) ?_
      refine GW.ireturn dL_act_306 (Or.inr ⟨rfl, by first | exact Or.inl rfl | exact Or.inr rfl | assumption⟩) (by first | (dsimp only [mL_act, gM.dp, gM.kc, gM.ks]; omega) | exact Nat.le_of_ble_eq_true rfl | exact Nat.le_refl _ | omega) (by first | (dsimp only [mL_act, gM.dp, gM.kc, gM.ks]; omega) | exact Nat.le_of_ble_eq_true rfl | exact Nat.le_refl _ | omega) ?_
      exact fin hS1 hI hok
  have k307 : GW (mL_act 66 1600 35000) Q noX (im, ad, mc) 0 0 307 [some (.ref (ad 0)), some (.int x), some (.int (nI at_)), some (.int (nI (szT (ds at_)))), none, none, none, none, none, none, none, none] [] := by
    refine GW.aload0 dL_act_307 (g := ?_)
    refine GW.iload1 dL_act_308 ?_
    refine GW.iconst (v := 5) dL_act_309 (by decide) ?_
    refine GW.ishr dL_act_310 ?_
    refine GW.bipush (v := 6) dL_act_311 (by decide) ?_
    refine GW.callSh cs_L_41 mt_L_below (c_Lbelow (n := 6) (by decide) (by decide)) dL_act_313 rfl rfl (by first | (dsimp only [mL_act, gM.dp, gM.kc, gM.ks]; omega) | exact Nat.le_of_ble_eq_true rfl | exact Nat.le_refl _ | omega) (by decide) (by first | omega | (dsimp only [mL_act, gM.dp, gM.kc, gM.ks]; omega)) (by first | omega | (dsimp only [mL_act, gM.dp, gM.kc, gM.ks]; omega)) (by first | exact Nat.le_of_ble_eq_true rfl | (simp [va_rf_cat]; done) | (simp [va_rf_cat, Value.category]; done)) (fun _ _ h => h.elim) (fun v313 G313 hq => ?_)
    obtain ⟨z, rfl, rfl, j, hj, rfl⟩ := hq
    refine GW.callVh cv_L_86 mt_X10_drop (c_drop (G := (im, ad, mc)) (s := nI j) hS hD) dL_act_316 (by first | assumption | exact isV.gl (by assumption) | exact wkAt.gl (by assumption) | exact tbAt.gl (by assumption)) rfl rfl rfl rfl (by first | (dsimp only [mL_act, gM.dp, gM.kc, gM.ks]; omega) | exact Nat.le_of_ble_eq_true rfl | exact Nat.le_refl _ | omega) (by decide) (by first | omega | (dsimp only [mL_act, gM.dp, gM.kc, gM.ks]; omega)) (by first | omega | (dsimp only [mL_act, gM.dp, gM.kc, gM.ks]; omega)) (by first | exact Nat.le_of_ble_eq_true rfl | (simp [va_rf_cat]; done) | (simp [va_rf_cat, Value.category]; done)) (fun _ _ h => h.elim) (fun v316 G316 hq => ?_)
    obtain ⟨rfl, im1, mc1, hle1, rfl, hS1⟩ := hq
    have hS1 : St im1 ad mc1 (finD ds at_ (doDrop (ds at_) ss (nI j))) cl at_ (finS ss (doDrop (ds at_) ss (nI j))) ps qs := hS1
    have hz1 := szT_pos (ds at_)
    refine GW.iload3 dL_act_319 ?_
    rcases fin_cases ds at_ ss (doDrop (ds at_) ss (nI j)) with ⟨t1, e1, z1, d1, e2, e3, e4⟩ | ⟨e2, e3, e4⟩
    · rw [e3, e4] at hS1
      rw [e2]
      have hsz := szT_doDrop e1
      obtain ⟨u, i, c, g1, g2, g3, g4, -⟩ := doDrop_some e1
      have hu : okD t1 := ⟨by rw [g4]; exact wfT_plug ss _ u _ hD.1 (wfT_remP (wfT_belT ss _ u hD.1 g1) (kid_lt g3)) g1, z1, d1⟩
      refine GW.icmp_ge (tgt := 327) dL_act_320 (by decide) (fun h320 => ?_) (fun h320 => ?_)
      · exact absurd ((mI_le (by omega) (by omega)).mp h320) (by omega)
      refine GW.iconst (v := 1) dL_act_323 (by decide) ?_
      refine GW.goto (tgt := 328) dL_act_324 (by decide) ?_
      refine GW.ireturn dL_act_328 (Or.inr ⟨rfl, by first | exact Or.inl rfl | exact Or.inr rfl | assumption⟩) (by first | (dsimp only [mL_act, gM.dp, gM.kc, gM.ks]; omega) | exact Nat.le_of_ble_eq_true rfl | exact Nat.le_refl _ | omega) (by first | (dsimp only [mL_act, gM.dp, gM.kc, gM.ks]; omega) | exact Nat.le_of_ble_eq_true rfl | exact Nat.le_refl _ | omega) ?_
      exact fin hS1 (hI.upd' hu) hok
    · rw [e3, e4] at hS1
      rw [e2]
      refine GW.icmp_ge (tgt := 327) dL_act_320 (by decide) (fun h320 => ?_) (fun h320 => ?_)
      · refine absurd h320 (fun q => ?_)
        have := Int32.le_iff_toInt_le.mp q
        rw [mI_toInt (by omega)] at this
        have e : (-1 : Int32).toInt = -1 := by decide
        omega
      refine GW.iconst (v := 1) dL_act_323 (by decide) ?_
      refine GW.goto (tgt := 328) dL_act_324 (by decide) ?_
      refine GW.ireturn dL_act_328 (Or.inr ⟨rfl, by first | exact Or.inl rfl | exact Or.inr rfl | assumption⟩) (by first | (dsimp only [mL_act, gM.dp, gM.kc, gM.ks]; omega) | exact Nat.le_of_ble_eq_true rfl | exact Nat.le_refl _ | omega) (by first | (dsimp only [mL_act, gM.dp, gM.kc, gM.ks]; omega) | exact Nat.le_of_ble_eq_true rfl | exact Nat.le_refl _ | omega) ?_
      exact fin hS1 hI hok
  have k329 : GW (mL_act 66 1600 35000) Q noX (im, ad, mc) 0 0 329 [some (.ref (ad 0)), some (.int x), some (.int (nI at_)), some (.int (nI (szT (ds at_)))), none, none, none, none, none, none, none, none] [] := by
    refine GW.iload1 dL_act_329 ?_
    refine GW.iconst (v := 5) dL_act_330 (by decide) ?_
    refine GW.ishr dL_act_331 ?_
    refine GW.iconst (v := 3) dL_act_332 (by decide) ?_
    refine GW.callSh cs_L_41 mt_L_below (c_Lbelow (n := 3) (by decide) (by decide)) dL_act_333 rfl rfl (by first | (dsimp only [mL_act, gM.dp, gM.kc, gM.ks]; omega) | exact Nat.le_of_ble_eq_true rfl | exact Nat.le_refl _ | omega) (by decide) (by first | omega | (dsimp only [mL_act, gM.dp, gM.kc, gM.ks]; omega)) (by first | omega | (dsimp only [mL_act, gM.dp, gM.kc, gM.ks]; omega)) (by first | exact Nat.le_of_ble_eq_true rfl | (simp [va_rf_cat]; done) | (simp [va_rf_cat, Value.category]; done)) (fun _ _ h => h.elim) (fun v333 G333 hq => ?_)
    obtain ⟨z, rfl, rfl, a, ha3, rfl⟩ := hq
    refine GW.istore9 dL_act_336 (g := ?_)
    refine GW.iload1 dL_act_338 ?_
    refine GW.bipush (v := 7) dL_act_339 (by decide) ?_
    refine GW.ishr dL_act_341 ?_
    refine GW.iconst (v := 3) dL_act_342 (by decide) ?_
    refine GW.callSh cs_L_41 mt_L_below (c_Lbelow (n := 3) (by decide) (by decide)) dL_act_343 rfl rfl (by first | (dsimp only [mL_act, gM.dp, gM.kc, gM.ks]; omega) | exact Nat.le_of_ble_eq_true rfl | exact Nat.le_refl _ | omega) (by decide) (by first | omega | (dsimp only [mL_act, gM.dp, gM.kc, gM.ks]; omega)) (by first | omega | (dsimp only [mL_act, gM.dp, gM.kc, gM.ks]; omega)) (by first | exact Nat.le_of_ble_eq_true rfl | (simp [va_rf_cat]; done) | (simp [va_rf_cat, Value.category]; done)) (fun _ _ h => h.elim) (fun v343 G343 hq => ?_)
    obtain ⟨z, rfl, rfl, b, hb3, rfl⟩ := hq
    have hA := hI.1 a (by omega)
    have hB := hI.1 b (by omega)
    have hA5 := hA.2.1
    have hB5 := hB.2.1
    refine GW.istore10 dL_act_346 (g := ?_)
    refine GW.aload0 dL_act_348 (g := ?_)
    refine GW.iload9 dL_act_349 ?_
    refine GW.iload10 dL_act_351 ?_
    refine GW.callVh cv_L_89 mt_X10_diff (c_diff (G := (im, ad, mc)) (i := a) (j := b) hS (by omega) (by omega) hA hB) dL_act_353 (by first | assumption | exact isV.gl (by assumption) | exact wkAt.gl (by assumption) | exact tbAt.gl (by assumption)) rfl rfl rfl rfl (by first | (dsimp only [mL_act, gM.dp, gM.kc, gM.ks]; omega) | exact Nat.le_of_ble_eq_true rfl | exact Nat.le_refl _ | omega) (by decide) (by first | omega | (dsimp only [mL_act, gM.dp, gM.kc, gM.ks]; omega)) (by first | omega | (dsimp only [mL_act, gM.dp, gM.kc, gM.ks]; omega)) (by first | exact Nat.le_of_ble_eq_true rfl | (simp [va_rf_cat]; done) | (simp [va_rf_cat, Value.category]; done)) (fun E G' hx => by obtain ⟨rfl, im1, mc1, -, rfl, hS1⟩ := hx; exact ⟨510, catS cov353, fun q => hn510 q hS1 (by omega) (by omega)⟩) (fun v353 G353 hq => ?_)
    obtain ⟨rfl, hl8, h20, im1, mc1, hle1, rfl, hS1⟩ := hq
    have hS1 : St im1 ad mc1 ds cl at_ ss (ps ++ [Wr 7 [] (ds a) (ds b)]) qs := hS1
    obtain ⟨_, l1⟩ := hS1.g0
    have hW := okP_diff (t := ds a) hB h20
    have hi2 : (ps ++ [Wr 7 [] (ds a) (ds b)])[ps.length]? = some (Wr 7 [] (ds a) (ds b)) := by simp
    have hWs := hW.2.1
    refine GW.istore11 dL_act_356 (g := ?_)
    refine GW.aload0 dL_act_358 (g := ?_)
    refine GW.iload11 dL_act_359 ?_
    refine GW.iload9 dL_act_361 ?_
    refine GW.callVh cv_L_92 mt_X10_failsAt (c_failsAt (G := (im1, ad, mc1)) (i := ps.length) (d := a) (S := 100) hS1 hi2 (by omega) (fun o ho => (hW.1 o ho).1) (by omega) (by decide)) dL_act_363 (by first | assumption | exact isV.gl (by assumption) | exact wkAt.gl (by assumption) | exact tbAt.gl (by assumption)) rfl rfl rfl rfl (by first | (dsimp only [mL_act, gM.dp, gM.kc, gM.ks]; omega) | exact Nat.le_of_ble_eq_true rfl | exact Nat.le_refl _ | omega) (by decide) (by first | omega | (dsimp only [mL_act, gM.dp, gM.kc, gM.ks]; omega)) (by first | omega | (dsimp only [mL_act, gM.dp, gM.kc, gM.ks]; omega)) (by first | exact Nat.le_of_ble_eq_true rfl | (simp [va_rf_cat]; done) | (simp [va_rf_cat, Value.category]; done)) (fun _ _ h => h.elim) (fun v363 G363 hq => ?_)
    obtain ⟨im2, mc2, rfl, hle2, rfl, hS2⟩ := hq
    obtain ⟨_, l2⟩ := St.g0 (hS2 : St im2 ad mc2 ds cl at_ ss (ps ++ [Wr 7 [] (ds a) (ds b)]) qs)
    rw [diff_try hA.1 hB.1 hA.2.2 (by omega) hB.2.1 hB.2.2]
    refine GW.iconst (v := -1) dL_act_366 (by decide) ?_
    refine GW.icmp_ne (tgt := 391) dL_act_367 (by decide) (fun h367 => ?_) (fun h367 => ?_)
    · exact absurd rfl h367
    refine GW.aload0 dL_act_370 (g := ?_)
    refine GW.iload11 dL_act_371 ?_
    refine GW.callVh cv_L_95 mt_X10_operations (c_operations (G := (im2, ad, mc2)) (i := ps.length) hS2 hi2) dL_act_373 (by first | assumption | exact isV.gl (by assumption) | exact wkAt.gl (by assumption) | exact tbAt.gl (by assumption)) rfl rfl rfl rfl (by first | (dsimp only [mL_act, gM.dp, gM.kc, gM.ks]; omega) | exact Nat.le_of_ble_eq_true rfl | exact Nat.le_refl _ | omega) (by decide) (by first | omega | (dsimp only [mL_act, gM.dp, gM.kc, gM.ks]; omega)) (by first | omega | (dsimp only [mL_act, gM.dp, gM.kc, gM.ks]; omega)) (by first | exact Nat.le_of_ble_eq_true rfl | (simp [va_rf_cat]; done) | (simp [va_rf_cat, Value.category]; done)) (fun _ _ h => h.elim) (fun v373 G373 hq => ?_)
    obtain ⟨z, rfl, rfl, rfl⟩ := hq
    refine GW.aload0 dL_act_376 (g := ?_)
    refine GW.iload9 dL_act_377 ?_
    refine GW.iload10 dL_act_379 ?_
    refine GW.callVh cv_L_98 mt_X10_changes (c_changes (G := (im2, ad, mc2)) (i := a) (j := b) hS2 (by omega) (by omega) hA hB) dL_act_381 (by first | assumption | exact isV.gl (by assumption) | exact wkAt.gl (by assumption) | exact tbAt.gl (by assumption)) rfl rfl rfl rfl (by first | (dsimp only [mL_act, gM.dp, gM.kc, gM.ks]; omega) | exact Nat.le_of_ble_eq_true rfl | exact Nat.le_refl _ | omega) (by decide) (by first | omega | (dsimp only [mL_act, gM.dp, gM.kc, gM.ks]; omega)) (by first | omega | (dsimp only [mL_act, gM.dp, gM.kc, gM.ks]; omega)) (by first | exact Nat.le_of_ble_eq_true rfl | (simp [va_rf_cat]; done) | (simp [va_rf_cat, Value.category]; done)) (fun _ _ h => h.elim) (fun v381 G381 hq => ?_)
    obtain ⟨rfl, im3, mc3, hle3, rfl, hS3⟩ := hq
    refine GW.icmp_ne (tgt := 391) dL_act_384 (by decide) (fun h384 => ?_) (fun h384 => ?_)
    · exact absurd rfl h384
    refine GW.iconst (v := 1) dL_act_387 (by decide) ?_
    refine GW.goto (tgt := 392) dL_act_388 (by decide) ?_
    refine GW.ireturn dL_act_392 (Or.inr ⟨rfl, by first | exact Or.inl rfl | exact Or.inr rfl | assumption⟩) (by first | (dsimp only [mL_act, gM.dp, gM.kc, gM.ks]; omega) | exact Nat.le_of_ble_eq_true rfl | exact Nat.le_refl _ | omega) (by first | (dsimp only [mL_act, gM.dp, gM.kc, gM.ks]; omega) | exact Nat.le_of_ble_eq_true rfl | exact Nat.le_refl _ | omega) ?_
    refine fin hS3 ⟨hI.1, hI.2.1, hI.2.2.1, fun os ho => ?_⟩ hok
    rcases List.mem_append.mp ho with h | h
    · exact hI.2.2.2 os h
    · rw [List.mem_singleton.mp h]; exact hW
  have k393 : GW (mL_act 66 1600 35000) Q noX (im, ad, mc) 0 0 393 [some (.ref (ad 0)), some (.int x), some (.int (nI at_)), some (.int (nI (szT (ds at_)))), none, none, none, none, none, none, none, none] [] := by
    refine GW.aload0 dL_act_393 (g := ?_)
    refine GW.callVh cv_L_101 mt_X10_patches (c_patches (G := (im, ad, mc)) hS) dL_act_394 (by first | assumption | exact isV.gl (by assumption) | exact wkAt.gl (by assumption) | exact tbAt.gl (by assumption)) rfl rfl rfl rfl (by first | (dsimp only [mL_act, gM.dp, gM.kc, gM.ks]; omega) | exact Nat.le_of_ble_eq_true rfl | exact Nat.le_refl _ | omega) (by decide) (by first | omega | (dsimp only [mL_act, gM.dp, gM.kc, gM.ks]; omega)) (by first | omega | (dsimp only [mL_act, gM.dp, gM.kc, gM.ks]; omega)) (by first | exact Nat.le_of_ble_eq_true rfl | (simp [va_rf_cat]; done) | (simp [va_rf_cat, Value.category]; done)) (fun _ _ h => h.elim) (fun v394 G394 hq => ?_)
    obtain ⟨z, rfl, rfl, rfl⟩ := hq
    refine GW.if_eq (tgt := 490) dL_act_397 (by decide) (fun h397 => ?_) (fun h397 => ?_)
    · exact ret1 (fin hS hI hok) (by omega) (by omega)
    have h0 : 0 < ps.length := Nat.pos_of_ne_zero (fun h => h397 (by rw [h]; rfl))
    refine GW.aload0 dL_act_400 (g := ?_)
    refine GW.callVh cv_L_101 mt_X10_patches (c_patches (G := (im, ad, mc)) hS) dL_act_401 (by first | assumption | exact isV.gl (by assumption) | exact wkAt.gl (by assumption) | exact tbAt.gl (by assumption)) rfl rfl rfl rfl (by first | (dsimp only [mL_act, gM.dp, gM.kc, gM.ks]; omega) | exact Nat.le_of_ble_eq_true rfl | exact Nat.le_refl _ | omega) (by decide) (by first | omega | (dsimp only [mL_act, gM.dp, gM.kc, gM.ks]; omega)) (by first | omega | (dsimp only [mL_act, gM.dp, gM.kc, gM.ks]; omega)) (by first | exact Nat.le_of_ble_eq_true rfl | (simp [va_rf_cat]; done) | (simp [va_rf_cat, Value.category]; done)) (fun _ _ h => h.elim) (fun v401 G401 hq => ?_)
    obtain ⟨z, rfl, rfl, rfl⟩ := hq
    refine GW.bipush (v := 8) dL_act_404 (by decide) ?_
    refine GW.icmp_ne (tgt := 412) dL_act_406 (by decide) (fun h406 => ?_) (fun h406 => ?_)
    rotate_left
    · refine GW.goto (tgt := 490) dL_act_409 (by decide) ?_
      exact ret1 (fin hS hI hok) (by omega) (by omega)
    refine GW.aload0 dL_act_412 (g := ?_)
    refine GW.iload1 dL_act_413 ?_
    refine GW.iconst (v := 5) dL_act_414 (by decide) ?_
    refine GW.ishr dL_act_415 ?_
    refine GW.aload0 dL_act_416 (g := ?_)
    refine GW.callVh cv_L_101 mt_X10_patches (c_patches (G := (im, ad, mc)) hS) dL_act_417 (by first | assumption | exact isV.gl (by assumption) | exact wkAt.gl (by assumption) | exact tbAt.gl (by assumption)) rfl rfl rfl rfl (by first | (dsimp only [mL_act, gM.dp, gM.kc, gM.ks]; omega) | exact Nat.le_of_ble_eq_true rfl | exact Nat.le_refl _ | omega) (by decide) (by first | omega | (dsimp only [mL_act, gM.dp, gM.kc, gM.ks]; omega)) (by first | omega | (dsimp only [mL_act, gM.dp, gM.kc, gM.ks]; omega)) (by first | exact Nat.le_of_ble_eq_true rfl | (simp [va_rf_cat]; done) | (simp [va_rf_cat, Value.category]; done)) (fun _ _ h => h.elim) (fun v417 G417 hq => ?_)
    obtain ⟨z, rfl, rfl, rfl⟩ := hq
    refine GW.callSh cs_L_41 mt_L_below (c_Lbelow (n := ps.length) h0 (by omega)) dL_act_420 rfl rfl (by first | (dsimp only [mL_act, gM.dp, gM.kc, gM.ks]; omega) | exact Nat.le_of_ble_eq_true rfl | exact Nat.le_refl _ | omega) (by decide) (by first | omega | (dsimp only [mL_act, gM.dp, gM.kc, gM.ks]; omega)) (by first | omega | (dsimp only [mL_act, gM.dp, gM.kc, gM.ks]; omega)) (by first | exact Nat.le_of_ble_eq_true rfl | (simp [va_rf_cat]; done) | (simp [va_rf_cat, Value.category]; done)) (fun _ _ h => h.elim) (fun v420 G420 hq => ?_)
    obtain ⟨z, rfl, rfl, i, hi, rfl⟩ := hq
    refine GW.iload1 dL_act_423 ?_
    refine GW.bipush (v := 7) dL_act_424 (by decide) ?_
    refine GW.ishr dL_act_426 ?_
    refine GW.iconst (v := 3) dL_act_427 (by decide) ?_
    refine GW.callSh cs_L_41 mt_L_below (c_Lbelow (n := 3) (by decide) (by decide)) dL_act_428 rfl rfl (by first | (dsimp only [mL_act, gM.dp, gM.kc, gM.ks]; omega) | exact Nat.le_of_ble_eq_true rfl | exact Nat.le_refl _ | omega) (by decide) (by first | omega | (dsimp only [mL_act, gM.dp, gM.kc, gM.ks]; omega)) (by first | omega | (dsimp only [mL_act, gM.dp, gM.kc, gM.ks]; omega)) (by first | exact Nat.le_of_ble_eq_true rfl | (simp [va_rf_cat]; done) | (simp [va_rf_cat, Value.category]; done)) (fun _ _ h => h.elim) (fun v428 G428 hq => ?_)
    obtain ⟨z, rfl, rfl, d, hd, rfl⟩ := hq
    refine GW.callSh cs_L_104 mt_L_isTurnedBack (c_turned (G := (im, ad, mc)) (i := i) (d := d) hS hI (List.getElem?_eq_getElem hi) (by omega)) dL_act_431 rfl rfl (by first | (dsimp only [mL_act, gM.dp, gM.kc, gM.ks]; omega) | exact Nat.le_of_ble_eq_true rfl | exact Nat.le_refl _ | omega) (by decide) (by first | omega | (dsimp only [mL_act, gM.dp, gM.kc, gM.ks]; omega)) (by first | omega | (dsimp only [mL_act, gM.dp, gM.kc, gM.ks]; omega)) (by first | exact Nat.le_of_ble_eq_true rfl | (simp [va_rf_cat]; done) | (simp [va_rf_cat, Value.category]; done)) (fun _ _ h => h.elim) (fun v431 G431 hq => ?_)
    obtain ⟨rfl, im1, mc1, ds1, ss1, rfl, hI1, hS1⟩ := hq
    refine GW.ireturn dL_act_434 (Or.inr ⟨rfl, by first | exact Or.inl rfl | exact Or.inr rfl | assumption⟩) (by first | (dsimp only [mL_act, gM.dp, gM.kc, gM.ks]; omega) | exact Nat.le_of_ble_eq_true rfl | exact Nat.le_refl _ | omega) (by first | (dsimp only [mL_act, gM.dp, gM.kc, gM.ks]; omega) | exact Nat.le_of_ble_eq_true rfl | exact Nat.le_refl _ | omega) ?_
    exact fin hS1 hI1 hok
  have k435 : GW (mL_act 66 1600 35000) Q noX (im, ad, mc) 0 0 435 [some (.ref (ad 0)), some (.int x), some (.int (nI at_)), some (.int (nI (szT (ds at_)))), none, none, none, none, none, none, none, none] [] := by
    refine GW.aload0 dL_act_435 (g := ?_)
    refine GW.callVh cv_L_108 mt_X10_forget (c_forget (G := (im, ad, mc)) hS) dL_act_436 (by first | assumption | exact isV.gl (by assumption) | exact wkAt.gl (by assumption) | exact tbAt.gl (by assumption)) rfl rfl rfl rfl (by first | (dsimp only [mL_act, gM.dp, gM.kc, gM.ks]; omega) | exact Nat.le_of_ble_eq_true rfl | exact Nat.le_refl _ | omega) (by decide) (by first | omega | (dsimp only [mL_act, gM.dp, gM.kc, gM.ks]; omega)) (by first | omega | (dsimp only [mL_act, gM.dp, gM.kc, gM.ks]; omega)) (by first | exact Nat.le_of_ble_eq_true rfl | (simp [va_rf_cat]; done) | (simp [va_rf_cat, Value.category]; done)) (fun E G' hx => by obtain ⟨-, rfl, rfl⟩ := hx; exact ⟨510, catS cov436, fun q => hn510 q hS (by omega) (by omega)⟩) (fun v436 G436 hq => ?_)
    obtain ⟨⟨w, rfl⟩, -, mc1, rfl, hS1⟩ := hq
    refine GW.pop dL_act_439 (hv := by first | rfl | exact va_rf_cat _) (g := ?_)
    refine GW.goto (tgt := 490) dL_act_440 (by decide) ?_
    exact ret1 (fin hS1 ⟨hI.1, hI.2.1, hI.2.2.1, fun os ho => hI.2.2.2 os (List.mem_of_mem_take ho)⟩ hok) (by omega) (by omega)
  have k443 : GW (mL_act 66 1600 35000) Q noX (im, ad, mc) 0 0 443 [some (.ref (ad 0)), some (.int x), some (.int (nI at_)), some (.int (nI (szT (ds at_)))), none, none, none, none, none, none, none, none] [] := by
    refine GW.iload1 dL_act_443 ?_
    refine GW.iconst (v := 5) dL_act_444 (by decide) ?_
    refine GW.ishr dL_act_445 ?_
    refine GW.iconst (v := 2) dL_act_446 (by decide) ?_
    refine GW.callSh cs_L_41 mt_L_below (c_Lbelow (n := 2) (by decide) (by decide)) dL_act_447 rfl rfl (by first | (dsimp only [mL_act, gM.dp, gM.kc, gM.ks]; omega) | exact Nat.le_of_ble_eq_true rfl | exact Nat.le_refl _ | omega) (by decide) (by first | omega | (dsimp only [mL_act, gM.dp, gM.kc, gM.ks]; omega)) (by first | omega | (dsimp only [mL_act, gM.dp, gM.kc, gM.ks]; omega)) (by first | exact Nat.le_of_ble_eq_true rfl | (simp [va_rf_cat]; done) | (simp [va_rf_cat, Value.category]; done)) (fun _ _ h => h.elim) (fun v447 G447 hq => ?_)
    obtain ⟨z, rfl, rfl, c, hc, rfl⟩ := hq
    refine GW.if_ne (tgt := 476) dL_act_450 (by decide) (fun h450 => ?_) (fun h450 => ?_)
    · refine GW.aload0 dL_act_476 (g := ?_)
      refine GW.iconst (v := 0) dL_act_477 (by decide) ?_
      refine GW.iload1 dL_act_478 ?_
      refine GW.bipush (v := 6) dL_act_479 (by decide) ?_
      refine GW.ishr dL_act_481 ?_
      refine GW.iconst (v := 3) dL_act_482 (by decide) ?_
      refine GW.callSh cs_L_41 mt_L_below (c_Lbelow (n := 3) (by decide) (by decide)) dL_act_483 rfl rfl (by first | (dsimp only [mL_act, gM.dp, gM.kc, gM.ks]; omega) | exact Nat.le_of_ble_eq_true rfl | exact Nat.le_refl _ | omega) (by decide) (by first | omega | (dsimp only [mL_act, gM.dp, gM.kc, gM.ks]; omega)) (by first | omega | (dsimp only [mL_act, gM.dp, gM.kc, gM.ks]; omega)) (by first | exact Nat.le_of_ble_eq_true rfl | (simp [va_rf_cat]; done) | (simp [va_rf_cat, Value.category]; done)) (fun _ _ h => h.elim) (fun v483 G483 hq => ?_)
      obtain ⟨z, rfl, rfl, d, hd, rfl⟩ := hq
      refine GW.callVh cv_L_118 mt_X10_dropFound (c_dropFound (G := (im, ad, mc)) (d := d) hS hok (by omega) (hI.1 d (by omega))) dL_act_486 (by first | assumption | exact isV.gl (by assumption) | exact wkAt.gl (by assumption) | exact tbAt.gl (by assumption)) rfl rfl rfl rfl (by first | (dsimp only [mL_act, gM.dp, gM.kc, gM.ks]; omega) | exact Nat.le_of_ble_eq_true rfl | exact Nat.le_refl _ | omega) (by decide) (by first | omega | (dsimp only [mL_act, gM.dp, gM.kc, gM.ks]; omega)) (by first | omega | (dsimp only [mL_act, gM.dp, gM.kc, gM.ks]; omega)) (by first | exact Nat.le_of_ble_eq_true rfl | (simp [va_rf_cat]; done) | (simp [va_rf_cat, Value.category]; done)) (fun E G' hx => by obtain ⟨rfl, rfl⟩ := hx; exact ⟨493, catI cov486, fun q => hn493 q hS (by omega) (by omega)⟩) (fun v486 G486 hq => ?_)
      obtain ⟨⟨w, rfl⟩, im1, mc1, u, hle1, rfl, hu, hS1⟩ := hq
      refine GW.pop dL_act_489 (hv := by first | rfl | exact va_rf_cat _) (g := ?_)
      exact ret1 (fin hS1 (hI.upd hu) hok) (by omega) (by omega)
    · refine GW.aload0 dL_act_453 (g := ?_)
      refine GW.aload0 dL_act_454 (g := ?_)
      refine GW.callVh cv_L_111 mt_X10_addQuery (c_addQuery (G := (im, ad, mc)) hS) dL_act_455 (by first | assumption | exact isV.gl (by assumption) | exact wkAt.gl (by assumption) | exact tbAt.gl (by assumption)) rfl rfl rfl rfl (by first | (dsimp only [mL_act, gM.dp, gM.kc, gM.ks]; omega) | exact Nat.le_of_ble_eq_true rfl | exact Nat.le_refl _ | omega) (by decide) (by first | omega | (dsimp only [mL_act, gM.dp, gM.kc, gM.ks]; omega)) (by first | omega | (dsimp only [mL_act, gM.dp, gM.kc, gM.ks]; omega)) (by first | exact Nat.le_of_ble_eq_true rfl | (simp [va_rf_cat]; done) | (simp [va_rf_cat, Value.category]; done)) (fun E G' hx => by obtain ⟨rfl, rfl⟩ := hx; exact ⟨510, catS cov455, fun q => hn510 q hS (by omega) (by omega)⟩) (fun v455 G455 hq => ?_)
      obtain ⟨rfl, hq6, mc1, rfl, hS1⟩ := hq
      have hS1 : St im ad mc1 ds cl at_ ss ps (qs ++ [[]]) := hS1
      obtain ⟨_, l1⟩ := hS1.g0
      refine GW.iconst (v := 1) dL_act_458 (by decide) ?_
      refine GW.iload1 dL_act_459 ?_
      refine GW.bipush (v := 6) dL_act_460 (by decide) ?_
      refine GW.ishr dL_act_462 ?_
      refine GW.iconst (v := 3) dL_act_463 (by decide) ?_
      refine GW.callSh cs_L_41 mt_L_below (c_Lbelow (n := 3) (by decide) (by decide)) dL_act_464 rfl rfl (by first | (dsimp only [mL_act, gM.dp, gM.kc, gM.ks]; omega) | exact Nat.le_of_ble_eq_true rfl | exact Nat.le_refl _ | omega) (by decide) (by first | omega | (dsimp only [mL_act, gM.dp, gM.kc, gM.ks]; omega)) (by first | omega | (dsimp only [mL_act, gM.dp, gM.kc, gM.ks]; omega)) (by first | exact Nat.le_of_ble_eq_true rfl | (simp [va_rf_cat]; done) | (simp [va_rf_cat, Value.category]; done)) (fun _ _ h => h.elim) (fun v464 G464 hq => ?_)
      obtain ⟨z, rfl, rfl, c3, hc3, rfl⟩ := hq
      have hp : (1 : Int32) + nI c3 = 1 ∨ (1 : Int32) + nI c3 = 2 ∨ (1 : Int32) + nI c3 = 3 := by
        have : c3 = 0 ∨ c3 = 1 ∨ c3 = 2 := by omega
        rcases this with rfl | rfl | rfl <;> decide
      refine GW.iadd dL_act_467 ?_
      refine GW.iconst (v := 0) dL_act_468 (by decide) ?_
      refine GW.callVh cv_L_114 mt_X10_addPart (c_addPart (G := (im, ad, mc1)) (i := qs.length) (p := 1 + nI c3) hS1 (by simp) hp) dL_act_469 (by first | assumption | exact isV.gl (by assumption) | exact wkAt.gl (by assumption) | exact tbAt.gl (by assumption)) rfl rfl rfl rfl (by first | (dsimp only [mL_act, gM.dp, gM.kc, gM.ks]; omega) | exact Nat.le_of_ble_eq_true rfl | exact Nat.le_refl _ | omega) (by decide) (by first | omega | (dsimp only [mL_act, gM.dp, gM.kc, gM.ks]; omega)) (by first | omega | (dsimp only [mL_act, gM.dp, gM.kc, gM.ks]; omega)) (by first | exact Nat.le_of_ble_eq_true rfl | (simp [va_rf_cat]; done) | (simp [va_rf_cat, Value.category]; done)) (fun _ _ h => h.elim) (fun v469 G469 hq => ?_)
      obtain ⟨⟨w, rfl⟩, mc2, rfl, hS2⟩ := hq
      refine GW.pop dL_act_472 (hv := by first | rfl | exact va_rf_cat _) (g := ?_)
      refine GW.goto (tgt := 490) dL_act_473 (by decide) ?_
      exact ret1 (fin hS2 hI (okQ_new hok hp)) (by omega) (by omega)
  refine GW.aload0 dL_act_0 (g := ?_)
  refine GW.callVh cv_L_33 mt_X10_document (c_document (G := (im, ad, mc)) hS) dL_act_1 (by first | assumption | exact isV.gl (by assumption) | exact wkAt.gl (by assumption) | exact tbAt.gl (by assumption)) rfl rfl rfl rfl (by first | (dsimp only [mL_act, gM.dp, gM.kc, gM.ks]; omega) | exact Nat.le_of_ble_eq_true rfl | exact Nat.le_refl _ | omega) (by decide) (by first | omega | (dsimp only [mL_act, gM.dp, gM.kc, gM.ks]; omega)) (by first | omega | (dsimp only [mL_act, gM.dp, gM.kc, gM.ks]; omega)) (by first | exact Nat.le_of_ble_eq_true rfl | (simp [va_rf_cat]; done) | (simp [va_rf_cat, Value.category]; done)) (fun _ _ h => h.elim) (fun v1 G1 hq => ?_)
  obtain ⟨z, rfl, rfl, rfl⟩ := hq
  refine GW.istore2 dL_act_4 (g := ?_)
  refine GW.aload0 dL_act_5 (g := ?_)
  refine GW.iload2 dL_act_6 ?_
  refine GW.callVh cv_L_37 mt_X10_size (c_size (G := (im, ad, mc)) (i := at_) hS ha) dL_act_7 (by first | assumption | exact isV.gl (by assumption) | exact wkAt.gl (by assumption) | exact tbAt.gl (by assumption)) rfl rfl rfl rfl (by first | (dsimp only [mL_act, gM.dp, gM.kc, gM.ks]; omega) | exact Nat.le_of_ble_eq_true rfl | exact Nat.le_refl _ | omega) (by decide) (by first | omega | (dsimp only [mL_act, gM.dp, gM.kc, gM.ks]; omega)) (by first | omega | (dsimp only [mL_act, gM.dp, gM.kc, gM.ks]; omega)) (by first | exact Nat.le_of_ble_eq_true rfl | (simp [va_rf_cat]; done) | (simp [va_rf_cat, Value.category]; done)) (fun _ _ h => h.elim) (fun v7 G7 hq => ?_)
  obtain ⟨z, rfl, rfl, rfl⟩ := hq
  refine GW.istore3 dL_act_10 (g := ?_)
  refine GW.iload1 dL_act_11 ?_
  refine GW.bipush (v := 18) dL_act_12 (by decide) ?_
  refine GW.callSh cs_L_41 mt_L_below (c_Lbelow (n := 18) (by decide) (by decide)) dL_act_14 rfl rfl (by first | (dsimp only [mL_act, gM.dp, gM.kc, gM.ks]; omega) | exact Nat.le_of_ble_eq_true rfl | exact Nat.le_refl _ | omega) (by decide) (by first | omega | (dsimp only [mL_act, gM.dp, gM.kc, gM.ks]; omega)) (by first | omega | (dsimp only [mL_act, gM.dp, gM.kc, gM.ks]; omega)) (by first | exact Nat.le_of_ble_eq_true rfl | (simp [va_rf_cat]; done) | (simp [va_rf_cat, Value.category]; done)) (fun _ _ h => h.elim) (fun v14 G14 hq => ?_)
  obtain ⟨z, rfl, rfl, j, hj, rfl⟩ := hq
  rcases j18 hj with rfl | (rfl | rfl | rfl | rfl) | rfl | (rfl | rfl | rfl) | rfl | (rfl | rfl | rfl) | rfl | rfl | rfl | rfl | rfl
  · exact GW.tableIn dL_act_17 (by decide) (by decide) (off := 83) (by decide +kernel) (tgt := 100) (by decide) k100
  · exact GW.tableIn dL_act_17 (by decide) (by decide) (off := 98) (by decide +kernel) (tgt := 115) (by decide) k115
  · exact GW.tableIn dL_act_17 (by decide) (by decide) (off := 98) (by decide +kernel) (tgt := 115) (by decide) k115
  · exact GW.tableIn dL_act_17 (by decide) (by decide) (off := 98) (by decide +kernel) (tgt := 115) (by decide) k115
  · exact GW.tableIn dL_act_17 (by decide) (by decide) (off := 98) (by decide +kernel) (tgt := 115) (by decide) k115
  · exact GW.tableIn dL_act_17 (by decide) (by decide) (off := 169) (by decide +kernel) (tgt := 186) (by decide) k186
  · exact GW.tableIn dL_act_17 (by decide) (by decide) (off := 177) (by decide +kernel) (tgt := 194) (by decide) k194
  · exact GW.tableIn dL_act_17 (by decide) (by decide) (off := 177) (by decide +kernel) (tgt := 194) (by decide) k194
  · exact GW.tableIn dL_act_17 (by decide) (by decide) (off := 177) (by decide +kernel) (tgt := 194) (by decide) k194
  · exact GW.tableIn dL_act_17 (by decide) (by decide) (off := 218) (by decide +kernel) (tgt := 235) (by decide) k235
  · exact GW.tableIn dL_act_17 (by decide) (by decide) (off := 226) (by decide +kernel) (tgt := 243) (by decide) k243
  · exact GW.tableIn dL_act_17 (by decide) (by decide) (off := 226) (by decide +kernel) (tgt := 243) (by decide) k243
  · exact GW.tableIn dL_act_17 (by decide) (by decide) (off := 226) (by decide +kernel) (tgt := 243) (by decide) k243
  · exact GW.tableIn dL_act_17 (by decide) (by decide) (off := 290) (by decide +kernel) (tgt := 307) (by decide) k307
  · exact GW.tableIn dL_act_17 (by decide) (by decide) (off := 312) (by decide +kernel) (tgt := 329) (by decide) k329
  · exact GW.tableIn dL_act_17 (by decide) (by decide) (off := 376) (by decide +kernel) (tgt := 393) (by decide) k393
  · exact GW.tableIn dL_act_17 (by decide) (by decide) (off := 418) (by decide +kernel) (tgt := 435) (by decide) k435
  · exact GW.tableOut dL_act_17 (by decide) (tgt := 443) (by decide) k443
end LAWA
