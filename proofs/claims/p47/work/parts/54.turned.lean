/-! THE LAW'S METHODS: below, isTurnedBack -/
theorem and31 (x : Int32) : ∃ m : Nat, m < 2 ^ 31 ∧ x &&& 2147483647 = nI m := by
  refine ⟨(x &&& 2147483647).toBitVec.toNat, ?_, ?_⟩
  · rw [Int32.toBitVec_and, BitVec.toNat_and]
    exact Nat.lt_of_le_of_lt Nat.and_le_right (by decide)
  · apply Int32.toBitVec_inj.mp
    unfold nI
    rw [show ∀ n : Nat, (Int32.ofNat n).toBitVec = BitVec.ofNat 32 n from fun _ => rfl, BitVec.ofNat_toNat]
    simp
abbrev mL_below (d kc ks : Nat) : gM := (RL, cL_below, 2, (some .int), [], "below", d, kc, ks)
abbrev kL_below (d kc ks : Nat) (as : List Value) (G : gG) (Q : Option Value → gG → Prop) (X : String → gG → Prop) : Prop := Ctr yL_below cL_below 2 (some .int) d kc ks as G Q X
theorem oL_below {d kc ks : Nat} {as : List Value} {G : gG} {Q : Option Value → gG → Prop} {X : String → gG → Prop} {L : List (Option Value)} (hL : gEnt as = L) (hlen : (lg_sl as).length ≤ 2) (g : GW (mL_below d kc ks) Q X G 0 0 0 L []) : kL_below d kc ks as G Q X := Ctr.of (by decide +kernel) rfl rfl hL hlen g
theorem c_Lbelow {G : gG} {x : Int32} {n : Nat} (h0 : 0 < n) (hn : n < 2 ^ 31) : kL_below 0 0 0 [.int x, .int (nI n)] G (ans G (fun w => ∃ j, j < n ∧ w = .int (nI j))) noX := by
  obtain ⟨m, hm, e⟩ := and31 x
  refine oL_below (L := [some (.int x), some (.int (nI n)), none, none, none, none, none, none, none, none, none, none]) rfl (Nat.le_of_ble_eq_true rfl) ?_
  refine GW.iload0 dL_below_0 ?_
  refine GW.ldc kc_L_7 dL_below_1 ?_
  refine GW.iand dL_below_3 ?_
  refine GW.iload1 dL_below_4 ?_
  refine GW.irem dL_below_5 (nI_ne0 h0 hn) ?_
  refine GW.ireturn dL_below_6 (Or.inl rfl) (by first | (dsimp only [mL_below, gM.dp, gM.kc, gM.ks]; omega) | exact Nat.le_of_ble_eq_true rfl | exact Nat.le_refl _ | omega) (by first | (dsimp only [mL_below, gM.dp, gM.kc, gM.ks]; omega) | exact Nat.le_of_ble_eq_true rfl | exact Nat.le_refl _ | omega) ?_
  exact ⟨_, rfl, rfl, _, Nat.mod_lt m h0, by rw [e, pk_rem hm h0 hn]⟩
theorem cmp_same (x : Int64) : lg_cmp x x = 0 := by
  simp [lg_cmp]
theorem St.g0 {im : gIm} {ad : Nat → Nat} {mc : Nat → Option gC} {ds : Nat → Tr} {cl : Tr} {at_ : Nat} {ss : List Int32} {ps : List (List OpT)} {qs : List (List (Int32 × Int32))} (h : St im ad mc ds cl at_ ss ps qs) : ∃ fs, gL (im, ad, mc) (ad 0) (.inl (10, fs)) := by
  obtain ⟨⟨⟨cla, a1, a2⟩, -⟩, -⟩ := h
  exact ⟨_, Or.inr ⟨0, rfl, a1⟩⟩
theorem St.l8 {im : gIm} {ad : Nat → Nat} {mc : Nat → Option gC} {ds : Nat → Tr} {cl : Tr} {at_ : Nat} {ss : List Int32} {ps : List (List OpT)} {qs : List (List (Int32 × Int32))} (h : St im ad mc ds cl at_ ss ps qs) : ps.length ≤ 8 := h.2.1.2.1
theorem updD_same (ds : Nat → Tr) (d : Nat) (t : Tr) : updD ds d t d = t := if_pos rfl
theorem updD_ne {ds : Nat → Tr} {d i : Nat} {t : Tr} (h : i ≠ d) : updD ds d t i = ds i := if_neg h
/-- a PATCH is put into a document: what is right stays right -/
theorem Inv.upd {ds : Nat → Tr} {cl : Tr} {at_ d : Nat} {ss : List Int32} {ps : List (List OpT)} {u : Tr} (h : Inv ds cl at_ ss ps) (hu : okD u) : Inv (updD ds d u) cl at_ (if at_ = d then ss.take (stl u ss) else ss) ps := by
  obtain ⟨h1, h2, h3, h4⟩ := h
  refine ⟨fun i hi => ?_, h2, ?_, h4⟩
  · by_cases e : i = d
    · rw [e, updD_same]; exact hu
    · rw [updD_ne e]; exact h1 i hi
  · by_cases e : at_ = d
    · rw [if_pos e, e, updD_same]; exact stl_bel ss u
    · rw [if_neg e, updD_ne e]; exact h3
section LAWM
variable {G : gG} {ds : Nat → Tr} {cl : Tr} {at_ : Nat} {ss : List Int32} {ps : List (List OpT)} {qs : List (List (Int32 × Int32))}
abbrev mL_isTurnedBack (d kc ks : Nat) : gM := (RL, cL_isTurnedBack, 9, (some .boolean), [], "isTurnedBack", d, kc, ks)
abbrev kL_isTurnedBack (d kc ks : Nat) (as : List Value) (G : gG) (Q : Option Value → gG → Prop) (X : String → gG → Prop) : Prop := Ctr yL_isTurnedBack cL_isTurnedBack 9 (some .boolean) d kc ks as G Q X
theorem oL_isTurnedBack {d kc ks : Nat} {as : List Value} {G : gG} {Q : Option Value → gG → Prop} {X : String → gG → Prop} {L : List (Option Value)} (hL : gEnt as = L) (hlen : (lg_sl as).length ≤ 9) (g : GW (mL_isTurnedBack d kc ks) Q X G 0 0 0 L []) : kL_isTurnedBack d kc ks as G Q X := Ctr.of (by decide +kernel) rfl rfl hL hlen g
set_option maxHeartbeats 4000000 in
theorem c_turned {i d : Nat} {os : List OpT} (hS : St G.1 G.2.1 G.2.2 ds cl at_ ss ps qs) (hI : Inv ds cl at_ ss ps) (hi : ps[i]? = some os) (hd : d < 6) :
    kL_isTurnedBack 9 1560 34700 [.ref (G.2.1 0), .int (nI i), .int (nI d)] G (fun v G' => v = some (.int 1) ∧ ∃ im' mc' ds' ss', (im', G.2.1, mc') = G' ∧ Inv ds' cl at_ ss' ps ∧ St im' G.2.1 mc' ds' cl at_ ss' ps qs) noX := by
  obtain ⟨im, ad, mc⟩ := G
  have hS : St im ad mc ds cl at_ ss ps qs := hS
  obtain ⟨_, l0⟩ := hS.g0
  have h8 := hS.l8
  have hil : i < ps.length := (List.getElem?_eq_some_iff.mp hi).1
  have hP : okP os := hI.2.2.2 os (List.mem_of_getElem? hi)
  have hD : okD (ds d) := hI.1 d hd
  have hok : ∀ o ∈ os, opOk o := fun o ho => (hP.1 o ho).1
  have hsz : szT (ds d) + sumSz os ≤ 100 := by have := hD.2.1; have := hP.2.1; omega
  refine oL_isTurnedBack (L := [some (.ref (ad 0)), some (.int (nI i)), some (.int (nI d)), none, none, none, none, none, none, none, none, none]) rfl (Nat.le_of_ble_eq_true rfl) ?_
  generalize hQ : (fun (v : Option Value) (G' : gG) => v = some (Value.int 1) ∧ ∃ im' mc' ds' ss', (im', (im, ad, mc).2.1, mc') = G' ∧ Inv ds' cl at_ ss' ps ∧ St im' (im, ad, mc).2.1 mc' ds' cl at_ ss' ps qs) = Q
  have fin : ∀ im' mc' ds' ss', Inv ds' cl at_ ss' ps → St im' ad mc' ds' cl at_ ss' ps qs → Q (some (.int 1)) (im', ad, mc') := fun im' mc' ds' ss' h1 h2 => by subst hQ; exact ⟨rfl, im', mc', ds', ss', rfl, h1, h2⟩
  refine GW.aload0 dL_isTurnedBack_0 (g := ?_)
  refine GW.iload1 dL_isTurnedBack_1 ?_
  refine GW.iload2 dL_isTurnedBack_2 ?_
  refine GW.callV cv_L_92 mt_X10_failsAt (c_failsAt (G := (im, ad, mc)) (i := i) (d := d) (S := 100) hS hi hd hok hsz (by decide)) dL_isTurnedBack_3 (by first | assumption | exact isV.gl (by assumption) | exact wkAt.gl (by assumption) | exact tbAt.gl (by assumption)) rfl rfl rfl rfl (by first | (dsimp only [mL_isTurnedBack, gM.dp, gM.kc, gM.ks]; omega) | exact Nat.le_of_ble_eq_true rfl | exact Nat.le_refl _ | omega) (by decide) (by first | omega | (dsimp only [mL_isTurnedBack, gM.dp, gM.kc, gM.ks]; omega)) (by first | omega | (dsimp only [mL_isTurnedBack, gM.dp, gM.kc, gM.ks]; omega)) (by first | exact Nat.le_of_ble_eq_true rfl | (simp [va_rf_cat]; done) | (simp [va_rf_cat, Value.category]; done)) rfl (fun _ _ h => h.elim) (fun v3 G3 hq => ?_)
  obtain ⟨im1, mc1, rfl, hle1, rfl, hS1⟩ := hq
  obtain ⟨_, l1⟩ := hS1.g0
  refine GW.istore3 dL_isTurnedBack_6 (g := ?_)
  refine GW.aload0 dL_isTurnedBack_7 (g := ?_)
  refine GW.iload2 dL_isTurnedBack_8 ?_
  refine GW.callV0 cv_L_37 mt_X10_size (c_size (G := (im1, ad, mc1)) (i := d) hS1 hd) dL_isTurnedBack_9 (by first | assumption | exact isV.gl (by assumption) | exact wkAt.gl (by assumption) | exact tbAt.gl (by assumption)) rfl rfl rfl rfl (by first | (dsimp only [mL_isTurnedBack, gM.dp, gM.kc, gM.ks]; omega) | exact Nat.le_of_ble_eq_true rfl | exact Nat.le_refl _ | omega) (by decide) (by first | (dsimp only [mL_isTurnedBack, gM.dp, gM.kc, gM.ks]; omega) | exact Nat.le_of_ble_eq_true rfl | exact Nat.le_refl _ | omega) (by first | (dsimp only [mL_isTurnedBack, gM.dp, gM.kc, gM.ks]; omega) | exact Nat.le_of_ble_eq_true rfl | exact Nat.le_refl _ | omega) (by first | exact Nat.le_of_ble_eq_true rfl | (simp [va_rf_cat]; done) | (simp [va_rf_cat, Value.category]; done)) rfl (fun _ _ h => h.elim) (fun v9 G9 hq => ?_)
  obtain ⟨z, rfl, rfl, rfl⟩ := hq
  refine GW.i2l dL_isTurnedBack_12 ?_
  refine GW.lstore4 dL_isTurnedBack_13 (g := ?_)
  refine GW.aload0 dL_isTurnedBack_15 (g := ?_)
  refine GW.callV0 cv_L_101 mt_X10_patches (c_patches (G := (im1, ad, mc1)) hS1) dL_isTurnedBack_16 (by first | assumption | exact isV.gl (by assumption) | exact wkAt.gl (by assumption) | exact tbAt.gl (by assumption)) rfl rfl rfl rfl (by first | (dsimp only [mL_isTurnedBack, gM.dp, gM.kc, gM.ks]; omega) | exact Nat.le_of_ble_eq_true rfl | exact Nat.le_refl _ | omega) (by decide) (by first | (dsimp only [mL_isTurnedBack, gM.dp, gM.kc, gM.ks]; omega) | exact Nat.le_of_ble_eq_true rfl | exact Nat.le_refl _ | omega) (by first | (dsimp only [mL_isTurnedBack, gM.dp, gM.kc, gM.ks]; omega) | exact Nat.le_of_ble_eq_true rfl | exact Nat.le_refl _ | omega) (by first | exact Nat.le_of_ble_eq_true rfl | (simp [va_rf_cat]; done) | (simp [va_rf_cat, Value.category]; done)) rfl (fun _ _ h => h.elim) (fun v16 G16 hq => ?_)
  obtain ⟨z, rfl, rfl, rfl⟩ := hq
  refine GW.bipush (v := 6) dL_isTurnedBack_19 (by decide) ?_
  refine GW.icmp_le (tgt := 26) dL_isTurnedBack_21 (by decide) (fun h21 => ?_) (fun h21 => ?_)
  rotate_left
  · refine GW.iconst (v := 1) dL_isTurnedBack_24 (by decide) ?_
    refine GW.ireturn dL_isTurnedBack_25 (Or.inr ⟨rfl, by first | exact Or.inl rfl | exact Or.inr rfl | assumption⟩) (by first | (dsimp only [mL_isTurnedBack, gM.dp, gM.kc, gM.ks]; omega) | exact Nat.le_of_ble_eq_true rfl | exact Nat.le_refl _ | omega) (by first | (dsimp only [mL_isTurnedBack, gM.dp, gM.kc, gM.ks]; omega) | exact Nat.le_of_ble_eq_true rfl | exact Nat.le_refl _ | omega) ?_
    exact fin _ _ _ _ hI hS1
  have hl6 : ps.length ≤ 6 := (mI_le (a := ps.length) (b := 6) (by omega) (by decide)).mp h21
  refine GW.aload0 dL_isTurnedBack_26 (g := ?_)
  refine GW.iload1 dL_isTurnedBack_27 ?_
  refine GW.iload2 dL_isTurnedBack_28 ?_
  refine GW.callV cv_L_125 mt_X10_apply (c_apply (G := (im1, ad, mc1)) (i := i) (d := d) (S := 100) hS1 hi (by omega) hd hok hsz (by decide)) dL_isTurnedBack_29 (by first | assumption | exact isV.gl (by assumption) | exact wkAt.gl (by assumption) | exact tbAt.gl (by assumption)) rfl rfl rfl rfl (by first | (dsimp only [mL_isTurnedBack, gM.dp, gM.kc, gM.ks]; omega) | exact Nat.le_of_ble_eq_true rfl | exact Nat.le_refl _ | omega) (by decide) (by first | omega | (dsimp only [mL_isTurnedBack, gM.dp, gM.kc, gM.ks]; omega)) (by first | omega | (dsimp only [mL_isTurnedBack, gM.dp, gM.kc, gM.ks]; omega)) (by first | exact Nat.le_of_ble_eq_true rfl | (simp [va_rf_cat]; done) | (simp [va_rf_cat, Value.category]; done)) rfl (fun _ _ h => h.elim) (fun v29 G29 hq => ?_)
  obtain ⟨im2, mc2, hle2, rfl, h⟩ := hq
  rcases h with ⟨hne, rfl, hS2⟩ | ⟨heq, rfl, t1, hg1, h50, h7, hS2⟩
  · obtain ⟨_, l2⟩ := St.g0 (hS2 : St im2 ad mc2 ds cl at_ ss ps qs)
    refine GW.istore6 dL_isTurnedBack_32 (g := ?_)
    refine GW.iload3 dL_isTurnedBack_34 ?_
    refine GW.iconst (v := -1) dL_isTurnedBack_35 (by decide) ?_
    refine GW.icmp_eq (tgt := 63) dL_isTurnedBack_36 (by decide) (fun h36 => ?_) (fun h36 => ?_)
    · exact absurd h36 hne
    refine GW.iload6 dL_isTurnedBack_39 ?_
    refine GW.iconst (v := -1) dL_isTurnedBack_41 (by decide) ?_
    refine GW.icmp_ne (tgt := 61) dL_isTurnedBack_42 (by decide) (fun h42 => ?_) (fun h42 => ?_)
    · exact absurd rfl h42
    refine GW.aload0 dL_isTurnedBack_45 (g := ?_)
    refine GW.iload2 dL_isTurnedBack_46 ?_
    refine GW.callV0 cv_L_37 mt_X10_size (c_size (G := (im2, ad, mc2)) (i := d) hS2 hd) dL_isTurnedBack_47 (by first | assumption | exact isV.gl (by assumption) | exact wkAt.gl (by assumption) | exact tbAt.gl (by assumption)) rfl rfl rfl rfl (by first | (dsimp only [mL_isTurnedBack, gM.dp, gM.kc, gM.ks]; omega) | exact Nat.le_of_ble_eq_true rfl | exact Nat.le_refl _ | omega) (by decide) (by first | (dsimp only [mL_isTurnedBack, gM.dp, gM.kc, gM.ks]; omega) | exact Nat.le_of_ble_eq_true rfl | exact Nat.le_refl _ | omega) (by first | (dsimp only [mL_isTurnedBack, gM.dp, gM.kc, gM.ks]; omega) | exact Nat.le_of_ble_eq_true rfl | exact Nat.le_refl _ | omega) (by first | exact Nat.le_of_ble_eq_true rfl | (simp [va_rf_cat]; done) | (simp [va_rf_cat, Value.category]; done)) rfl (fun _ _ h => h.elim) (fun v47 G47 hq => ?_)
    obtain ⟨z, rfl, rfl, rfl⟩ := hq
    refine GW.i2l dL_isTurnedBack_50 ?_
    refine GW.lload4 dL_isTurnedBack_51 ?_
    refine GW.lcmp dL_isTurnedBack_53 ?_
    refine GW.if_ne (tgt := 61) dL_isTurnedBack_54 (by decide) (fun h54 => ?_) (fun h54 => ?_)
    · exact absurd (cmp_same _) h54
    refine GW.iconst (v := 1) dL_isTurnedBack_57 (by decide) ?_
    refine GW.goto (tgt := 62) dL_isTurnedBack_58 (by decide) ?_
    refine GW.ireturn dL_isTurnedBack_62 (Or.inr ⟨rfl, by first | exact Or.inl rfl | exact Or.inr rfl | assumption⟩) (by first | (dsimp only [mL_isTurnedBack, gM.dp, gM.kc, gM.ks]; omega) | exact Nat.le_of_ble_eq_true rfl | exact Nat.le_refl _ | omega) (by first | (dsimp only [mL_isTurnedBack, gM.dp, gM.kc, gM.ks]; omega) | exact Nat.le_of_ble_eq_true rfl | exact Nat.le_refl _ | omega) ?_
    exact fin _ _ _ _ hI hS2
  have hS2 : St im2 ad mc2 (updD ds d t1) cl at_ (if at_ = d then ss.take (stl t1 ss) else ss) (ps ++ [invL os (tks os (ds d))]) qs := hS2
  obtain ⟨_, l2⟩ := hS2.g0
  obtain ⟨w1, wok, wr, wsz, wln⟩ := inv_all os (ds d) t1 0 hD.1 hP.1 hg1
  obtain ⟨inv, hinv⟩ : ∃ inv, inv = invL os (tks os (ds d)) := ⟨_, rfl⟩
  rw [← hinv] at hS2 wok wr wsz wln
  have hI2 : Inv (updD ds d t1) cl at_ (if at_ = d then ss.take (stl t1 ss) else ss) ps := hI.upd ⟨w1, h50, h7⟩
  obtain ⟨ds2, hds2⟩ : ∃ ds2, ds2 = updD ds d t1 := ⟨_, rfl⟩
  have hd2 : ds2 d = t1 := by rw [hds2, updD_same]
  rw [← hds2] at hS2 hI2
  generalize (if at_ = d then ss.take (stl t1 ss) else ss) = ss2 at hS2 hI2
  have hi2 : (ps ++ [inv])[ps.length]? = some inv := by simp
  have hok2 : ∀ o ∈ inv, opOk o := fun o ho => (wok o ho).1
  have hsz2 : szT (ds2 d) + sumSz inv ≤ 100 := by rw [hd2]; omega
  have hio : (ps ++ [inv])[i]? = some os := by rw [List.getElem?_append_left hil]; exact hi
  have htry2 : tryV inv (ds2 d) = -1 := by
    unfold tryV
    rw [hd2, wr 0]
    exact if_pos hD.2
  refine GW.istore6 dL_isTurnedBack_32 (g := ?_)
  refine GW.iload3 dL_isTurnedBack_34 ?_
  refine GW.iconst (v := -1) dL_isTurnedBack_35 (by decide) ?_
  refine GW.icmp_eq (tgt := 63) dL_isTurnedBack_36 (by decide) (fun h36 => ?_) (fun h36 => ?_)
  rotate_left
  · exact absurd heq h36
  refine GW.iload6 dL_isTurnedBack_63 ?_
  refine GW.aload0 dL_isTurnedBack_65 (g := ?_)
  refine GW.callV0 cv_L_101 mt_X10_patches (c_patches (G := (im2, ad, mc2)) hS2) dL_isTurnedBack_66 (by first | assumption | exact isV.gl (by assumption) | exact wkAt.gl (by assumption) | exact tbAt.gl (by assumption)) rfl rfl rfl rfl (by first | (dsimp only [mL_isTurnedBack, gM.dp, gM.kc, gM.ks]; omega) | exact Nat.le_of_ble_eq_true rfl | exact Nat.le_refl _ | omega) (by decide) (by first | (dsimp only [mL_isTurnedBack, gM.dp, gM.kc, gM.ks]; omega) | exact Nat.le_of_ble_eq_true rfl | exact Nat.le_refl _ | omega) (by first | (dsimp only [mL_isTurnedBack, gM.dp, gM.kc, gM.ks]; omega) | exact Nat.le_of_ble_eq_true rfl | exact Nat.le_refl _ | omega) (by first | exact Nat.le_of_ble_eq_true rfl | (simp [va_rf_cat]; done) | (simp [va_rf_cat, Value.category]; done)) rfl (fun _ _ h => h.elim) (fun v66 G66 hq => ?_)
  obtain ⟨z, rfl, rfl, rfl⟩ := hq
  refine GW.iconst (v := 1) dL_isTurnedBack_69 (by decide) ?_
  refine GW.isub dL_isTurnedBack_70 ?_
  refine GW.icmp_ne (tgt := 99) dL_isTurnedBack_71 (by decide) (fun h71 => ?_) (fun h71 => ?_)
  · refine absurd ?_ h71
    rw [List.length_append, List.length_singleton, mI_pred (a := ps.length + 1) (by omega), Nat.add_sub_cancel]
  refine GW.aload0 dL_isTurnedBack_74 (g := ?_)
  refine GW.iload6 dL_isTurnedBack_75 ?_
  refine GW.callV0 cv_L_95 mt_X10_operations (c_operations (G := (im2, ad, mc2)) (i := ps.length) hS2 hi2) dL_isTurnedBack_77 (by first | assumption | exact isV.gl (by assumption) | exact wkAt.gl (by assumption) | exact tbAt.gl (by assumption)) rfl rfl rfl rfl (by first | (dsimp only [mL_isTurnedBack, gM.dp, gM.kc, gM.ks]; omega) | exact Nat.le_of_ble_eq_true rfl | exact Nat.le_refl _ | omega) (by decide) (by first | (dsimp only [mL_isTurnedBack, gM.dp, gM.kc, gM.ks]; omega) | exact Nat.le_of_ble_eq_true rfl | exact Nat.le_refl _ | omega) (by first | (dsimp only [mL_isTurnedBack, gM.dp, gM.kc, gM.ks]; omega) | exact Nat.le_of_ble_eq_true rfl | exact Nat.le_refl _ | omega) (by first | exact Nat.le_of_ble_eq_true rfl | (simp [va_rf_cat]; done) | (simp [va_rf_cat, Value.category]; done)) rfl (fun _ _ h => h.elim) (fun v77 G77 hq => ?_)
  obtain ⟨z, rfl, rfl, rfl⟩ := hq
  refine GW.aload0 dL_isTurnedBack_80 (g := ?_)
  refine GW.iload1 dL_isTurnedBack_81 ?_
  refine GW.callV0 cv_L_95 mt_X10_operations (c_operations (G := (im2, ad, mc2)) (i := i) hS2 hio) dL_isTurnedBack_82 (by first | assumption | exact isV.gl (by assumption) | exact wkAt.gl (by assumption) | exact tbAt.gl (by assumption)) rfl rfl rfl rfl (by first | (dsimp only [mL_isTurnedBack, gM.dp, gM.kc, gM.ks]; omega) | exact Nat.le_of_ble_eq_true rfl | exact Nat.le_refl _ | omega) (by decide) (by first | (dsimp only [mL_isTurnedBack, gM.dp, gM.kc, gM.ks]; omega) | exact Nat.le_of_ble_eq_true rfl | exact Nat.le_refl _ | omega) (by first | (dsimp only [mL_isTurnedBack, gM.dp, gM.kc, gM.ks]; omega) | exact Nat.le_of_ble_eq_true rfl | exact Nat.le_refl _ | omega) (by first | exact Nat.le_of_ble_eq_true rfl | (simp [va_rf_cat]; done) | (simp [va_rf_cat, Value.category]; done)) rfl (fun _ _ h => h.elim) (fun v82 G82 hq => ?_)
  obtain ⟨z, rfl, rfl, rfl⟩ := hq
  refine GW.icmp_ne (tgt := 99) dL_isTurnedBack_85 (by decide) (fun h85 => ?_) (fun h85 => ?_)
  · exact absurd (by rw [wln]) h85
  refine GW.aload0 dL_isTurnedBack_88 (g := ?_)
  refine GW.iload6 dL_isTurnedBack_89 ?_
  refine GW.iload2 dL_isTurnedBack_91 ?_
  refine GW.callV cv_L_92 mt_X10_failsAt (c_failsAt (G := (im2, ad, mc2)) (i := ps.length) (d := d) (S := 100) hS2 hi2 hd hok2 hsz2 (by decide)) dL_isTurnedBack_92 (by first | assumption | exact isV.gl (by assumption) | exact wkAt.gl (by assumption) | exact tbAt.gl (by assumption)) rfl rfl rfl rfl (by first | (dsimp only [mL_isTurnedBack, gM.dp, gM.kc, gM.ks]; omega) | exact Nat.le_of_ble_eq_true rfl | exact Nat.le_refl _ | omega) (by decide) (by first | omega | (dsimp only [mL_isTurnedBack, gM.dp, gM.kc, gM.ks]; omega)) (by first | omega | (dsimp only [mL_isTurnedBack, gM.dp, gM.kc, gM.ks]; omega)) (by first | exact Nat.le_of_ble_eq_true rfl | (simp [va_rf_cat]; done) | (simp [va_rf_cat, Value.category]; done)) rfl (fun _ _ h => h.elim) (fun v92 G92 hq => ?_)
  obtain ⟨im3, mc3, rfl, hle3, rfl, hS3⟩ := hq
  obtain ⟨_, l3⟩ := St.g0 (hS3 : St im3 ad mc3 ds2 cl at_ ss2 (ps ++ [inv]) qs)
  refine GW.iconst (v := -1) dL_isTurnedBack_95 (by decide) ?_
  refine GW.icmp_eq (tgt := 101) dL_isTurnedBack_96 (by decide) (fun h96 => ?_) (fun h96 => ?_)
  rotate_left
  · exact absurd htry2 h96
  refine GW.aload0 dL_isTurnedBack_101 (g := ?_)
  refine GW.iload6 dL_isTurnedBack_102 ?_
  refine GW.iload2 dL_isTurnedBack_104 ?_
  refine GW.callV cv_L_125 mt_X10_apply (c_apply (G := (im3, ad, mc3)) (i := ps.length) (d := d) (S := 100) hS3 hi2 (by simp; omega) hd hok2 hsz2 (by decide)) dL_isTurnedBack_105 (by first | assumption | exact isV.gl (by assumption) | exact wkAt.gl (by assumption) | exact tbAt.gl (by assumption)) rfl rfl rfl rfl (by first | (dsimp only [mL_isTurnedBack, gM.dp, gM.kc, gM.ks]; omega) | exact Nat.le_of_ble_eq_true rfl | exact Nat.le_refl _ | omega) (by decide) (by first | omega | (dsimp only [mL_isTurnedBack, gM.dp, gM.kc, gM.ks]; omega)) (by first | omega | (dsimp only [mL_isTurnedBack, gM.dp, gM.kc, gM.ks]; omega)) (by first | exact Nat.le_of_ble_eq_true rfl | (simp [va_rf_cat]; done) | (simp [va_rf_cat, Value.category]; done)) rfl (fun _ _ h => h.elim) (fun v105 G105 hq => ?_)
  obtain ⟨im4, mc4, hle4, rfl, h⟩ := hq
  rcases h with ⟨hne, -, -⟩ | ⟨-, rfl, t2, hg2, -, -, hS4⟩
  · exact absurd htry2 hne
  rw [hd2, wr 0] at hg2
  have hg2 : ds d = t2 := Sum.inr.inj hg2
  subst hg2
  have hI4 : Inv (updD ds2 d (ds d)) cl at_ (if at_ = d then ss2.take (stl (ds d) ss2) else ss2) ps := hI2.upd hD
  obtain ⟨ds4, hds4⟩ : ∃ ds4, ds4 = updD ds2 d (ds d) := ⟨_, rfl⟩
  have hd4 : ds4 d = ds d := by rw [hds4, updD_same]
  obtain ⟨inv2, hinv2⟩ : ∃ inv2, inv2 = invL inv (tks inv (ds2 d)) := ⟨_, rfl⟩
  have hS4 : St im4 ad mc4 (updD ds2 d (ds d)) cl at_ (if at_ = d then ss2.take (stl (ds d) ss2) else ss2) ((ps ++ [inv]) ++ [invL inv (tks inv (ds2 d))]) qs := hS4
  rw [← hds4] at hS4 hI4
  rw [← hinv2] at hS4
  generalize (if at_ = d then ss2.take (stl (ds d) ss2) else ss2) = ss4 at hS4 hI4
  obtain ⟨_, l4⟩ := hS4.g0
  have hio4 : ((ps ++ [inv]) ++ [inv2])[i]? = some os := by rw [List.getElem?_append_left (by simp; omega)]; exact hio
  refine GW.istore7 dL_isTurnedBack_108 (g := ?_)
  refine GW.aload0 dL_isTurnedBack_110 (g := ?_)
  refine GW.iload2 dL_isTurnedBack_111 ?_
  refine GW.callV0 cv_L_37 mt_X10_size (c_size (G := (im4, ad, mc4)) (i := d) hS4 hd) dL_isTurnedBack_112 (by first | assumption | exact isV.gl (by assumption) | exact wkAt.gl (by assumption) | exact tbAt.gl (by assumption)) rfl rfl rfl rfl (by first | (dsimp only [mL_isTurnedBack, gM.dp, gM.kc, gM.ks]; omega) | exact Nat.le_of_ble_eq_true rfl | exact Nat.le_refl _ | omega) (by decide) (by first | (dsimp only [mL_isTurnedBack, gM.dp, gM.kc, gM.ks]; omega) | exact Nat.le_of_ble_eq_true rfl | exact Nat.le_refl _ | omega) (by first | (dsimp only [mL_isTurnedBack, gM.dp, gM.kc, gM.ks]; omega) | exact Nat.le_of_ble_eq_true rfl | exact Nat.le_refl _ | omega) (by first | exact Nat.le_of_ble_eq_true rfl | (simp [va_rf_cat]; done) | (simp [va_rf_cat, Value.category]; done)) rfl (fun _ _ h => h.elim) (fun v112 G112 hq => ?_)
  obtain ⟨z, rfl, rfl, rfl⟩ := hq
  refine GW.i2l dL_isTurnedBack_115 ?_
  refine GW.lload4 dL_isTurnedBack_116 ?_
  refine GW.lcmp dL_isTurnedBack_118 ?_
  refine GW.if_ne (tgt := 136) dL_isTurnedBack_119 (by decide) (fun h119 => ?_) (fun h119 => ?_)
  · rw [hd4] at h119
    exact absurd (cmp_same _) h119
  refine GW.aload0 dL_isTurnedBack_122 (g := ?_)
  refine GW.iload1 dL_isTurnedBack_123 ?_
  refine GW.iload2 dL_isTurnedBack_124 ?_
  refine GW.callV cv_L_92 mt_X10_failsAt (c_failsAt (G := (im4, ad, mc4)) (i := i) (d := d) (S := 100) hS4 hio4 hd hok (by rw [hd4]; exact hsz) (by decide)) dL_isTurnedBack_125 (by first | assumption | exact isV.gl (by assumption) | exact wkAt.gl (by assumption) | exact tbAt.gl (by assumption)) rfl rfl rfl rfl (by first | (dsimp only [mL_isTurnedBack, gM.dp, gM.kc, gM.ks]; omega) | exact Nat.le_of_ble_eq_true rfl | exact Nat.le_refl _ | omega) (by decide) (by first | omega | (dsimp only [mL_isTurnedBack, gM.dp, gM.kc, gM.ks]; omega)) (by first | omega | (dsimp only [mL_isTurnedBack, gM.dp, gM.kc, gM.ks]; omega)) (by first | exact Nat.le_of_ble_eq_true rfl | (simp [va_rf_cat]; done) | (simp [va_rf_cat, Value.category]; done)) rfl (fun _ _ h => h.elim) (fun v125 G125 hq => ?_)
  obtain ⟨im5, mc5, rfl, hle5, rfl, hS5⟩ := hq
  have hS5 : St im5 ad mc5 ds4 cl at_ ss4 ((ps ++ [inv]) ++ [inv2]) qs := hS5
  obtain ⟨_, l5⟩ := hS5.g0
  refine GW.iconst (v := -1) dL_isTurnedBack_128 (by decide) ?_
  refine GW.icmp_ne (tgt := 136) dL_isTurnedBack_129 (by decide) (fun h129 => ?_) (fun h129 => ?_)
  · rw [hd4] at h129
    exact absurd heq h129
  refine GW.iconst (v := 1) dL_isTurnedBack_132 (by decide) ?_
  refine GW.goto (tgt := 137) dL_isTurnedBack_133 (by decide) ?_
  refine GW.istore8 dL_isTurnedBack_137 (g := ?_)
  refine GW.aload0 dL_isTurnedBack_139 (g := ?_)
  refine GW.callV cv_L_108 mt_X10_forget (c_forget (G := (im5, ad, mc5)) hS5) dL_isTurnedBack_140 (by first | assumption | exact isV.gl (by assumption) | exact wkAt.gl (by assumption) | exact tbAt.gl (by assumption)) rfl rfl rfl rfl (by first | (dsimp only [mL_isTurnedBack, gM.dp, gM.kc, gM.ks]; omega) | exact Nat.le_of_ble_eq_true rfl | exact Nat.le_refl _ | omega) (by decide) (by first | omega | (dsimp only [mL_isTurnedBack, gM.dp, gM.kc, gM.ks]; omega)) (by first | omega | (dsimp only [mL_isTurnedBack, gM.dp, gM.kc, gM.ks]; omega)) (by first | exact Nat.le_of_ble_eq_true rfl | (simp [va_rf_cat]; done) | (simp [va_rf_cat, Value.category]; done)) rfl (fun E G' hx => absurd hx.1 (by simp)) (fun v140 G140 hq => ?_)
  obtain ⟨⟨z, rfl⟩, -, mc6, rfl, hS6⟩ := hq
  have hS6 : St im5 ad mc6 ds4 cl at_ ss4 (((ps ++ [inv]) ++ [inv2]).take (((ps ++ [inv]) ++ [inv2]).length - 1)) qs := hS6
  rw [show ((ps ++ [inv]) ++ [inv2]).take (((ps ++ [inv]) ++ [inv2]).length - 1) = ps ++ [inv] from by rw [List.length_append, List.length_singleton, Nat.add_sub_cancel]; exact List.take_left] at hS6
  obtain ⟨_, l6⟩ := hS6.g0
  refine GW.pop dL_isTurnedBack_143 (hv := by first | rfl | exact va_rf_cat _) (g := ?_)
  refine GW.aload0 dL_isTurnedBack_144 (g := ?_)
  refine GW.callV cv_L_108 mt_X10_forget (c_forget (G := (im5, ad, mc6)) hS6) dL_isTurnedBack_145 (by first | assumption | exact isV.gl (by assumption) | exact wkAt.gl (by assumption) | exact tbAt.gl (by assumption)) rfl rfl rfl rfl (by first | (dsimp only [mL_isTurnedBack, gM.dp, gM.kc, gM.ks]; omega) | exact Nat.le_of_ble_eq_true rfl | exact Nat.le_refl _ | omega) (by decide) (by first | omega | (dsimp only [mL_isTurnedBack, gM.dp, gM.kc, gM.ks]; omega)) (by first | omega | (dsimp only [mL_isTurnedBack, gM.dp, gM.kc, gM.ks]; omega)) (by first | exact Nat.le_of_ble_eq_true rfl | (simp [va_rf_cat]; done) | (simp [va_rf_cat, Value.category]; done)) rfl (fun E G' hx => absurd hx.1 (by simp)) (fun v145 G145 hq => ?_)
  obtain ⟨⟨z, rfl⟩, -, mc7, rfl, hS7⟩ := hq
  have hS7 : St im5 ad mc7 ds4 cl at_ ss4 ((ps ++ [inv]).take ((ps ++ [inv]).length - 1)) qs := hS7
  rw [show (ps ++ [inv]).take ((ps ++ [inv]).length - 1) = ps from by rw [List.length_append, List.length_singleton, Nat.add_sub_cancel]; exact List.take_left] at hS7
  refine GW.pop dL_isTurnedBack_148 (hv := by first | rfl | exact va_rf_cat _) (g := ?_)
  refine GW.iload8 dL_isTurnedBack_149 ?_
  refine GW.if_eq (tgt := 167) dL_isTurnedBack_151 (by decide) (fun h151 => ?_) (fun h151 => ?_)
  · exact absurd h151 (by decide)
  refine GW.iload7 dL_isTurnedBack_154 ?_
  refine GW.iload6 dL_isTurnedBack_156 ?_
  refine GW.iconst (v := 1) dL_isTurnedBack_158 (by decide) ?_
  refine GW.iadd dL_isTurnedBack_159 ?_
  refine GW.icmp_ne (tgt := 167) dL_isTurnedBack_160 (by decide) (fun h160 => ?_) (fun h160 => ?_)
  · refine absurd ?_ h160
    rw [List.length_append, List.length_singleton, mI_succ]
  refine GW.iconst (v := 1) dL_isTurnedBack_163 (by decide) ?_
  refine GW.goto (tgt := 168) dL_isTurnedBack_164 (by decide) ?_
  refine GW.ireturn dL_isTurnedBack_168 (Or.inr ⟨rfl, by first | exact Or.inl rfl | exact Or.inr rfl | assumption⟩) (by first | (dsimp only [mL_isTurnedBack, gM.dp, gM.kc, gM.ks]; omega) | exact Nat.le_of_ble_eq_true rfl | exact Nat.le_refl _ | omega) (by first | (dsimp only [mL_isTurnedBack, gM.dp, gM.kc, gM.ks]; omega) | exact Nat.le_of_ble_eq_true rfl | exact Nat.le_refl _ | omega) ?_
  exact fin _ _ _ _ hI4 hS7
end LAWM
