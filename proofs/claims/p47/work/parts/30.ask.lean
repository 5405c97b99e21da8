/-! MARLSTORE: public methods that ask -/

abbrev mX10_document (d kc ks : Nat) : gM := (RX10, cX10_document, 1, (some .int), [], "document", d, kc, ks)
abbrev kX10_document (d kc ks : Nat) (as : List Value) (G : gG) (Q : Option Value → gG → Prop) (X : String → gG → Prop) : Prop := Ctr yX10_document cX10_document 1 (some .int) d kc ks as G Q X
theorem oX10_document {d kc ks : Nat} {as : List Value} {G : gG} {Q : Option Value → gG → Prop} {X : String → gG → Prop} {L : List (Option Value)} (hL : gEnt as = L) (hlen : (lg_sl as).length ≤ 1) (g : GW (mX10_document d kc ks) Q X G 0 0 0 L []) : kX10_document d kc ks as G Q X := Ctr.of (by decide +kernel) rfl rfl hL hlen g
theorem c_document {G : gG} {ds : Nat → Tr} {cl : Tr} {at_ : Nat} {ss : List Int32} {ps : List (List OpT)} {qs : List (List (Int32 × Int32))} (hS : St G.1 G.2.1 G.2.2 ds cl at_ ss ps qs) :
    kX10_document 0 0 0 [.ref (G.2.1 0)] G (ans G (fun w => w = .int (nI at_))) noX := by
  obtain ⟨⟨⟨cla, a1, a2⟩, a3, a4, a5⟩, ⟨b1, b2, b3, b4⟩, ⟨c1, c2, c3⟩, ⟨d1, d2, d3, d4⟩, f9⟩ := id hS
  have l0 : gL G (G.2.1 0) (.inl (10, _)) := Or.inr ⟨0, rfl, a1⟩
  have l2 : gL G (G.2.1 2) (.inl (5, _)) := Or.inr ⟨2, rfl, a4.2.1⟩
  refine oX10_document (L := [some (.ref (G.2.1 0)), none, none, none, none, none, none, none, none, none, none, none]) rfl (Nat.le_of_ble_eq_true rfl) ?_
  refine GW.aload0 dX10_document_0 (g := ?_)
  refine GW.getf fl_X10_25 dX10_document_1 (by assumption) (by rfl) ?_
  refine GW.getf fl_X10_131 dX10_document_4 (by assumption) (by rfl) ?_
  refine GW.ireturn dX10_document_7 (Or.inl rfl) (by first | (dsimp only [mX10_document, gM.dp, gM.kc, gM.ks]; omega) | exact Nat.le_of_ble_eq_true rfl | exact Nat.le_refl _ | omega) (by first | (dsimp only [mX10_document, gM.dp, gM.kc, gM.ks]; omega) | exact Nat.le_of_ble_eq_true rfl | exact Nat.le_refl _ | omega) ?_
  exact ⟨_, rfl, rfl, rfl⟩
abbrev mX10_steps (d kc ks : Nat) : gM := (RX10, cX10_steps, 1, (some .int), [], "steps", d, kc, ks)
abbrev kX10_steps (d kc ks : Nat) (as : List Value) (G : gG) (Q : Option Value → gG → Prop) (X : String → gG → Prop) : Prop := Ctr yX10_steps cX10_steps 1 (some .int) d kc ks as G Q X
theorem oX10_steps {d kc ks : Nat} {as : List Value} {G : gG} {Q : Option Value → gG → Prop} {X : String → gG → Prop} {L : List (Option Value)} (hL : gEnt as = L) (hlen : (lg_sl as).length ≤ 1) (g : GW (mX10_steps d kc ks) Q X G 0 0 0 L []) : kX10_steps d kc ks as G Q X := Ctr.of (by decide +kernel) rfl rfl hL hlen g
theorem c_steps {G : gG} {ds : Nat → Tr} {cl : Tr} {at_ : Nat} {ss : List Int32} {ps : List (List OpT)} {qs : List (List (Int32 × Int32))} (hS : St G.1 G.2.1 G.2.2 ds cl at_ ss ps qs) :
    kX10_steps 0 0 0 [.ref (G.2.1 0)] G (ans G (fun w => w = .int (nI ss.length))) noX := by
  obtain ⟨⟨⟨cla, a1, a2⟩, a3, a4, a5⟩, ⟨b1, b2, b3, b4⟩, ⟨c1, c2, c3⟩, ⟨d1, d2, d3, d4⟩, f9⟩ := id hS
  have l0 : gL G (G.2.1 0) (.inl (10, _)) := Or.inr ⟨0, rfl, a1⟩
  have l2 : gL G (G.2.1 2) (.inl (5, _)) := Or.inr ⟨2, rfl, a4.2.1⟩
  refine oX10_steps (L := [some (.ref (G.2.1 0)), none, none, none, none, none, none, none, none, none, none, none]) rfl (Nat.le_of_ble_eq_true rfl) ?_
  refine GW.aload0 dX10_steps_0 (g := ?_)
  refine GW.getf fl_X10_25 dX10_steps_1 (by assumption) (by rfl) ?_
  refine GW.getf fl_X10_128 dX10_steps_4 (by assumption) (by rfl) ?_
  refine GW.ireturn dX10_steps_7 (Or.inl rfl) (by first | (dsimp only [mX10_steps, gM.dp, gM.kc, gM.ks]; omega) | exact Nat.le_of_ble_eq_true rfl | exact Nat.le_refl _ | omega) (by first | (dsimp only [mX10_steps, gM.dp, gM.kc, gM.ks]; omega) | exact Nat.le_of_ble_eq_true rfl | exact Nat.le_refl _ | omega) ?_
  exact ⟨_, rfl, rfl, rfl⟩
abbrev mX10_patches (d kc ks : Nat) : gM := (RX10, cX10_patches, 1, (some .int), [], "patches", d, kc, ks)
abbrev kX10_patches (d kc ks : Nat) (as : List Value) (G : gG) (Q : Option Value → gG → Prop) (X : String → gG → Prop) : Prop := Ctr yX10_patches cX10_patches 1 (some .int) d kc ks as G Q X
theorem oX10_patches {d kc ks : Nat} {as : List Value} {G : gG} {Q : Option Value → gG → Prop} {X : String → gG → Prop} {L : List (Option Value)} (hL : gEnt as = L) (hlen : (lg_sl as).length ≤ 1) (g : GW (mX10_patches d kc ks) Q X G 0 0 0 L []) : kX10_patches d kc ks as G Q X := Ctr.of (by decide +kernel) rfl rfl hL hlen g
theorem c_patches {G : gG} {ds : Nat → Tr} {cl : Tr} {at_ : Nat} {ss : List Int32} {ps : List (List OpT)} {qs : List (List (Int32 × Int32))} (hS : St G.1 G.2.1 G.2.2 ds cl at_ ss ps qs) :
    kX10_patches 0 0 0 [.ref (G.2.1 0)] G (ans G (fun w => w = .int (nI ps.length))) noX := by
  obtain ⟨⟨⟨cla, a1, a2⟩, a3, a4, a5⟩, ⟨b1, b2, b3, b4⟩, ⟨c1, c2, c3⟩, ⟨d1, d2, d3, d4⟩, f9⟩ := id hS
  have l0 : gL G (G.2.1 0) (.inl (10, _)) := Or.inr ⟨0, rfl, a1⟩
  have l2 : gL G (G.2.1 2) (.inl (5, _)) := Or.inr ⟨2, rfl, a4.2.1⟩
  refine oX10_patches (L := [some (.ref (G.2.1 0)), none, none, none, none, none, none, none, none, none, none, none]) rfl (Nat.le_of_ble_eq_true rfl) ?_
  refine GW.aload0 dX10_patches_0 (g := ?_)
  refine GW.getf fl_X10_220 dX10_patches_1 (by assumption) (by rfl) ?_
  refine GW.ireturn dX10_patches_4 (Or.inl rfl) (by first | (dsimp only [mX10_patches, gM.dp, gM.kc, gM.ks]; omega) | exact Nat.le_of_ble_eq_true rfl | exact Nat.le_refl _ | omega) (by first | (dsimp only [mX10_patches, gM.dp, gM.kc, gM.ks]; omega) | exact Nat.le_of_ble_eq_true rfl | exact Nat.le_refl _ | omega) ?_
  exact ⟨_, rfl, rfl, rfl⟩
abbrev mX10_clip (d kc ks : Nat) : gM := (RX10, cX10_clip, 1, (some .int), [], "clip", d, kc, ks)
abbrev kX10_clip (d kc ks : Nat) (as : List Value) (G : gG) (Q : Option Value → gG → Prop) (X : String → gG → Prop) : Prop := Ctr yX10_clip cX10_clip 1 (some .int) d kc ks as G Q X
theorem oX10_clip {d kc ks : Nat} {as : List Value} {G : gG} {Q : Option Value → gG → Prop} {X : String → gG → Prop} {L : List (Option Value)} (hL : gEnt as = L) (hlen : (lg_sl as).length ≤ 1) (g : GW (mX10_clip d kc ks) Q X G 0 0 0 L []) : kX10_clip d kc ks as G Q X := Ctr.of (by decide +kernel) rfl rfl hL hlen g
theorem c_clip {G : gG} {ds : Nat → Tr} {cl : Tr} {at_ : Nat} {ss : List Int32} {ps : List (List OpT)} {qs : List (List (Int32 × Int32))} (hS : St G.1 G.2.1 G.2.2 ds cl at_ ss ps qs) :
    kX10_clip 0 0 0 [.ref (G.2.1 0)] G (ans G (fun w => w = .int (nI (szT cl)))) noX := by
  obtain ⟨⟨⟨cla, a1, a2⟩, a3, a4, a5⟩, ⟨b1, b2, b3, b4⟩, ⟨c1, c2, c3⟩, ⟨d1, d2, d3, d4⟩, f9⟩ := id hS
  have l0 : gL G (G.2.1 0) (.inl (10, _)) := Or.inr ⟨0, rfl, a1⟩
  have l2 : gL G (G.2.1 2) (.inl (5, _)) := Or.inr ⟨2, rfl, a4.2.1⟩
  refine oX10_clip (L := [some (.ref (G.2.1 0)), none, none, none, none, none, none, none, none, none, none, none]) rfl (Nat.le_of_ble_eq_true rfl) ?_
  obtain ⟨kr, pq, hnd, -, -⟩ := a2.node
  have hnd : gL G cla (.inl (8, _)) := Or.inl hnd
  refine GW.aload0 dX10_clip_0 (g := ?_)
  refine GW.getf fl_X10_18 dX10_clip_1 (by assumption) (by rfl) ?_
  refine GW.getf fl_X10_145 dX10_clip_4 (by assumption) (by rfl) ?_
  refine GW.ireturn dX10_clip_7 (Or.inl rfl) (by first | (dsimp only [mX10_clip, gM.dp, gM.kc, gM.ks]; omega) | exact Nat.le_of_ble_eq_true rfl | exact Nat.le_refl _ | omega) (by first | (dsimp only [mX10_clip, gM.dp, gM.kc, gM.ks]; omega) | exact Nat.le_of_ble_eq_true rfl | exact Nat.le_refl _ | omega) ?_
  exact ⟨_, rfl, rfl, rfl⟩
abbrev mX10_kind (d kc ks : Nat) : gM := (RX10, cX10_kind, 1, (some .int), [], "kind", d, kc, ks)
abbrev kX10_kind (d kc ks : Nat) (as : List Value) (G : gG) (Q : Option Value → gG → Prop) (X : String → gG → Prop) : Prop := Ctr yX10_kind cX10_kind 1 (some .int) d kc ks as G Q X
theorem oX10_kind {d kc ks : Nat} {as : List Value} {G : gG} {Q : Option Value → gG → Prop} {X : String → gG → Prop} {L : List (Option Value)} (hL : gEnt as = L) (hlen : (lg_sl as).length ≤ 1) (g : GW (mX10_kind d kc ks) Q X G 0 0 0 L []) : kX10_kind d kc ks as G Q X := Ctr.of (by decide +kernel) rfl rfl hL hlen g
theorem c_kind {G : gG} {ds : Nat → Tr} {cl : Tr} {at_ : Nat} {ss : List Int32} {ps : List (List OpT)} {qs : List (List (Int32 × Int32))} (hS : St G.1 G.2.1 G.2.2 ds cl at_ ss ps qs) (hs : sml (ds at_)) :
    kX10_kind 3 0 0 [.ref (G.2.1 0)] G (ans G (fun w => w = .int (pT (ds at_) ss).1)) noX := by
  obtain ⟨⟨⟨cla, a1, a2⟩, a3, a4, a5⟩, ⟨b1, b2, b3, b4⟩, ⟨c1, c2, c3⟩, ⟨d1, d2, d3, d4⟩, f9⟩ := id hS
  have l0 : gL G (G.2.1 0) (.inl (10, _)) := Or.inr ⟨0, rfl, a1⟩
  have l2 : gL G (G.2.1 2) (.inl (5, _)) := Or.inr ⟨2, rfl, a4.2.1⟩
  refine oX10_kind (L := [some (.ref (G.2.1 0)), none, none, none, none, none, none, none, none, none, none, none]) rfl (Nat.le_of_ble_eq_true rfl) ?_
  refine GW.aload0 dX10_kind_0 (g := ?_)
  refine GW.callV0 cv_X10_97 mt_X10_pointed (c_pointed a1 a3 a4 a5 hs) dX10_kind_1 (by assumption) rfl rfl rfl rfl (by first | (dsimp only [mX10_kind, gM.dp, gM.kc, gM.ks]; omega) | exact Nat.le_of_ble_eq_true rfl | exact Nat.le_refl _ | omega) (by decide) (by first | (dsimp only [mX10_kind, gM.dp, gM.kc, gM.ks]; omega) | exact Nat.le_of_ble_eq_true rfl | exact Nat.le_refl _ | omega) (by first | (dsimp only [mX10_kind, gM.dp, gM.kc, gM.ks]; omega) | exact Nat.le_of_ble_eq_true rfl | exact Nat.le_refl _ | omega) (by first | exact Nat.le_of_ble_eq_true rfl | (simp [va_rf_cat]; done) | (simp [va_rf_cat, Value.category]; done)) rfl (fun _ _ h => h.elim) (fun v1 G1 hq => ?_)
  obtain ⟨a, rfl, rfl, hv⟩ := hq
  obtain ⟨kr, pq, hnd, -, -⟩ := hv.node
  have hnd : gL G a (.inl (8, _)) := Or.inl hnd
  refine GW.getf fl_X10_93 dX10_kind_4 (by assumption) (by rfl) ?_
  refine GW.ireturn dX10_kind_7 (Or.inl rfl) (by first | (dsimp only [mX10_kind, gM.dp, gM.kc, gM.ks]; omega) | exact Nat.le_of_ble_eq_true rfl | exact Nat.le_refl _ | omega) (by first | (dsimp only [mX10_kind, gM.dp, gM.kc, gM.ks]; omega) | exact Nat.le_of_ble_eq_true rfl | exact Nat.le_refl _ | omega) ?_
  exact ⟨_, rfl, rfl, rfl⟩
abbrev mX10_number (d kc ks : Nat) : gM := (RX10, cX10_number, 1, (some .int), [], "number", d, kc, ks)
abbrev kX10_number (d kc ks : Nat) (as : List Value) (G : gG) (Q : Option Value → gG → Prop) (X : String → gG → Prop) : Prop := Ctr yX10_number cX10_number 1 (some .int) d kc ks as G Q X
theorem oX10_number {d kc ks : Nat} {as : List Value} {G : gG} {Q : Option Value → gG → Prop} {X : String → gG → Prop} {L : List (Option Value)} (hL : gEnt as = L) (hlen : (lg_sl as).length ≤ 1) (g : GW (mX10_number d kc ks) Q X G 0 0 0 L []) : kX10_number d kc ks as G Q X := Ctr.of (by decide +kernel) rfl rfl hL hlen g
theorem c_number {G : gG} {ds : Nat → Tr} {cl : Tr} {at_ : Nat} {ss : List Int32} {ps : List (List OpT)} {qs : List (List (Int32 × Int32))} (hS : St G.1 G.2.1 G.2.2 ds cl at_ ss ps qs) (hs : sml (ds at_)) :
    kX10_number 3 0 0 [.ref (G.2.1 0)] G (ans G (fun w => w = .int (pT (ds at_) ss).2.1)) noX := by
  obtain ⟨⟨⟨cla, a1, a2⟩, a3, a4, a5⟩, ⟨b1, b2, b3, b4⟩, ⟨c1, c2, c3⟩, ⟨d1, d2, d3, d4⟩, f9⟩ := id hS
  have l0 : gL G (G.2.1 0) (.inl (10, _)) := Or.inr ⟨0, rfl, a1⟩
  have l2 : gL G (G.2.1 2) (.inl (5, _)) := Or.inr ⟨2, rfl, a4.2.1⟩
  refine oX10_number (L := [some (.ref (G.2.1 0)), none, none, none, none, none, none, none, none, none, none, none]) rfl (Nat.le_of_ble_eq_true rfl) ?_
  refine GW.aload0 dX10_number_0 (g := ?_)
  refine GW.callV0 cv_X10_97 mt_X10_pointed (c_pointed a1 a3 a4 a5 hs) dX10_number_1 (by assumption) rfl rfl rfl rfl (by first | (dsimp only [mX10_number, gM.dp, gM.kc, gM.ks]; omega) | exact Nat.le_of_ble_eq_true rfl | exact Nat.le_refl _ | omega) (by decide) (by first | (dsimp only [mX10_number, gM.dp, gM.kc, gM.ks]; omega) | exact Nat.le_of_ble_eq_true rfl | exact Nat.le_refl _ | omega) (by first | (dsimp only [mX10_number, gM.dp, gM.kc, gM.ks]; omega) | exact Nat.le_of_ble_eq_true rfl | exact Nat.le_refl _ | omega) (by first | exact Nat.le_of_ble_eq_true rfl | (simp [va_rf_cat]; done) | (simp [va_rf_cat, Value.category]; done)) rfl (fun _ _ h => h.elim) (fun v1 G1 hq => ?_)
  obtain ⟨a, rfl, rfl, hv⟩ := hq
  obtain ⟨kr, pq, hnd, -, -⟩ := hv.node
  have hnd : gL G a (.inl (8, _)) := Or.inl hnd
  refine GW.getf fl_X10_167 dX10_number_4 (by assumption) (by rfl) ?_
  refine GW.ireturn dX10_number_7 (Or.inl rfl) (by first | (dsimp only [mX10_number, gM.dp, gM.kc, gM.ks]; omega) | exact Nat.le_of_ble_eq_true rfl | exact Nat.le_refl _ | omega) (by first | (dsimp only [mX10_number, gM.dp, gM.kc, gM.ks]; omega) | exact Nat.le_of_ble_eq_true rfl | exact Nat.le_refl _ | omega) ?_
  exact ⟨_, rfl, rfl, rfl⟩
abbrev mX10_children (d kc ks : Nat) : gM := (RX10, cX10_children, 1, (some .int), [], "children", d, kc, ks)
abbrev kX10_children (d kc ks : Nat) (as : List Value) (G : gG) (Q : Option Value → gG → Prop) (X : String → gG → Prop) : Prop := Ctr yX10_children cX10_children 1 (some .int) d kc ks as G Q X
theorem oX10_children {d kc ks : Nat} {as : List Value} {G : gG} {Q : Option Value → gG → Prop} {X : String → gG → Prop} {L : List (Option Value)} (hL : gEnt as = L) (hlen : (lg_sl as).length ≤ 1) (g : GW (mX10_children d kc ks) Q X G 0 0 0 L []) : kX10_children d kc ks as G Q X := Ctr.of (by decide +kernel) rfl rfl hL hlen g
theorem c_children {G : gG} {ds : Nat → Tr} {cl : Tr} {at_ : Nat} {ss : List Int32} {ps : List (List OpT)} {qs : List (List (Int32 × Int32))} (hS : St G.1 G.2.1 G.2.2 ds cl at_ ss ps qs) (hs : sml (ds at_)) :
    kX10_children 3 0 0 [.ref (G.2.1 0)] G (ans G (fun w => w = .int (nI (wd (pT (ds at_) ss))))) noX := by
  obtain ⟨⟨⟨cla, a1, a2⟩, a3, a4, a5⟩, ⟨b1, b2, b3, b4⟩, ⟨c1, c2, c3⟩, ⟨d1, d2, d3, d4⟩, f9⟩ := id hS
  have l0 : gL G (G.2.1 0) (.inl (10, _)) := Or.inr ⟨0, rfl, a1⟩
  have l2 : gL G (G.2.1 2) (.inl (5, _)) := Or.inr ⟨2, rfl, a4.2.1⟩
  refine oX10_children (L := [some (.ref (G.2.1 0)), none, none, none, none, none, none, none, none, none, none, none]) rfl (Nat.le_of_ble_eq_true rfl) ?_
  refine GW.aload0 dX10_children_0 (g := ?_)
  refine GW.callV0 cv_X10_97 mt_X10_pointed (c_pointed a1 a3 a4 a5 hs) dX10_children_1 (by assumption) rfl rfl rfl rfl (by first | (dsimp only [mX10_children, gM.dp, gM.kc, gM.ks]; omega) | exact Nat.le_of_ble_eq_true rfl | exact Nat.le_refl _ | omega) (by decide) (by first | (dsimp only [mX10_children, gM.dp, gM.kc, gM.ks]; omega) | exact Nat.le_of_ble_eq_true rfl | exact Nat.le_refl _ | omega) (by first | (dsimp only [mX10_children, gM.dp, gM.kc, gM.ks]; omega) | exact Nat.le_of_ble_eq_true rfl | exact Nat.le_refl _ | omega) (by first | exact Nat.le_of_ble_eq_true rfl | (simp [va_rf_cat]; done) | (simp [va_rf_cat, Value.category]; done)) rfl (fun _ _ h => h.elim) (fun v1 G1 hq => ?_)
  obtain ⟨a, rfl, rfl, hv⟩ := hq
  obtain ⟨kr, pq, hnd, -, -⟩ := hv.node
  have hnd : gL G a (.inl (8, _)) := Or.inl hnd
  refine GW.callV0 cv_X10_170 mt_X8_width (c_width hv) dX10_children_4 (by assumption) rfl rfl rfl rfl (by first | (dsimp only [mX10_children, gM.dp, gM.kc, gM.ks]; omega) | exact Nat.le_of_ble_eq_true rfl | exact Nat.le_refl _ | omega) (by decide) (by first | (dsimp only [mX10_children, gM.dp, gM.kc, gM.ks]; omega) | exact Nat.le_of_ble_eq_true rfl | exact Nat.le_refl _ | omega) (by first | (dsimp only [mX10_children, gM.dp, gM.kc, gM.ks]; omega) | exact Nat.le_of_ble_eq_true rfl | exact Nat.le_refl _ | omega) (by first | exact Nat.le_of_ble_eq_true rfl | (simp [va_rf_cat]; done) | (simp [va_rf_cat, Value.category]; done)) rfl (fun _ _ h => h.elim) (fun v4 G4 hq => ?_)
  obtain ⟨w, rfl, rfl, rfl⟩ := hq
  refine GW.ireturn dX10_children_7 (Or.inl rfl) (by first | (dsimp only [mX10_children, gM.dp, gM.kc, gM.ks]; omega) | exact Nat.le_of_ble_eq_true rfl | exact Nat.le_refl _ | omega) (by first | (dsimp only [mX10_children, gM.dp, gM.kc, gM.ks]; omega) | exact Nat.le_of_ble_eq_true rfl | exact Nat.le_refl _ | omega) ?_
  exact ⟨_, rfl, rfl, rfl⟩
abbrev mX10_size (d kc ks : Nat) : gM := (RX10, cX10_size, 2, (some .int), [], "size", d, kc, ks)
abbrev kX10_size (d kc ks : Nat) (as : List Value) (G : gG) (Q : Option Value → gG → Prop) (X : String → gG → Prop) : Prop := Ctr yX10_size cX10_size 2 (some .int) d kc ks as G Q X
theorem oX10_size {d kc ks : Nat} {as : List Value} {G : gG} {Q : Option Value → gG → Prop} {X : String → gG → Prop} {L : List (Option Value)} (hL : gEnt as = L) (hlen : (lg_sl as).length ≤ 2) (g : GW (mX10_size d kc ks) Q X G 0 0 0 L []) : kX10_size d kc ks as G Q X := Ctr.of (by decide +kernel) rfl rfl hL hlen g
theorem c_size {G : gG} {ds : Nat → Tr} {cl : Tr} {at_ : Nat} {ss : List Int32} {ps : List (List OpT)} {qs : List (List (Int32 × Int32))} {i : Nat} (hS : St G.1 G.2.1 G.2.2 ds cl at_ ss ps qs) (hi : i < 6) :
    kX10_size 1 0 0 [.ref (G.2.1 0), .int (nI i)] G (ans G (fun w => w = .int (nI (szT (ds i))))) noX := by
  obtain ⟨⟨⟨cla, a1, a2⟩, a3, a4, a5⟩, ⟨b1, b2, b3, b4⟩, ⟨c1, c2, c3⟩, ⟨d1, d2, d3, d4⟩, f9⟩ := id hS
  have l0 : gL G (G.2.1 0) (.inl (10, _)) := Or.inr ⟨0, rfl, a1⟩
  have l2 : gL G (G.2.1 2) (.inl (5, _)) := Or.inr ⟨2, rfl, a4.2.1⟩
  refine oX10_size (L := [some (.ref (G.2.1 0)), some (.int (nI i)), none, none, none, none, none, none, none, none, none, none]) rfl (Nat.le_of_ble_eq_true rfl) ?_
  refine GW.aload0 dX10_size_0 (g := ?_)
  refine GW.iload1 dX10_size_1 ?_
  refine GW.callV0 cv_X10_85 mt_X10_wholeOf (c_wholeOf a1 a3 hi) dX10_size_2 (by assumption) rfl rfl rfl rfl (by first | (dsimp only [mX10_size, gM.dp, gM.kc, gM.ks]; omega) | exact Nat.le_of_ble_eq_true rfl | exact Nat.le_refl _ | omega) (by decide) (by first | (dsimp only [mX10_size, gM.dp, gM.kc, gM.ks]; omega) | exact Nat.le_of_ble_eq_true rfl | exact Nat.le_refl _ | omega) (by first | (dsimp only [mX10_size, gM.dp, gM.kc, gM.ks]; omega) | exact Nat.le_of_ble_eq_true rfl | exact Nat.le_refl _ | omega) (by first | exact Nat.le_of_ble_eq_true rfl | (simp [va_rf_cat]; done) | (simp [va_rf_cat, Value.category]; done)) rfl (fun _ _ h => h.elim) (fun v2 G2 hq => ?_)
  obtain ⟨a, rfl, rfl, hv⟩ := hq
  obtain ⟨kr, pq, hnd, -, -⟩ := hv.node
  have hnd : gL G a (.inl (8, _)) := Or.inl hnd
  refine GW.getf fl_X10_145 dX10_size_5 (by assumption) (by rfl) ?_
  refine GW.ireturn dX10_size_8 (Or.inl rfl) (by first | (dsimp only [mX10_size, gM.dp, gM.kc, gM.ks]; omega) | exact Nat.le_of_ble_eq_true rfl | exact Nat.le_refl _ | omega) (by first | (dsimp only [mX10_size, gM.dp, gM.kc, gM.ks]; omega) | exact Nat.le_of_ble_eq_true rfl | exact Nat.le_refl _ | omega) ?_
  exact ⟨_, rfl, rfl, rfl⟩
abbrev mX10_depth (d kc ks : Nat) : gM := (RX10, cX10_depth, 2, (some .int), [], "depth", d, kc, ks)
abbrev kX10_depth (d kc ks : Nat) (as : List Value) (G : gG) (Q : Option Value → gG → Prop) (X : String → gG → Prop) : Prop := Ctr yX10_depth cX10_depth 2 (some .int) d kc ks as G Q X
theorem oX10_depth {d kc ks : Nat} {as : List Value} {G : gG} {Q : Option Value → gG → Prop} {X : String → gG → Prop} {L : List (Option Value)} (hL : gEnt as = L) (hlen : (lg_sl as).length ≤ 2) (g : GW (mX10_depth d kc ks) Q X G 0 0 0 L []) : kX10_depth d kc ks as G Q X := Ctr.of (by decide +kernel) rfl rfl hL hlen g
theorem c_depth {G : gG} {ds : Nat → Tr} {cl : Tr} {at_ : Nat} {ss : List Int32} {ps : List (List OpT)} {qs : List (List (Int32 × Int32))} {i : Nat} (hS : St G.1 G.2.1 G.2.2 ds cl at_ ss ps qs) (hi : i < 6) :
    kX10_depth 1 0 0 [.ref (G.2.1 0), .int (nI i)] G (ans G (fun w => w = .int (nI (dpT (ds i))))) noX := by
  obtain ⟨⟨⟨cla, a1, a2⟩, a3, a4, a5⟩, ⟨b1, b2, b3, b4⟩, ⟨c1, c2, c3⟩, ⟨d1, d2, d3, d4⟩, f9⟩ := id hS
  have l0 : gL G (G.2.1 0) (.inl (10, _)) := Or.inr ⟨0, rfl, a1⟩
  have l2 : gL G (G.2.1 2) (.inl (5, _)) := Or.inr ⟨2, rfl, a4.2.1⟩
  refine oX10_depth (L := [some (.ref (G.2.1 0)), some (.int (nI i)), none, none, none, none, none, none, none, none, none, none]) rfl (Nat.le_of_ble_eq_true rfl) ?_
  refine GW.aload0 dX10_depth_0 (g := ?_)
  refine GW.iload1 dX10_depth_1 ?_
  refine GW.callV0 cv_X10_85 mt_X10_wholeOf (c_wholeOf a1 a3 hi) dX10_depth_2 (by assumption) rfl rfl rfl rfl (by first | (dsimp only [mX10_depth, gM.dp, gM.kc, gM.ks]; omega) | exact Nat.le_of_ble_eq_true rfl | exact Nat.le_refl _ | omega) (by decide) (by first | (dsimp only [mX10_depth, gM.dp, gM.kc, gM.ks]; omega) | exact Nat.le_of_ble_eq_true rfl | exact Nat.le_refl _ | omega) (by first | (dsimp only [mX10_depth, gM.dp, gM.kc, gM.ks]; omega) | exact Nat.le_of_ble_eq_true rfl | exact Nat.le_refl _ | omega) (by first | exact Nat.le_of_ble_eq_true rfl | (simp [va_rf_cat]; done) | (simp [va_rf_cat, Value.category]; done)) rfl (fun _ _ h => h.elim) (fun v2 G2 hq => ?_)
  obtain ⟨a, rfl, rfl, hv⟩ := hq
  obtain ⟨kr, pq, hnd, -, -⟩ := hv.node
  have hnd : gL G a (.inl (8, _)) := Or.inl hnd
  refine GW.getf fl_X10_179 dX10_depth_5 (by assumption) (by rfl) ?_
  refine GW.ireturn dX10_depth_8 (Or.inl rfl) (by first | (dsimp only [mX10_depth, gM.dp, gM.kc, gM.ks]; omega) | exact Nat.le_of_ble_eq_true rfl | exact Nat.le_refl _ | omega) (by first | (dsimp only [mX10_depth, gM.dp, gM.kc, gM.ks]; omega) | exact Nat.le_of_ble_eq_true rfl | exact Nat.le_refl _ | omega) ?_
  exact ⟨_, rfl, rfl, rfl⟩
abbrev mX10_operations (d kc ks : Nat) : gM := (RX10, cX10_operations, 2, (some .int), [], "operations", d, kc, ks)
abbrev kX10_operations (d kc ks : Nat) (as : List Value) (G : gG) (Q : Option Value → gG → Prop) (X : String → gG → Prop) : Prop := Ctr yX10_operations cX10_operations 2 (some .int) d kc ks as G Q X
theorem oX10_operations {d kc ks : Nat} {as : List Value} {G : gG} {Q : Option Value → gG → Prop} {X : String → gG → Prop} {L : List (Option Value)} (hL : gEnt as = L) (hlen : (lg_sl as).length ≤ 2) (g : GW (mX10_operations d kc ks) Q X G 0 0 0 L []) : kX10_operations d kc ks as G Q X := Ctr.of (by decide +kernel) rfl rfl hL hlen g
theorem c_operations {G : gG} {ds : Nat → Tr} {cl : Tr} {at_ : Nat} {ss : List Int32} {ps : List (List OpT)} {qs : List (List (Int32 × Int32))} {i : Nat} {os : List OpT} (hS : St G.1 G.2.1 G.2.2 ds cl at_ ss ps qs) (hi : ps[i]? = some os) :
    kX10_operations 1 0 0 [.ref (G.2.1 0), .int (nI i)] G (ans G (fun w => w = .int (nI os.length))) noX := by
  obtain ⟨⟨⟨cla, a1, a2⟩, a3, a4, a5⟩, ⟨b1, b2, b3, b4⟩, ⟨c1, c2, c3⟩, ⟨d1, d2, d3, d4⟩, f9⟩ := id hS
  have l0 : gL G (G.2.1 0) (.inl (10, _)) := Or.inr ⟨0, rfl, a1⟩
  have l2 : gL G (G.2.1 2) (.inl (5, _)) := Or.inr ⟨2, rfl, a4.2.1⟩
  refine oX10_operations (L := [some (.ref (G.2.1 0)), some (.int (nI i)), none, none, none, none, none, none, none, none, none, none]) rfl (Nat.le_of_ble_eq_true rfl) ?_
  have hil : i < ps.length := (List.getElem?_eq_some_iff.mp hi).1
  have l30 : gL G (G.2.1 (30 + i)) (.inl (4, _)) := Or.inr ⟨30 + i, rfl, (b4 i os hi).2.1⟩
  refine GW.aload0 dX10_operations_0 (g := ?_)
  refine GW.iload1 dX10_operations_1 ?_
  refine GW.callV0 cv_X10_185 mt_X10_patchOf (c_patchOf a1 b1 hil b2) dX10_operations_2 (by assumption) rfl rfl rfl rfl (by first | (dsimp only [mX10_operations, gM.dp, gM.kc, gM.ks]; omega) | exact Nat.le_of_ble_eq_true rfl | exact Nat.le_refl _ | omega) (by decide) (by first | (dsimp only [mX10_operations, gM.dp, gM.kc, gM.ks]; omega) | exact Nat.le_of_ble_eq_true rfl | exact Nat.le_refl _ | omega) (by first | (dsimp only [mX10_operations, gM.dp, gM.kc, gM.ks]; omega) | exact Nat.le_of_ble_eq_true rfl | exact Nat.le_refl _ | omega) (by first | exact Nat.le_of_ble_eq_true rfl | (simp [va_rf_cat]; done) | (simp [va_rf_cat, Value.category]; done)) rfl (fun _ _ h => h.elim) (fun v2 G2 hq => ?_)
  obtain ⟨rfl, rfl⟩ := hq
  refine GW.getf fl_X10_191 dX10_operations_5 (by assumption) (by rfl) ?_
  refine GW.ireturn dX10_operations_8 (Or.inl rfl) (by first | (dsimp only [mX10_operations, gM.dp, gM.kc, gM.ks]; omega) | exact Nat.le_of_ble_eq_true rfl | exact Nat.le_refl _ | omega) (by first | (dsimp only [mX10_operations, gM.dp, gM.kc, gM.ks]; omega) | exact Nat.le_of_ble_eq_true rfl | exact Nat.le_refl _ | omega) ?_
  exact ⟨_, rfl, rfl, rfl⟩
abbrev mX10_stepAt (d kc ks : Nat) : gM := (RX10, cX10_stepAt, 2, (some .int), [], "stepAt", d, kc, ks)
abbrev kX10_stepAt (d kc ks : Nat) (as : List Value) (G : gG) (Q : Option Value → gG → Prop) (X : String → gG → Prop) : Prop := Ctr yX10_stepAt cX10_stepAt 2 (some .int) d kc ks as G Q X
theorem oX10_stepAt {d kc ks : Nat} {as : List Value} {G : gG} {Q : Option Value → gG → Prop} {X : String → gG → Prop} {L : List (Option Value)} (hL : gEnt as = L) (hlen : (lg_sl as).length ≤ 2) (g : GW (mX10_stepAt d kc ks) Q X G 0 0 0 L []) : kX10_stepAt d kc ks as G Q X := Ctr.of (by decide +kernel) rfl rfl hL hlen g
theorem c_stepAt {G : gG} {ds : Nat → Tr} {cl : Tr} {at_ : Nat} {ss : List Int32} {ps : List (List OpT)} {qs : List (List (Int32 × Int32))} {i : Nat} {s : Int32} (hS : St G.1 G.2.1 G.2.2 ds cl at_ ss ps qs) (hi : ss[i]? = some s) :
    kX10_stepAt 0 0 0 [.ref (G.2.1 0), .int (nI i)] G (ans G (fun w => w = .int s)) noX := by
  obtain ⟨⟨⟨cla, a1, a2⟩, a3, a4, a5⟩, ⟨b1, b2, b3, b4⟩, ⟨c1, c2, c3⟩, ⟨d1, d2, d3, d4⟩, f9⟩ := id hS
  obtain ⟨hl6, h2a, f, h3, hss⟩ := id a4
  have hil : i < ss.length := (List.getElem?_eq_some_iff.mp hi).1
  have hfs : f i = s := by
    rw [hss, stps_get f _ i hil] at hi
    exact Option.some.inj hi
  have l0 : gL G (G.2.1 0) (.inl (10, _)) := Or.inr ⟨0, rfl, a1⟩
  have l2 : gL G (G.2.1 2) (.inl (5, _)) := Or.inr ⟨2, rfl, h2a⟩
  have l3 : gL G (G.2.1 3) (.inr (0, 6, .inl f)) := Or.inr ⟨3, rfl, h3⟩
  have hix : gIx (nI i) i 6 := mI_ix (by omega) (by omega)
  refine oX10_stepAt (L := [some (.ref (G.2.1 0)), some (.int (nI i)), none, none, none, none, none, none, none, none, none, none]) rfl (Nat.le_of_ble_eq_true rfl) ?_
  refine GW.iload1 dX10_stepAt_0 ?_
  refine GW.if_lt (tgt := 27) dX10_stepAt_1 (by decide) (fun h1 => ?_) (fun h1 => ?_)
  · exact absurd h1 (mI_nonneg (by omega))
  · refine GW.iload1 dX10_stepAt_4 ?_
    refine GW.aload0 dX10_stepAt_5 (g := ?_)
    refine GW.getf fl_X10_25 dX10_stepAt_6 (by assumption) (by rfl) ?_
    refine GW.getf fl_X10_128 dX10_stepAt_9 (by assumption) (by rfl) ?_
    refine GW.icmp_ge (tgt := 27) dX10_stepAt_12 (by decide) (fun h12 => ?_) (fun h12 => ?_)
    · exact absurd ((mI_le (by omega) (by omega)).mp h12) (by omega)
    · refine GW.iload1 dX10_stepAt_15 ?_
      refine GW.aload0 dX10_stepAt_16 (g := ?_)
      refine GW.getf fl_X10_25 dX10_stepAt_17 (by assumption) (by rfl) ?_
      refine GW.getf fl_X10_134 dX10_stepAt_20 (by assumption) (by rfl) ?_
      refine GW.alen dX10_stepAt_23 (by assumption) (by decide) rfl ?_
      refine GW.icmp_lt (tgt := 37) dX10_stepAt_24 (by decide) (fun h24 => ?_) (fun h24 => ?_)
      · refine GW.aload0 dX10_stepAt_37 (g := ?_)
        refine GW.getf fl_X10_25 dX10_stepAt_38 (by assumption) (by rfl) ?_
        refine GW.getf fl_X10_134 dX10_stepAt_41 (by assumption) (by rfl) ?_
        refine GW.iload1 dX10_stepAt_44 ?_
        refine GW.iald dX10_stepAt_45 (by assumption) (by assumption) ?_
        rw [hfs]
        refine GW.ireturn dX10_stepAt_46 (Or.inl rfl) (by first | (dsimp only [mX10_stepAt, gM.dp, gM.kc, gM.ks]; omega) | exact Nat.le_of_ble_eq_true rfl | exact Nat.le_refl _ | omega) (by first | (dsimp only [mX10_stepAt, gM.dp, gM.kc, gM.ks]; omega) | exact Nat.le_of_ble_eq_true rfl | exact Nat.le_refl _ | omega) ?_
        exact ⟨_, rfl, rfl, rfl⟩
      · exact absurd ((mI_lt (b := 6) (by omega) (by omega)).mpr (by omega)) h24
abbrev mX10_childStep (d kc ks : Nat) : gM := (RX10, cX10_childStep, 3, (some .int), [], "childStep", d, kc, ks)
abbrev kX10_childStep (d kc ks : Nat) (as : List Value) (G : gG) (Q : Option Value → gG → Prop) (X : String → gG → Prop) : Prop := Ctr yX10_childStep cX10_childStep 3 (some .int) d kc ks as G Q X
theorem oX10_childStep {d kc ks : Nat} {as : List Value} {G : gG} {Q : Option Value → gG → Prop} {X : String → gG → Prop} {L : List (Option Value)} (hL : gEnt as = L) (hlen : (lg_sl as).length ≤ 3) (g : GW (mX10_childStep d kc ks) Q X G 0 0 0 L []) : kX10_childStep d kc ks as G Q X := Ctr.of (by decide +kernel) rfl rfl hL hlen g
theorem c_childStep {G : gG} {ds : Nat → Tr} {cl : Tr} {at_ : Nat} {ss : List Int32} {ps : List (List OpT)} {qs : List (List (Int32 × Int32))} {i : Nat} (hS : St G.1 G.2.1 G.2.2 ds cl at_ ss ps qs) (hs : sml (ds at_)) (hp : sml (pT (ds at_) ss)) (hi : i < 2 ^ 31) :
    kX10_childStep 6 1 6 [.ref (G.2.1 0), .int (nI i)] G (fun v G' => i < wd (pT (ds at_) ss) ∧ v = some (.int (stepT (pT (ds at_) ss) (nI i))) ∧ G = G') (fun E G' => wd (pT (ds at_) ss) ≤ i ∧ E = xI ∧ G = G') := by
  obtain ⟨⟨⟨cla, a1, a2⟩, a3, a4, a5⟩, ⟨b1, b2, b3, b4⟩, ⟨c1, c2, c3⟩, ⟨d1, d2, d3, d4⟩, f9⟩ := id hS
  have l0 : gL G (G.2.1 0) (.inl (10, _)) := Or.inr ⟨0, rfl, a1⟩
  have hw := hp.wd
  refine oX10_childStep (L := [some (.ref (G.2.1 0)), some (.int (nI i)), none, none, none, none, none, none, none, none, none, none]) rfl (Nat.le_of_ble_eq_true rfl) ?_
  refine GW.aload0 dX10_childStep_0 (g := ?_)
  refine GW.callV cv_X10_97 mt_X10_pointed (c_pointed a1 a3 a4 a5 hs) dX10_childStep_1 (by assumption) rfl rfl rfl rfl (by first | (dsimp only [mX10_childStep, gM.dp, gM.kc, gM.ks]; omega) | exact Nat.le_of_ble_eq_true rfl | exact Nat.le_refl _ | omega) (by decide) (by first | omega | (dsimp only [mX10_childStep, gM.dp, gM.kc, gM.ks]; omega)) (by first | omega | (dsimp only [mX10_childStep, gM.dp, gM.kc, gM.ks]; omega)) (by first | exact Nat.le_of_ble_eq_true rfl | (simp [va_rf_cat]; done) | (simp [va_rf_cat, Value.category]; done)) rfl (fun _ _ h => h.elim) (fun v1 G1 hq => ?_)
  obtain ⟨a, rfl, rfl, hv⟩ := hq
  obtain ⟨kr, pq, hnd, -, -⟩ := hv.node
  have hnd : gL G a (.inl (8, _)) := Or.inl hnd
  refine GW.astore2 dX10_childStep_4 (g := ?_)
  refine GW.iload1 dX10_childStep_5 ?_
  refine GW.if_lt (tgt := 17) dX10_childStep_6 (by decide) (fun h6 => ?_) (fun h6 => ?_)
  · exact absurd h6 (mI_nonneg hi)
  · refine GW.iload1 dX10_childStep_9 ?_
    refine GW.aload2 dX10_childStep_10 (g := ?_)
    refine GW.callV cv_X10_170 mt_X8_width (c_width hv) dX10_childStep_11 (by assumption) rfl rfl rfl rfl (by first | (dsimp only [mX10_childStep, gM.dp, gM.kc, gM.ks]; omega) | exact Nat.le_of_ble_eq_true rfl | exact Nat.le_refl _ | omega) (by decide) (by first | omega | (dsimp only [mX10_childStep, gM.dp, gM.kc, gM.ks]; omega)) (by first | omega | (dsimp only [mX10_childStep, gM.dp, gM.kc, gM.ks]; omega)) (by first | exact Nat.le_of_ble_eq_true rfl | (simp [va_rf_cat]; done) | (simp [va_rf_cat, Value.category]; done)) rfl (fun _ _ h => h.elim) (fun v11 G11 hq => ?_)
    obtain ⟨w, rfl, rfl, rfl⟩ := hq
    refine GW.icmp_lt (tgt := 27) dX10_childStep_14 (by decide) (fun h14 => ?_) (fun h14 => ?_)
    · have h14 := (mI_lt hi (by omega)).mp h14
      refine GW.aload2 dX10_childStep_27 (g := ?_)
      refine GW.iload1 dX10_childStep_28 ?_
      refine GW.callV cv_X10_176 mt_X8_stepOf (c_stepOf hv hp (nI i)) dX10_childStep_29 (by assumption) rfl rfl rfl rfl (by first | (dsimp only [mX10_childStep, gM.dp, gM.kc, gM.ks]; omega) | exact Nat.le_of_ble_eq_true rfl | exact Nat.le_refl _ | omega) (by decide) (by first | omega | (dsimp only [mX10_childStep, gM.dp, gM.kc, gM.ks]; omega)) (by first | omega | (dsimp only [mX10_childStep, gM.dp, gM.kc, gM.ks]; omega)) (by first | exact Nat.le_of_ble_eq_true rfl | (simp [va_rf_cat]; done) | (simp [va_rf_cat, Value.category]; done)) rfl (fun _ _ h => h.elim) (fun v29 G29 hq => ?_)
      obtain ⟨w, rfl, rfl, rfl⟩ := hq
      refine GW.ireturn dX10_childStep_32 (Or.inl rfl) (by first | (dsimp only [mX10_childStep, gM.dp, gM.kc, gM.ks]; omega) | exact Nat.le_of_ble_eq_true rfl | exact Nat.le_refl _ | omega) (by first | (dsimp only [mX10_childStep, gM.dp, gM.kc, gM.ks]; omega) | exact Nat.le_of_ble_eq_true rfl | exact Nat.le_refl _ | omega) ?_
      exact ⟨h14, rfl, rfl⟩
    · have h14 : wd (pT (ds at_) ss) ≤ i := by
        rcases Nat.lt_or_ge i (wd (pT (ds at_) ss)) with q | q
        · exact absurd ((mI_lt hi (by omega)).mpr q) h14
        · exact q
      exact GW.throwL (cls := xI) (text := "there is no such place") rfl (by decide +kernel) kI nIx exI (by decide) dX10_childStep_17 dX10_childStep_20 dX10_childStep_21 dX10_childStep_23 dX10_childStep_26 rfl (Nat.le_refl _) (Nat.le_refl _) (Nat.le_refl _) (Nat.le_of_ble_eq_true rfl) ⟨h14, rfl, rfl⟩
abbrev mX10_failsAt (d kc ks : Nat) : gM := (RX10, cX10_failsAt, 4, (some .int), [], "failsAt", d, kc, ks)
abbrev kX10_failsAt (d kc ks : Nat) (as : List Value) (G : gG) (Q : Option Value → gG → Prop) (X : String → gG → Prop) : Prop := Ctr yX10_failsAt cX10_failsAt 4 (some .int) d kc ks as G Q X
theorem oX10_failsAt {d kc ks : Nat} {as : List Value} {G : gG} {Q : Option Value → gG → Prop} {X : String → gG → Prop} {L : List (Option Value)} (hL : gEnt as = L) (hlen : (lg_sl as).length ≤ 4) (g : GW (mX10_failsAt d kc ks) Q X G 0 0 0 L []) : kX10_failsAt d kc ks as G Q X := Ctr.of (by decide +kernel) rfl rfl hL hlen g
theorem c_failsAt {G : gG} {ds : Nat → Tr} {cl : Tr} {at_ : Nat} {ss : List Int32} {ps : List (List OpT)} {qs : List (List (Int32 × Int32))} {i d S : Nat} {os : List OpT} (hS : St G.1 G.2.1 G.2.2 ds cl at_ ss ps qs) (hi : ps[i]? = some os) (hd : d < 6) (hok : ∀ o ∈ os, opOk o) (hsz : szT (ds d) + sumSz os ≤ S) (hSb : S < 2 ^ 17) :
    kX10_failsAt 7 300 (20 * (3 * S + 44)) [.ref (G.2.1 0), .int (nI i), .int (nI d)] G (fun v G' => ∃ im' mc', v = some (.int (tryV os (ds d))) ∧ gLe G.1 im' ∧ (im', G.2.1, mc') = G' ∧ St im' G.2.1 mc' ds cl at_ ss ps qs) noX := by
  obtain ⟨im, ad, mc⟩ := G
  obtain ⟨⟨⟨cla, a1, a2⟩, a3, a4, a5⟩, ⟨b1, b2, b3, b4⟩, ⟨c1, c2, c3⟩, ⟨d1, d2, d3, d4⟩, f9⟩ := id hS
  obtain ⟨w0, tk0, len0, pr0, pl0, hed⟩ := id d1
  obtain ⟨tr0, h8⟩ := id d2
  have hil : i < ps.length := (List.getElem?_eq_some_iff.mp hi).1
  have b2 : ps.length ≤ 8 := b2
  have l0 : gL (im, ad, mc) (ad 0) (.inl (10, _)) := Or.inr ⟨0, rfl, a1⟩
  refine oX10_failsAt (L := [some (.ref (ad 0)), some (.int (nI i)), some (.int (nI d)), none, none, none, none, none, none, none, none, none]) rfl (Nat.le_of_ble_eq_true rfl) ?_
  generalize hQ : (fun (v : Option Value) (G' : gG) => ∃ im' mc', v = some (.int (tryV os (ds d))) ∧ gLe (im, ad, mc).1 im' ∧ (im', (im, ad, mc).2.1, mc') = G' ∧ St im' (im, ad, mc).2.1 mc' ds cl at_ ss ps qs) = Q
  refine GW.aload0 dX10_failsAt_0 (g := ?_)
  refine GW.iload1 dX10_failsAt_1 ?_
  refine GW.callV cv_X10_185 mt_X10_patchOf (c_patchOf (G := (im, ad, mc)) a1 b1 hil b2) dX10_failsAt_2 (by assumption) rfl rfl rfl rfl (by first | (dsimp only [mX10_failsAt, gM.dp, gM.kc, gM.ks]; omega) | exact Nat.le_of_ble_eq_true rfl | exact Nat.le_refl _ | omega) (by decide) (by first | omega | (dsimp only [mX10_failsAt, gM.dp, gM.kc, gM.ks]; omega)) (by first | omega | (dsimp only [mX10_failsAt, gM.dp, gM.kc, gM.ks]; omega)) (by first | exact Nat.le_of_ble_eq_true rfl | (simp [va_rf_cat]; done) | (simp [va_rf_cat, Value.category]; done)) rfl (fun _ _ h => h.elim) (fun v2 G2 hq => ?_)
  obtain ⟨rfl, rfl⟩ := hq
  refine GW.astore3 dX10_failsAt_5 (g := ?_)
  refine GW.aload0 dX10_failsAt_6 (g := ?_)
  refine GW.aload3 dX10_failsAt_7 (g := ?_)
  refine GW.aload0 dX10_failsAt_8 (g := ?_)
  refine GW.iload2 dX10_failsAt_9 ?_
  refine GW.callV cv_X10_85 mt_X10_wholeOf (c_wholeOf (G := (im, ad, mc)) a1 a3 hd) dX10_failsAt_10 (by assumption) rfl rfl rfl rfl (by first | (dsimp only [mX10_failsAt, gM.dp, gM.kc, gM.ks]; omega) | exact Nat.le_of_ble_eq_true rfl | exact Nat.le_refl _ | omega) (by decide) (by first | omega | (dsimp only [mX10_failsAt, gM.dp, gM.kc, gM.ks]; omega)) (by first | omega | (dsimp only [mX10_failsAt, gM.dp, gM.kc, gM.ks]; omega)) (by first | exact Nat.le_of_ble_eq_true rfl | (simp [va_rf_cat]; done) | (simp [va_rf_cat, Value.category]; done)) rfl (fun _ _ h => h.elim) (fun v10 G10 hq => ?_)
  obtain ⟨a, rfl, rfl, hv⟩ := hq
  refine GW.callV cv_X10_209 mt_X10_tryOut (c_tryOut (G := (im, ad, mc)) f9 a1 hed h8 (b4 i os hi) (by omega) hok hv hsz hSb) dX10_failsAt_13 (by assumption) rfl rfl rfl rfl (by first | (dsimp only [mX10_failsAt, gM.dp, gM.kc, gM.ks]; omega) | exact Nat.le_of_ble_eq_true rfl | exact Nat.le_refl _ | omega) (by decide) (by first | omega | (dsimp only [mX10_failsAt, gM.dp, gM.kc, gM.ks]; omega)) (by first | omega | (dsimp only [mX10_failsAt, gM.dp, gM.kc, gM.ks]; omega)) (by first | exact Nat.le_of_ble_eq_true rfl | (simp [va_rf_cat]; done) | (simp [va_rf_cat, Value.category]; done)) rfl (fun _ _ h => h.elim) (fun v13 G13 hq => ?_)
  obtain ⟨im', mc', w', t', tk, len, pr, pl, rfl, hle, rfl, hfr, hed', hv', htk, -⟩ := hq
  refine GW.ireturn dX10_failsAt_16 (Or.inl rfl) (by first | (dsimp only [mX10_failsAt, gM.dp, gM.kc, gM.ks]; omega) | exact Nat.le_of_ble_eq_true rfl | exact Nat.le_refl _ | omega) (by first | (dsimp only [mX10_failsAt, gM.dp, gM.kc, gM.ks]; omega) | exact Nat.le_of_ble_eq_true rfl | exact Nat.le_refl _ | omega) ?_
  subst hQ
  refine ⟨im', mc', rfl, hle, rfl, St.scr hS hle (fun q hq => hfr q ?_ ?_ ?_ ?_) ⟨_, _, _, _, _, hed'⟩ htk (d3.mono (hfr 9 (by omega) (by omega) (by omega) (by omega)) (hfr 10 (by omega) (by omega) (by omega) (by omega)) (hfr 11 (by omega) (by omega) (by omega) (by omega)) (hfr 12 (by omega) (by omega) (by omega) (by omega))) (d4.mono fun q h1 h2 => hfr q (by omega) (by omega) (by omega) (by omega))⟩ <;> (unfold scr at hq; omega)
