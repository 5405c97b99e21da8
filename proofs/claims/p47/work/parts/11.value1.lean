/-! VALUE, what only reads: width, partAt, stepOf, placeOf, placeToAdd -/
def partsAt (im : gIm) (pr : Option Nat) (ch : Fo) : Prop := match pr with
  | none => kids ch = []
  | some pa => ∃ r', im pa = some (.inr (1, (kids ch).length, .inr r')) ∧ ∀ (j : Nat) (x : Int32 × Tr), (kids ch)[j]? = some x → ∃ b, r' j = some b ∧ isV im b x.2
theorem isV.node {im : gIm} {a : Nat} {t : Tr} (h : isV im a t) : ∃ kr pr, im a = some (.inl (8, [.int t.1, .int t.2.1, va_rf kr, va_rf pr, .int (nI (szT t)), .int (nI (dpT t))])) ∧ keysAt im kr t.1 t.2.2 ∧ partsAt im pr t.2.2 := by
  obtain ⟨kr, pr, h1, h2, h3⟩ := h
  refine ⟨kr, pr, h1, h2, ?_⟩
  rcases h3 with ⟨rfl, h⟩ | ⟨pa, r', rfl, h4, h5⟩
  · exact h
  · refine ⟨r', h4, fun j x hj => ?_⟩
    have := (isF_iff im r' t.2.2 0).mp h5 j x hj
    simpa using this
theorem isV.of {im : gIm} {a : Nat} {t : Tr} {kr pr : Option Nat} (h1 : im a = some (.inl (8, [.int t.1, .int t.2.1, va_rf kr, va_rf pr, .int (nI (szT t)), .int (nI (dpT t))]))) (h2 : keysAt im kr t.1 t.2.2) (h3 : partsAt im pr t.2.2) : isV im a t := by
  refine ⟨kr, pr, h1, h2, ?_⟩
  cases pr with
  | none => exact Or.inl ⟨rfl, h3⟩
  | some pa =>
    obtain ⟨r', h4, h5⟩ := h3
    exact Or.inr ⟨pa, r', rfl, h4, (isF_iff im r' t.2.2 0).mpr fun j x hj => by simpa using h5 j x hj⟩
/-- how wide, the child at a place, its step, the place of a step -/
def wd (t : Tr) : Nat := (kids t.2.2).length
def kid (t : Tr) (j : Nat) : Option Tr := (kids t.2.2)[j]?.map (·.2)
def partT (t : Tr) (i : Int32) : Option Tr := (pIx i).bind (kid t)
def stepT (t : Tr) (i : Int32) : Int32 := match pIx i with
  | none => i
  | some j => if t.1 = 4 then (match (kids t.2.2)[j]? with
    | some x => x.1
    | none => i) else i
def plc (s : Int32) : List (Int32 × Tr) → Nat → Option Nat
  | [], _ => none
  | x :: xs, j => if x.1 = s then some j else plc s xs (j + 1)
def placeT (t : Tr) (s : Int32) : Option Nat := if t.1 = 4 then plc s (kids t.2.2) 0 else (pIx s).filter (fun j => decide (j < wd t))
/-- no tree here is large -/
def sml (t : Tr) : Prop := szT t < 2 ^ 20
theorem sml.wd {t : Tr} (h : sml t) : wd t < 2 ^ 20 := by
  have := kids_len t.2.2
  unfold sml szT at h
  unfold _root_.Jvm.Pilot.CMarlStoreLaw_law_r1597_55c78a.wd
  omega
theorem sml.kid {t u : Tr} {j : Nat} (h : sml t) (hk : kid t j = some u) : sml u := by
  unfold _root_.Jvm.Pilot.CMarlStoreLaw_law_r1597_55c78a.kid at hk
  cases hx : (kids t.2.2)[j]? with
  | none => rw [hx] at hk; cases hk
  | some x =>
    rw [hx] at hk
    cases hk
    have := kids_lt t.2.2 x (List.mem_of_getElem? hx)
    unfold sml szT at h
    show szT x.2 < _
    omega
theorem plc_lt (s : Int32) : ∀ (xs : List (Int32 × Tr)) (j k : Nat), plc s xs j = some k → j ≤ k ∧ k < j + xs.length
  | [], j, k, h => by cases h
  | x :: xs, j, k, h => by
    rw [plc] at h
    split at h
    · cases h; simp
    · have := plc_lt s xs (j + 1) k h
      simp only [List.length_cons]; omega
theorem placeT_lt {t : Tr} {s : Int32} {j : Nat} (h : placeT t s = some j) : j < wd t := by
  unfold placeT at h
  split at h
  · have := plc_lt s _ 0 j h
    simpa [wd] using this.2
  · rw [Option.filter_eq_some_iff] at h
    simpa using h.2
abbrev mX8_width (d kc ks : Nat) : gM := (RX8, cX8_width, 1, (some .int), [], "width", d, kc, ks)
abbrev kX8_width (d kc ks : Nat) (as : List Value) (G : gG) (Q : Option Value → gG → Prop) (X : String → gG → Prop) : Prop := Ctr yX8_width cX8_width 1 (some .int) d kc ks as G Q X
theorem oX8_width {d kc ks : Nat} {as : List Value} {G : gG} {Q : Option Value → gG → Prop} {X : String → gG → Prop} {L : List (Option Value)} (hL : gEnt as = L) (hlen : (lg_sl as).length ≤ 1) (g : GW (mX8_width d kc ks) Q X G 0 0 0 L []) : kX8_width d kc ks as G Q X := Ctr.of (by decide +kernel) rfl rfl hL hlen g
theorem c_width {G : gG} {a : Nat} {t : Tr} (hv : isV G.1 a t) : kX8_width 0 0 0 [.ref a] G (ans G (fun w => w = .int (nI (wd t)))) noX := by
  obtain ⟨kr, pr, hn, hk, hp⟩ := hv.node
  have hn : gL G a (.inl (8, _)) := Or.inl hn
  refine oX8_width (L := [some (.ref a), none, none, none, none, none, none, none, none, none, none, none]) rfl (Nat.le_of_ble_eq_true rfl) ?_
  refine GW.aload0 dX8_width_0 (g := ?_)
  refine GW.getf fl_X8_22 dX8_width_1 (by assumption) (by rfl) ?_
  refine GW.ifnonnull (tgt := 11) dX8_width_4 (by decide) (fun r4 h4 => ?_) (fun h4 => ?_)
  · subst h4
    obtain ⟨r', hr, -⟩ := hp
    have hr : gL G r4 (.inr (1, _, .inr r')) := Or.inl hr
    refine GW.aload0 dX8_width_11 (g := ?_)
    refine GW.getf fl_X8_22 dX8_width_12 (by assumption) (by rfl) ?_
    refine GW.alen dX8_width_15 (by assumption) (by decide) rfl ?_
    refine GW.ireturn dX8_width_16 (Or.inl rfl) (by first | (dsimp only [mX8_width, gM.dp, gM.kc, gM.ks]; omega) | exact Nat.le_of_ble_eq_true rfl | exact Nat.le_refl _ | omega) (by first | (dsimp only [mX8_width, gM.dp, gM.kc, gM.ks]; omega) | exact Nat.le_of_ble_eq_true rfl | exact Nat.le_refl _ | omega) ?_
    exact ⟨_, rfl, rfl, rfl⟩
  · subst h4
    refine GW.iconst (v := 0) dX8_width_7 (by decide) ?_
    refine GW.goto (tgt := 16) dX8_width_8 (by decide) ?_
    refine GW.ireturn dX8_width_16 (Or.inl rfl) (by first | (dsimp only [mX8_width, gM.dp, gM.kc, gM.ks]; omega) | exact Nat.le_of_ble_eq_true rfl | exact Nat.le_refl _ | omega) (by first | (dsimp only [mX8_width, gM.dp, gM.kc, gM.ks]; omega) | exact Nat.le_of_ble_eq_true rfl | exact Nat.le_refl _ | omega) ?_
    refine ⟨_, rfl, rfl, ?_⟩
    have : kids t.2.2 = [] := hp
    rw [wd, this]
    rfl
abbrev mX8_partAt (d kc ks : Nat) : gM := (RX8, cX8_partAt, 2, (some (.object "MarlStore$Value")), [], "partAt", d, kc, ks)
abbrev kX8_partAt (d kc ks : Nat) (as : List Value) (G : gG) (Q : Option Value → gG → Prop) (X : String → gG → Prop) : Prop := Ctr yX8_partAt cX8_partAt 2 (some (.object "MarlStore$Value")) d kc ks as G Q X
theorem oX8_partAt {d kc ks : Nat} {as : List Value} {G : gG} {Q : Option Value → gG → Prop} {X : String → gG → Prop} {L : List (Option Value)} (hL : gEnt as = L) (hlen : (lg_sl as).length ≤ 2) (g : GW (mX8_partAt d kc ks) Q X G 0 0 0 L []) : kX8_partAt d kc ks as G Q X := Ctr.of (by decide +kernel) rfl rfl hL hlen g
theorem c_partAt {G : gG} {a : Nat} {t : Tr} (hv : isV G.1 a t) (hb : sml t) (i : Int32) : kX8_partAt 0 0 0 [.ref a, .int i] G (fun v G' => ∃ r, v = some (va_rf r) ∧ G = G' ∧ isO G.1 r (partT t i)) noX := by
  have hw := hb.wd
  obtain ⟨kr, pr, hn, hk, hp⟩ := hv.node
  have hn : gL G a (.inl (8, _)) := Or.inl hn
  refine oX8_partAt (L := [some (.ref a), some (.int i), none, none, none, none, none, none, none, none, none, none]) rfl (Nat.le_of_ble_eq_true rfl) ?_
  have out : partT t i = none → GW (mX8_partAt 0 0 0) (fun v G' => ∃ r, v = some (va_rf r) ∧ G = G' ∧ isO G.1 r (partT t i)) noX G 0 0 20 [some (.ref a), some (.int i), none, none, none, none, none, none, none, none, none, none] [] := by
    intro h
    refine GW.null dX8_partAt_20 ?_
    refine GW.areturn dX8_partAt_21 (Or.inl ⟨_, rfl⟩) (by first | (dsimp only [mX8_partAt, gM.dp, gM.kc, gM.ks]; omega) | exact Nat.le_of_ble_eq_true rfl | exact Nat.le_refl _ | omega) (by first | (dsimp only [mX8_partAt, gM.dp, gM.kc, gM.ks]; omega) | exact Nat.le_of_ble_eq_true rfl | exact Nat.le_refl _ | omega) ?_
    exact ⟨none, rfl, rfl, by rw [h]; trivial⟩
  refine GW.aload0 dX8_partAt_0 (g := ?_)
  refine GW.getf fl_X8_22 dX8_partAt_1 (by assumption) (by rfl) ?_
  refine GW.ifnull (tgt := 20) dX8_partAt_4 (by decide) (fun h4 => ?_) (fun r4 h4 => ?_)
  · subst h4
    refine out ?_
    have : kids t.2.2 = [] := hp
    unfold partT kid
    rw [this]
    cases pIx i <;> simp
  · subst h4
    obtain ⟨r', hr, hkid⟩ := hp
    have hr : gL G r4 (.inr (1, wd t, .inr r')) := Or.inl hr
    refine GW.iload1 dX8_partAt_7 ?_
    refine GW.if_lt (tgt := 20) dX8_partAt_8 (by decide) (fun h8 => ?_) (fun h8 => ?_)
    · exact out (by unfold partT; rw [pIx_neg h8]; rfl)
    · rcases i32_cases i with hi | ⟨j, hj, rfl⟩
      · exact absurd hi h8
      · refine GW.iload1 dX8_partAt_11 ?_
        refine GW.aload0 dX8_partAt_12 (g := ?_)
        refine GW.getf fl_X8_22 dX8_partAt_13 (by assumption) (by rfl) ?_
        refine GW.alen dX8_partAt_16 (by assumption) (by decide) rfl ?_
        refine GW.icmp_lt (tgt := 22) dX8_partAt_17 (by decide) (fun h17 => ?_) (fun h17 => ?_)
        · have hjw := (mI_lt hj (by omega)).mp h17
          have hix := mI_ix hjw (by omega)
          refine GW.aload0 dX8_partAt_22 (g := ?_)
          refine GW.getf fl_X8_22 dX8_partAt_23 (by assumption) (by rfl) ?_
          refine GW.iload1 dX8_partAt_26 ?_
          refine GW.aald dX8_partAt_27 (by assumption) (by assumption) (by decide) ?_
          refine GW.areturn dX8_partAt_28 (Or.inl ⟨_, rfl⟩) (by first | (dsimp only [mX8_partAt, gM.dp, gM.kc, gM.ks]; omega) | exact Nat.le_of_ble_eq_true rfl | exact Nat.le_refl _ | omega) (by first | (dsimp only [mX8_partAt, gM.dp, gM.kc, gM.ks]; omega) | exact Nat.le_of_ble_eq_true rfl | exact Nat.le_refl _ | omega) ?_
          refine ⟨_, rfl, rfl, ?_⟩
          obtain ⟨x, hx⟩ : ∃ x, (kids t.2.2)[j]? = some x := ⟨_, List.getElem?_eq_getElem hjw⟩
          obtain ⟨b, h1, h2⟩ := hkid j x hx
          unfold partT kid
          rw [pIx_mI hj, Option.bind_some, hx, h1]
          exact h2
        · refine out ?_
          have hjw : wd t ≤ j := by
            rcases Nat.lt_or_ge j (wd t) with q | q
            · exact absurd ((mI_lt hj (by omega)).mpr q) h17
            · exact q
          unfold partT kid
          rw [pIx_mI hj, Option.bind_some, List.getElem?_eq_none hjw]
          rfl
abbrev mX8_stepOf (d kc ks : Nat) : gM := (RX8, cX8_stepOf, 2, (some .int), [], "stepOf", d, kc, ks)
abbrev kX8_stepOf (d kc ks : Nat) (as : List Value) (G : gG) (Q : Option Value → gG → Prop) (X : String → gG → Prop) : Prop := Ctr yX8_stepOf cX8_stepOf 2 (some .int) d kc ks as G Q X
theorem oX8_stepOf {d kc ks : Nat} {as : List Value} {G : gG} {Q : Option Value → gG → Prop} {X : String → gG → Prop} {L : List (Option Value)} (hL : gEnt as = L) (hlen : (lg_sl as).length ≤ 2) (g : GW (mX8_stepOf d kc ks) Q X G 0 0 0 L []) : kX8_stepOf d kc ks as G Q X := Ctr.of (by decide +kernel) rfl rfl hL hlen g
theorem c_stepOf {G : gG} {a : Nat} {t : Tr} (hv : isV G.1 a t) (hb : sml t) (i : Int32) : kX8_stepOf 0 0 0 [.ref a, .int i] G (ans G (fun w => w = .int (stepT t i))) noX := by
  have hw := hb.wd
  obtain ⟨kr, pr, hn, hk, hp⟩ := hv.node
  have hn : gL G a (.inl (8, _)) := Or.inl hn
  refine oX8_stepOf (L := [some (.ref a), some (.int i), none, none, none, none, none, none, none, none, none, none]) rfl (Nat.le_of_ble_eq_true rfl) ?_
  have out : stepT t i = i → GW (mX8_stepOf 0 0 0) (ans G (fun w => w = .int (stepT t i))) noX G 0 0 20 [some (.ref a), some (.int i), none, none, none, none, none, none, none, none, none, none] [] := by
    intro h
    refine GW.iload1 dX8_stepOf_20 ?_
    refine GW.ireturn dX8_stepOf_21 (Or.inl rfl) (by first | (dsimp only [mX8_stepOf, gM.dp, gM.kc, gM.ks]; omega) | exact Nat.le_of_ble_eq_true rfl | exact Nat.le_refl _ | omega) (by first | (dsimp only [mX8_stepOf, gM.dp, gM.kc, gM.ks]; omega) | exact Nat.le_of_ble_eq_true rfl | exact Nat.le_refl _ | omega) ?_
    exact ⟨_, rfl, rfl, by rw [h]⟩
  refine GW.aload0 dX8_stepOf_0 (g := ?_)
  refine GW.getf fl_X8_18 dX8_stepOf_1 (by assumption) (by rfl) ?_
  refine GW.ifnull (tgt := 20) dX8_stepOf_4 (by decide) (fun h4 => ?_) (fun r4 h4 => ?_)
  · subst h4
    refine out ?_
    unfold stepT
    cases hi : pIx i with
    | none => rfl
    | some j =>
      rcases hk with hk | hk
      · simp only [if_neg hk]
      · simp only [hk]; simp
  · subst h4
    obtain ⟨hk4, f, hf, hfx⟩ := hk
    have hf : gL G r4 (.inr (0, wd t, .inl f)) := Or.inl hf
    refine GW.iload1 dX8_stepOf_7 ?_
    refine GW.if_lt (tgt := 20) dX8_stepOf_8 (by decide) (fun h8 => ?_) (fun h8 => ?_)
    · exact out (by unfold stepT; rw [pIx_neg h8])
    · rcases i32_cases i with hi | ⟨j, hj, rfl⟩
      · exact absurd hi h8
      · refine GW.iload1 dX8_stepOf_11 ?_
        refine GW.aload0 dX8_stepOf_12 (g := ?_)
        refine GW.getf fl_X8_18 dX8_stepOf_13 (by assumption) (by rfl) ?_
        refine GW.alen dX8_stepOf_16 (by assumption) (by decide) rfl ?_
        refine GW.icmp_lt (tgt := 22) dX8_stepOf_17 (by decide) (fun h17 => ?_) (fun h17 => ?_)
        · have hjw := (mI_lt hj (by omega)).mp h17
          have hix := mI_ix hjw (by omega)
          refine GW.aload0 dX8_stepOf_22 (g := ?_)
          refine GW.getf fl_X8_18 dX8_stepOf_23 (by assumption) (by rfl) ?_
          refine GW.iload1 dX8_stepOf_26 ?_
          refine GW.iald dX8_stepOf_27 (by assumption) (by assumption) ?_
          refine GW.ireturn dX8_stepOf_28 (Or.inl rfl) (by first | (dsimp only [mX8_stepOf, gM.dp, gM.kc, gM.ks]; omega) | exact Nat.le_of_ble_eq_true rfl | exact Nat.le_refl _ | omega) (by first | (dsimp only [mX8_stepOf, gM.dp, gM.kc, gM.ks]; omega) | exact Nat.le_of_ble_eq_true rfl | exact Nat.le_refl _ | omega) ?_
          refine ⟨_, rfl, rfl, ?_⟩
          obtain ⟨x, hx⟩ : ∃ x, (kids t.2.2)[j]? = some x := ⟨_, List.getElem?_eq_getElem hjw⟩
          unfold stepT
          rw [pIx_mI hj]
          simp only [if_pos hk4, hx]
          rw [hfx j x hx]
        · refine out ?_
          have hjw : wd t ≤ j := by
            rcases Nat.lt_or_ge j (wd t) with q | q
            · exact absurd ((mI_lt hj (by omega)).mpr q) h17
            · exact q
          unfold stepT
          rw [pIx_mI hj]
          have hz : (kids t.2.2)[j]? = none := List.getElem?_eq_none hjw
          simp only [hz]
          split <;> rfl
abbrev mX8_placeOf (d kc ks : Nat) : gM := (RX8, cX8_placeOf, 3, (some .int), [], "placeOf", d, kc, ks)
abbrev kX8_placeOf (d kc ks : Nat) (as : List Value) (G : gG) (Q : Option Value → gG → Prop) (X : String → gG → Prop) : Prop := Ctr yX8_placeOf cX8_placeOf 3 (some .int) d kc ks as G Q X
theorem oX8_placeOf {d kc ks : Nat} {as : List Value} {G : gG} {Q : Option Value → gG → Prop} {X : String → gG → Prop} {L : List (Option Value)} (hL : gEnt as = L) (hlen : (lg_sl as).length ≤ 3) (g : GW (mX8_placeOf d kc ks) Q X G 0 0 0 L []) : kX8_placeOf d kc ks as G Q X := Ctr.of (by decide +kernel) rfl rfl hL hlen g
theorem plc_step {s : Int32} {xs : List (Int32 × Tr)} {j : Nat} {x : Int32 × Tr} (h : xs[j]? = some x) : plc s (xs.drop j) j = if x.1 = s then some j else plc s (xs.drop (j + 1)) (j + 1) := by
  have hl : j < xs.length := (List.getElem?_eq_some_iff.mp h).1
  rw [List.drop_eq_getElem_cons hl, plc]
  have : xs[j] = x := (List.getElem?_eq_some_iff.mp h).2
  rw [this]
theorem c_placeOf {G : gG} {a : Nat} {t : Tr} (hv : isV G.1 a t) (hb : sml t) (s : Int32) : kX8_placeOf 0 0 0 [.ref a, .int s] G (ans G (fun w => w = .int (oI (placeT t s)))) noX := by
  have hw := hb.wd
  obtain ⟨kr, pr, hn, hk, hp⟩ := hv.node
  have hn : gL G a (.inl (8, _)) := Or.inl hn
  refine oX8_placeOf (L := [some (.ref a), some (.int s), none, none, none, none, none, none, none, none, none, none]) rfl (Nat.le_of_ble_eq_true rfl) ?_
  generalize hQ : ans G _ = Q
  refine GW.aload0 dX8_placeOf_0 (g := ?_)
  refine GW.getf fl_X8_9 dX8_placeOf_1 (by assumption) (by rfl) ?_
  refine GW.iconst (v := 4) dX8_placeOf_4 (by decide) ?_
  refine GW.icmp_eq (tgt := 34) dX8_placeOf_5 (by decide) (fun h5 => ?_) (fun h5 => ?_)
  · have hp4 : placeT t s = plc s (kids t.2.2) 0 := if_pos h5
    refine GW.iconst (v := 0) dX8_placeOf_34 (by decide) ?_
    refine GW.istore2 dX8_placeOf_35 (g := ?_)
    have key : ∀ (m j : Nat), j + m = wd t → plc s (kids t.2.2) 0 = plc s ((kids t.2.2).drop j) j → GW (mX8_placeOf 0 0 0) Q noX G 0 0 36 [some (.ref a), some (.int s), some (.int (nI j)), none, none, none, none, none, none, none, none, none] [] := by
      intro m
      induction m with
      | zero =>
        intro j hj hpl
        have hnone : placeT t s = none := by
          rw [hp4, hpl, List.drop_eq_nil_of_le (by unfold wd at hj; omega)]
          rfl
        refine GW.aload0 dX8_placeOf_36 (g := ?_)
        refine GW.getf fl_X8_18 dX8_placeOf_37 (by assumption) (by rfl) ?_
        refine GW.ifnull (tgt := 70) dX8_placeOf_40 (by decide) (fun h40 => ?_) (fun r40 h40 => ?_)
        · refine GW.iconst (v := -1) dX8_placeOf_70 (by decide) ?_
          refine GW.ireturn dX8_placeOf_71 (Or.inl rfl) (by first | (dsimp only [mX8_placeOf, gM.dp, gM.kc, gM.ks]; omega) | exact Nat.le_of_ble_eq_true rfl | exact Nat.le_refl _ | omega) (by first | (dsimp only [mX8_placeOf, gM.dp, gM.kc, gM.ks]; omega) | exact Nat.le_of_ble_eq_true rfl | exact Nat.le_refl _ | omega) ?_
          subst hQ
          exact ⟨_, rfl, rfl, by rw [hnone]; rfl⟩
        · subst h40
          obtain ⟨-, f, hf, hfx⟩ := hk
          have hf : gL G r40 (.inr (0, wd t, .inl f)) := Or.inl hf
          refine GW.iload2 dX8_placeOf_43 ?_
          refine GW.aload0 dX8_placeOf_44 (g := ?_)
          refine GW.getf fl_X8_18 dX8_placeOf_45 (by assumption) (by rfl) ?_
          refine GW.alen dX8_placeOf_48 (by assumption) (by decide) rfl ?_
          refine GW.icmp_ge (tgt := 70) dX8_placeOf_49 (by decide) (fun h49 => ?_) (fun h49 => ?_)
          · refine GW.iconst (v := -1) dX8_placeOf_70 (by decide) ?_
            refine GW.ireturn dX8_placeOf_71 (Or.inl rfl) (by first | (dsimp only [mX8_placeOf, gM.dp, gM.kc, gM.ks]; omega) | exact Nat.le_of_ble_eq_true rfl | exact Nat.le_refl _ | omega) (by first | (dsimp only [mX8_placeOf, gM.dp, gM.kc, gM.ks]; omega) | exact Nat.le_of_ble_eq_true rfl | exact Nat.le_refl _ | omega) ?_
            subst hQ
            exact ⟨_, rfl, rfl, by rw [hnone]; rfl⟩
          · exact absurd ((mI_le (by omega) (by omega)).mpr (by omega)) h49
      | succ m ih =>
        intro j hj hpl
        obtain ⟨x, hx⟩ : ∃ x, (kids t.2.2)[j]? = some x := ⟨_, List.getElem?_eq_getElem (by unfold wd at hj; omega)⟩
        rw [plc_step hx] at hpl
        refine GW.aload0 dX8_placeOf_36 (g := ?_)
        refine GW.getf fl_X8_18 dX8_placeOf_37 (by assumption) (by rfl) ?_
        refine GW.ifnull (tgt := 70) dX8_placeOf_40 (by decide) (fun h40 => ?_) (fun r40 h40 => ?_)
        · subst h40
          rcases hk with hk | hk
          · exact absurd h5 hk
          · rw [hk] at hx
            simp at hx
        · subst h40
          obtain ⟨-, f, hf, hfx⟩ := id hk
          have hf : gL G r40 (.inr (0, wd t, .inl f)) := Or.inl hf
          have hix : gIx (nI j) j (wd t) := mI_ix (by omega) (by omega)
          refine GW.iload2 dX8_placeOf_43 ?_
          refine GW.aload0 dX8_placeOf_44 (g := ?_)
          refine GW.getf fl_X8_18 dX8_placeOf_45 (by assumption) (by rfl) ?_
          refine GW.alen dX8_placeOf_48 (by assumption) (by decide) rfl ?_
          refine GW.icmp_ge (tgt := 70) dX8_placeOf_49 (by decide) (fun h49 => ?_) (fun h49 => ?_)
          · exact absurd ((mI_le (by omega) (by omega)).mp h49) (by omega)
          · refine GW.aload0 dX8_placeOf_52 (g := ?_)
            refine GW.getf fl_X8_18 dX8_placeOf_53 (by assumption) (by rfl) ?_
            refine GW.iload2 dX8_placeOf_56 ?_
            refine GW.iald dX8_placeOf_57 (by assumption) (by assumption) ?_
            refine GW.iload1 dX8_placeOf_58 ?_
            rw [hfx j x hx]
            refine GW.icmp_ne (tgt := 64) dX8_placeOf_59 (by decide) (fun h59 => ?_) (fun h59 => ?_)
            · rw [if_neg h59] at hpl
              refine GW.inc2 dX8_placeOf_64 (g := ?_)
              refine GW.goto (tgt := 36) dX8_placeOf_67 (by decide) ?_
              rw [mI_succ]
              exact ih (j + 1) (by omega) hpl
            · rw [if_pos h59] at hpl
              refine GW.iload2 dX8_placeOf_62 ?_
              refine GW.ireturn dX8_placeOf_63 (Or.inl rfl) (by first | (dsimp only [mX8_placeOf, gM.dp, gM.kc, gM.ks]; omega) | exact Nat.le_of_ble_eq_true rfl | exact Nat.le_refl _ | omega) (by first | (dsimp only [mX8_placeOf, gM.dp, gM.kc, gM.ks]; omega) | exact Nat.le_of_ble_eq_true rfl | exact Nat.le_refl _ | omega) ?_
              subst hQ
              exact ⟨_, rfl, rfl, by rw [hp4, hpl]; rfl⟩
    exact key (wd t) 0 (by omega) (by rw [List.drop_zero])
  · have hp4 : placeT t s = (pIx s).filter (fun j => decide (j < wd t)) := if_neg h5
    have out : placeT t s = none → GW (mX8_placeOf 0 0 0) Q noX G 0 0 32 [some (.ref a), some (.int s), none, none, none, none, none, none, none, none, none, none] [] := by
      intro h
      refine GW.iconst (v := -1) dX8_placeOf_32 (by decide) ?_
      refine GW.ireturn dX8_placeOf_33 (Or.inl rfl) (by first | (dsimp only [mX8_placeOf, gM.dp, gM.kc, gM.ks]; omega) | exact Nat.le_of_ble_eq_true rfl | exact Nat.le_refl _ | omega) (by first | (dsimp only [mX8_placeOf, gM.dp, gM.kc, gM.ks]; omega) | exact Nat.le_of_ble_eq_true rfl | exact Nat.le_refl _ | omega) ?_
      subst hQ
      exact ⟨_, rfl, rfl, by rw [h]; rfl⟩
    refine GW.aload0 dX8_placeOf_8 (g := ?_)
    refine GW.getf fl_X8_22 dX8_placeOf_9 (by assumption) (by rfl) ?_
    refine GW.ifnull (tgt := 32) dX8_placeOf_12 (by decide) (fun h12 => ?_) (fun r12 h12 => ?_)
    · subst h12
      refine out ?_
      have : kids t.2.2 = [] := hp
      have hz : wd t = 0 := by unfold wd; rw [this]; rfl
      rw [hp4, hz]
      cases pIx s <;> simp
    · subst h12
      obtain ⟨r', hr, hkid⟩ := hp
      have hr : gL G r12 (.inr (1, wd t, .inr r')) := Or.inl hr
      refine GW.iload1 dX8_placeOf_15 ?_
      refine GW.if_lt (tgt := 32) dX8_placeOf_16 (by decide) (fun h16 => ?_) (fun h16 => ?_)
      · exact out (by rw [hp4, pIx_neg h16]; rfl)
      · rcases i32_cases s with hi | ⟨j, hj, rfl⟩
        · exact absurd hi h16
        · refine GW.iload1 dX8_placeOf_19 ?_
          refine GW.aload0 dX8_placeOf_20 (g := ?_)
          refine GW.getf fl_X8_22 dX8_placeOf_21 (by assumption) (by rfl) ?_
          refine GW.alen dX8_placeOf_24 (by assumption) (by decide) rfl ?_
          refine GW.icmp_ge (tgt := 32) dX8_placeOf_25 (by decide) (fun h25 => ?_) (fun h25 => ?_)
          · have hjw := (mI_le (by omega) hj).mp h25
            exact out (by rw [hp4, pIx_mI hj]; simp; omega)
          · have hjw : j < wd t := by
              rcases Nat.lt_or_ge j (wd t) with q | q
              · exact q
              · exact absurd ((mI_le (by omega) hj).mpr q) h25
            refine GW.iload1 dX8_placeOf_28 ?_
            refine GW.goto (tgt := 33) dX8_placeOf_29 (by decide) ?_
            refine GW.ireturn dX8_placeOf_33 (Or.inl rfl) (by first | (dsimp only [mX8_placeOf, gM.dp, gM.kc, gM.ks]; omega) | exact Nat.le_of_ble_eq_true rfl | exact Nat.le_refl _ | omega) (by first | (dsimp only [mX8_placeOf, gM.dp, gM.kc, gM.ks]; omega) | exact Nat.le_of_ble_eq_true rfl | exact Nat.le_refl _ | omega) ?_
            subst hQ
            refine ⟨_, rfl, rfl, ?_⟩
            rw [hp4, pIx_mI hj]
            rw [show (some j).filter (fun j => decide (j < wd t)) = some j from by simp [hjw]]
            rfl
