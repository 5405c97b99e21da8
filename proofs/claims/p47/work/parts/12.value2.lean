/-! VALUE, more that only reads: placeToAdd, below, areSame, isSameAs -/
def ins (s : Int32) : List (Int32 × Tr) → Nat → Nat
  | [], j => j
  | x :: xs, j => if x.1 < s then ins s xs (j + 1) else j
def addT (t : Tr) (s : Int32) : Option Nat :=
  if t.1 = 3 then (pIx s).filter (fun j => decide (j ≤ wd t)) else if t.1 = 4 ∧ ¬ s < 0 ∧ ¬ 99 < s ∧ placeT t s = none then some (ins s (kids t.2.2) 0) else none
theorem ins_step {s : Int32} {xs : List (Int32 × Tr)} {j : Nat} {x : Int32 × Tr} (h : xs[j]? = some x) : ins s (xs.drop j) j = if x.1 < s then ins s (xs.drop (j + 1)) (j + 1) else j := by
  have hl : j < xs.length := (List.getElem?_eq_some_iff.mp h).1
  rw [List.drop_eq_getElem_cons hl, ins]
  have : xs[j] = x := (List.getElem?_eq_some_iff.mp h).2
  rw [this]
theorem ins_le (s : Int32) : ∀ (xs : List (Int32 × Tr)) (j : Nat), j ≤ ins s xs j ∧ ins s xs j ≤ j + xs.length
  | [], j => by simp [ins]
  | x :: xs, j => by
    rw [ins]
    have := ins_le s xs (j + 1)
    split
    · simp only [List.length_cons]; omega
    · simp
theorem addT_le {t : Tr} {s : Int32} {j : Nat} (h : addT t s = some j) : j ≤ wd t := by
  unfold addT at h
  split at h
  · rw [Option.filter_eq_some_iff] at h
    simpa using h.2
  · split at h
    · cases h
      have := ins_le s (kids t.2.2) 0
      unfold wd; omega
    · cases h
/-- one step down, a path down -/
def stp (t : Tr) (s : Int32) : Option Tr := (placeT t s).bind (kid t)
def belT : Tr → List Int32 → Option Tr
  | t, [] => some t
  | t, s :: r => (stp t s).bind (fun u => belT u r)
theorem partT_placeT {t : Tr} (hb : sml t) (s : Int32) : partT t (oI (placeT t s)) = stp t s := by
  unfold partT stp
  rw [pIx_oI fun j h => by have := placeT_lt h; have := hb.wd; omega]
theorem kid_some {t : Tr} {j : Nat} {x : Int32 × Tr} (h : (kids t.2.2)[j]? = some x) : kid t j = some x.2 := by unfold kid; rw [h]; rfl
abbrev mX8_placeToAdd (d kc ks : Nat) : gM := (RX8, cX8_placeToAdd, 3, (some .int), [], "placeToAdd", d, kc, ks)
abbrev kX8_placeToAdd (d kc ks : Nat) (as : List Value) (G : gG) (Q : Option Value → gG → Prop) (X : String → gG → Prop) : Prop := Ctr yX8_placeToAdd cX8_placeToAdd 3 (some .int) d kc ks as G Q X
theorem oX8_placeToAdd {d kc ks : Nat} {as : List Value} {G : gG} {Q : Option Value → gG → Prop} {X : String → gG → Prop} {L : List (Option Value)} (hL : gEnt as = L) (hlen : (lg_sl as).length ≤ 3) (g : GW (mX8_placeToAdd d kc ks) Q X G 0 0 0 L []) : kX8_placeToAdd d kc ks as G Q X := Ctr.of (by decide +kernel) rfl rfl hL hlen g
theorem c_placeToAdd {G : gG} {a : Nat} {t : Tr} (hv : isV G.1 a t) (hb : sml t) (s : Int32) : kX8_placeToAdd 1 0 0 [.ref a, .int s] G (ans G (fun w => w = .int (oI (addT t s)))) noX := by
  have hw := hb.wd
  obtain ⟨kr, pr, hn, hk, hp⟩ := hv.node
  have hn : gL G a (.inl (8, _)) := Or.inl hn
  refine oX8_placeToAdd (L := [some (.ref a), some (.int s), none, none, none, none, none, none, none, none, none, none]) rfl (Nat.le_of_ble_eq_true rfl) ?_
  generalize hQ : ans G _ = Q
  refine GW.aload0 dX8_placeToAdd_0 (g := ?_)
  refine GW.getf fl_X8_9 dX8_placeToAdd_1 (by assumption) (by rfl) ?_
  refine GW.iconst (v := 3) dX8_placeToAdd_4 (by decide) ?_
  refine GW.icmp_ne (tgt := 26) dX8_placeToAdd_5 (by decide) (fun h5 => ?_) (fun h5 => ?_)
  · have no4 : addT t s = if t.1 = 4 ∧ ¬ s < 0 ∧ ¬ 99 < s ∧ placeT t s = none then some (ins s (kids t.2.2) 0) else none := if_neg h5
    have out : addT t s = none → GW (mX8_placeToAdd 1 0 0) Q noX G 0 0 52 [some (.ref a), some (.int s), none, none, none, none, none, none, none, none, none, none] [] := by
      intro h
      refine GW.iconst (v := -1) dX8_placeToAdd_52 (by decide) ?_
      refine GW.ireturn dX8_placeToAdd_53 (Or.inl rfl) (by first | (dsimp only [mX8_placeToAdd, gM.dp, gM.kc, gM.ks]; omega) | exact Nat.le_of_ble_eq_true rfl | exact Nat.le_refl _ | omega) (by first | (dsimp only [mX8_placeToAdd, gM.dp, gM.kc, gM.ks]; omega) | exact Nat.le_of_ble_eq_true rfl | exact Nat.le_refl _ | omega) ?_
      subst hQ
      exact ⟨_, rfl, rfl, by rw [h]; rfl⟩
    refine GW.aload0 dX8_placeToAdd_26 (g := ?_)
    refine GW.getf fl_X8_9 dX8_placeToAdd_27 (by assumption) (by rfl) ?_
    refine GW.iconst (v := 4) dX8_placeToAdd_30 (by decide) ?_
    refine GW.icmp_ne (tgt := 52) dX8_placeToAdd_31 (by decide) (fun h31 => ?_) (fun h31 => ?_)
    · exact out (by rw [no4, if_neg (fun q => h31 q.1)])
    · refine GW.iload1 dX8_placeToAdd_34 ?_
      refine GW.if_lt (tgt := 52) dX8_placeToAdd_35 (by decide) (fun h35 => ?_) (fun h35 => ?_)
      · exact out (by rw [no4, if_neg (fun q => q.2.1 h35)])
      · refine GW.iload1 dX8_placeToAdd_38 ?_
        refine GW.bipush (v := 99) dX8_placeToAdd_39 (by decide) ?_
        refine GW.icmp_gt (tgt := 52) dX8_placeToAdd_41 (by decide) (fun h41 => ?_) (fun h41 => ?_)
        · exact out (by rw [no4, if_neg (fun q => q.2.2.1 h41)])
        · refine GW.aload0 dX8_placeToAdd_44 (g := ?_)
          refine GW.iload1 dX8_placeToAdd_45 ?_
          refine GW.callV0 cv_X8_42 mt_X8_placeOf (c_placeOf hv hb s) dX8_placeToAdd_46 (by assumption) rfl rfl rfl rfl (by first | (dsimp only [mX8_placeToAdd, gM.dp, gM.kc, gM.ks]; omega) | exact Nat.le_of_ble_eq_true rfl | exact Nat.le_refl _ | omega) (by decide) (by first | (dsimp only [mX8_placeToAdd, gM.dp, gM.kc, gM.ks]; omega) | exact Nat.le_of_ble_eq_true rfl | exact Nat.le_refl _ | omega) (by first | (dsimp only [mX8_placeToAdd, gM.dp, gM.kc, gM.ks]; omega) | exact Nat.le_of_ble_eq_true rfl | exact Nat.le_refl _ | omega) (by first | exact Nat.le_of_ble_eq_true rfl | (simp [va_rf_cat]; done) | (simp [va_rf_cat, Value.category]; done)) rfl (fun _ _ h => h.elim) (fun v46 G46 hq => ?_)
          obtain ⟨w, rfl, rfl, rfl⟩ := hq
          refine GW.if_lt (tgt := 54) dX8_placeToAdd_49 (by decide) (fun h49 => ?_) (fun h49 => ?_)
          · have hpn : placeT t s = none := (oI_neg fun j h => by have := placeT_lt h; omega).mp h49
            have hyes : addT t s = some (ins s (kids t.2.2) 0) := by rw [no4, if_pos ⟨h31, h35, h41, hpn⟩]
            refine GW.iconst (v := 0) dX8_placeToAdd_54 (by decide) ?_
            refine GW.istore2 dX8_placeToAdd_55 (g := ?_)
            have key : ∀ (m j : Nat), j + m = wd t → ins s (kids t.2.2) 0 = ins s ((kids t.2.2).drop j) j → GW (mX8_placeToAdd 1 0 0) Q noX G 0 0 56 [some (.ref a), some (.int s), some (.int (nI j)), none, none, none, none, none, none, none, none, none] [] := by
              have fin : ∀ j, ins s (kids t.2.2) 0 = j → GW (mX8_placeToAdd 1 0 0) Q noX G 0 0 88 [some (.ref a), some (.int s), some (.int (nI j)), none, none, none, none, none, none, none, none, none] [] := by
                intro j hj
                refine GW.iload2 dX8_placeToAdd_88 ?_
                refine GW.ireturn dX8_placeToAdd_89 (Or.inl rfl) (by first | (dsimp only [mX8_placeToAdd, gM.dp, gM.kc, gM.ks]; omega) | exact Nat.le_of_ble_eq_true rfl | exact Nat.le_refl _ | omega) (by first | (dsimp only [mX8_placeToAdd, gM.dp, gM.kc, gM.ks]; omega) | exact Nat.le_of_ble_eq_true rfl | exact Nat.le_refl _ | omega) ?_
                subst hQ
                exact ⟨_, rfl, rfl, by rw [hyes, hj]; rfl⟩
              intro m
              induction m with
              | zero =>
                intro j hj hpl
                have hnil : ins s (kids t.2.2) 0 = j := by
                  rw [hpl, List.drop_eq_nil_of_le (by unfold wd at hj; omega)]
                  rfl
                refine GW.aload0 dX8_placeToAdd_56 (g := ?_)
                refine GW.getf fl_X8_18 dX8_placeToAdd_57 (by assumption) (by rfl) ?_
                refine GW.ifnull (tgt := 88) dX8_placeToAdd_60 (by decide) (fun h60 => ?_) (fun r60 h60 => ?_)
                · exact fin j hnil
                · subst h60
                  obtain ⟨-, f, hf, hfx⟩ := hk
                  have hf : gL G r60 (.inr (0, wd t, .inl f)) := Or.inl hf
                  refine GW.iload2 dX8_placeToAdd_63 ?_
                  refine GW.aload0 dX8_placeToAdd_64 (g := ?_)
                  refine GW.getf fl_X8_18 dX8_placeToAdd_65 (by assumption) (by rfl) ?_
                  refine GW.alen dX8_placeToAdd_68 (by assumption) (by decide) rfl ?_
                  refine GW.icmp_ge (tgt := 88) dX8_placeToAdd_69 (by decide) (fun h69 => ?_) (fun h69 => ?_)
                  · exact fin j hnil
                  · exact absurd ((mI_le (by omega) (by omega)).mpr (by omega)) h69
              | succ m ih =>
                intro j hj hpl
                obtain ⟨x, hx⟩ : ∃ x, (kids t.2.2)[j]? = some x := ⟨_, List.getElem?_eq_getElem (by unfold wd at hj; omega)⟩
                rw [ins_step hx] at hpl
                refine GW.aload0 dX8_placeToAdd_56 (g := ?_)
                refine GW.getf fl_X8_18 dX8_placeToAdd_57 (by assumption) (by rfl) ?_
                refine GW.ifnull (tgt := 88) dX8_placeToAdd_60 (by decide) (fun h60 => ?_) (fun r60 h60 => ?_)
                · subst h60
                  rcases hk with hk | hk
                  · exact absurd h31 hk
                  · rw [hk] at hx
                    simp at hx
                · subst h60
                  obtain ⟨-, f, hf, hfx⟩ := id hk
                  have hf : gL G r60 (.inr (0, wd t, .inl f)) := Or.inl hf
                  have hix : gIx (nI j) j (wd t) := mI_ix (by omega) (by omega)
                  refine GW.iload2 dX8_placeToAdd_63 ?_
                  refine GW.aload0 dX8_placeToAdd_64 (g := ?_)
                  refine GW.getf fl_X8_18 dX8_placeToAdd_65 (by assumption) (by rfl) ?_
                  refine GW.alen dX8_placeToAdd_68 (by assumption) (by decide) rfl ?_
                  refine GW.icmp_ge (tgt := 88) dX8_placeToAdd_69 (by decide) (fun h69 => ?_) (fun h69 => ?_)
                  · exact absurd ((mI_le (by omega) (by omega)).mp h69) (by omega)
                  · refine GW.aload0 dX8_placeToAdd_72 (g := ?_)
                    refine GW.getf fl_X8_18 dX8_placeToAdd_73 (by assumption) (by rfl) ?_
                    refine GW.iload2 dX8_placeToAdd_76 ?_
                    refine GW.iald dX8_placeToAdd_77 (by assumption) (by assumption) ?_
                    refine GW.iload1 dX8_placeToAdd_78 ?_
                    rw [hfx j x hx]
                    refine GW.icmp_ge (tgt := 88) dX8_placeToAdd_79 (by decide) (fun h79 => ?_) (fun h79 => ?_)
                    · rw [if_neg (Int32.not_lt.mpr h79)] at hpl
                      exact fin j hpl
                    · rw [if_pos (Int32.not_le.mp h79)] at hpl
                      refine GW.inc2 dX8_placeToAdd_82 (g := ?_)
                      refine GW.goto (tgt := 56) dX8_placeToAdd_85 (by decide) ?_
                      rw [mI_succ]
                      exact ih (j + 1) (by omega) hpl
            exact key (wd t) 0 (by omega) (by rw [List.drop_zero])
          · exact out (by rw [no4, if_neg (fun q => h49 ((oI_neg fun j h => by have := placeT_lt h; omega).mpr q.2.2.2))])
  · have h5 : t.1 = 3 := h5
    have yes3 : addT t s = (pIx s).filter (fun j => decide (j ≤ wd t)) := if_pos h5
    have out : addT t s = none → GW (mX8_placeToAdd 1 0 0) Q noX G 0 0 24 [some (.ref a), some (.int s), none, none, none, none, none, none, none, none, none, none] [] := by
      intro h
      refine GW.iconst (v := -1) dX8_placeToAdd_24 (by decide) ?_
      refine GW.ireturn dX8_placeToAdd_25 (Or.inl rfl) (by first | (dsimp only [mX8_placeToAdd, gM.dp, gM.kc, gM.ks]; omega) | exact Nat.le_of_ble_eq_true rfl | exact Nat.le_refl _ | omega) (by first | (dsimp only [mX8_placeToAdd, gM.dp, gM.kc, gM.ks]; omega) | exact Nat.le_of_ble_eq_true rfl | exact Nat.le_refl _ | omega) ?_
      subst hQ
      exact ⟨_, rfl, rfl, by rw [h]; rfl⟩
    refine GW.iload1 dX8_placeToAdd_8 ?_
    refine GW.if_lt (tgt := 24) dX8_placeToAdd_9 (by decide) (fun h9 => ?_) (fun h9 => ?_)
    · exact out (by rw [yes3, pIx_neg h9]; rfl)
    · refine GW.iload1 dX8_placeToAdd_12 ?_
      refine GW.aload0 dX8_placeToAdd_13 (g := ?_)
      refine GW.callV0 cv_X8_38 mt_X8_width (c_width hv) dX8_placeToAdd_14 (by assumption) rfl rfl rfl rfl (by first | (dsimp only [mX8_placeToAdd, gM.dp, gM.kc, gM.ks]; omega) | exact Nat.le_of_ble_eq_true rfl | exact Nat.le_refl _ | omega) (by decide) (by first | (dsimp only [mX8_placeToAdd, gM.dp, gM.kc, gM.ks]; omega) | exact Nat.le_of_ble_eq_true rfl | exact Nat.le_refl _ | omega) (by first | (dsimp only [mX8_placeToAdd, gM.dp, gM.kc, gM.ks]; omega) | exact Nat.le_of_ble_eq_true rfl | exact Nat.le_refl _ | omega) (by first | exact Nat.le_of_ble_eq_true rfl | (simp [va_rf_cat]; done) | (simp [va_rf_cat, Value.category]; done)) rfl (fun _ _ h => h.elim) (fun v14 G14 hq => ?_)
      obtain ⟨w, rfl, rfl, rfl⟩ := hq
      rcases i32_cases s with hi | ⟨j, hj, rfl⟩
      · exact absurd hi h9
      · refine GW.icmp_gt (tgt := 24) dX8_placeToAdd_17 (by decide) (fun h17 => ?_) (fun h17 => ?_)
        · have hjw := (mI_lt (by omega) hj).mp h17
          refine out ?_
          rw [yes3, pIx_mI hj]
          simp; omega
        · have hjw : j ≤ wd t := by
            rcases Nat.lt_or_ge (wd t) j with q | q
            · exact absurd ((mI_lt (by omega) hj).mpr q) h17
            · exact q
          refine GW.iload1 dX8_placeToAdd_20 ?_
          refine GW.goto (tgt := 25) dX8_placeToAdd_21 (by decide) ?_
          refine GW.ireturn dX8_placeToAdd_25 (Or.inl rfl) (by first | (dsimp only [mX8_placeToAdd, gM.dp, gM.kc, gM.ks]; omega) | exact Nat.le_of_ble_eq_true rfl | exact Nat.le_refl _ | omega) (by first | (dsimp only [mX8_placeToAdd, gM.dp, gM.kc, gM.ks]; omega) | exact Nat.le_of_ble_eq_true rfl | exact Nat.le_refl _ | omega) ?_
          subst hQ
          refine ⟨_, rfl, rfl, ?_⟩
          rw [yes3, pIx_mI hj, show (some j).filter (fun j => decide (j ≤ wd t)) = some j from by simp [hjw]]
          rfl
/-- n steps of a row, from the place i on -/
def stps (f : Nat → Int32) (i n : Nat) : List Int32 := (List.range' i n).map f
theorem stps_succ (f : Nat → Int32) (i n : Nat) : stps f i (n + 1) = f i :: stps f (i + 1) n := by unfold stps; rw [List.range'_succ]; rfl
abbrev mX8_below (d kc ks : Nat) : gM := (RX8, cX8_below, 5, (some (.object "MarlStore$Value")), [], "below", d, kc, ks)
abbrev kX8_below (d kc ks : Nat) (as : List Value) (G : gG) (Q : Option Value → gG → Prop) (X : String → gG → Prop) : Prop := Ctr yX8_below cX8_below 5 (some (.object "MarlStore$Value")) d kc ks as G Q X
theorem oX8_below {d kc ks : Nat} {as : List Value} {G : gG} {Q : Option Value → gG → Prop} {X : String → gG → Prop} {L : List (Option Value)} (hL : gEnt as = L) (hlen : (lg_sl as).length ≤ 5) (g : GW (mX8_below d kc ks) Q X G 0 0 0 L []) : kX8_below d kc ks as G Q X := Ctr.of (by decide +kernel) rfl rfl hL hlen g
theorem c_below {G : gG} {a pa N n : Nat} {t : Tr} {f : Nat → Int32} (hv : isV G.1 a t) (hb : sml t) (hpa : gL G pa (.inr (0, N, .inl f))) (hn : n ≤ N) (hN : N < 2 ^ 20) : kX8_below 1 0 0 [.ref a, .ref pa, .int (nI n)] G (fun v G' => ∃ r, v = some (va_rf r) ∧ G = G' ∧ isO G.1 r (belT t (stps f 0 n))) noX := by
  refine oX8_below (L := [some (.ref a), some (.ref pa), some (.int (nI n)), none, none, none, none, none, none, none, none, none]) rfl (Nat.le_of_ble_eq_true rfl) ?_
  generalize hQ : (fun (v : Option Value) (G' : gG) => ∃ r, v = some (va_rf r) ∧ G = G' ∧ isO G.1 r (belT t (stps f 0 n))) = Q
  refine GW.aload0 dX8_below_0 (g := ?_)
  refine GW.astore3 dX8_below_1 (g := ?_)
  refine GW.iconst (v := 0) dX8_below_2 (by decide) ?_
  refine GW.istore4 dX8_below_3 (g := ?_)
  have fin : ∀ (r : Option Nat) (i : Nat), isO G.1 r (belT t (stps f 0 n)) → GW (mX8_below 1 0 0) Q noX G 0 0 41 [some (.ref a), some (.ref pa), some (.int (nI n)), some (va_rf r), some (.int (nI i)), none, none, none, none, none, none, none] [] := by
    intro r i h
    refine GW.aload3 dX8_below_41 (g := ?_)
    refine GW.areturn dX8_below_42 (Or.inl ⟨_, rfl⟩) (by first | (dsimp only [mX8_below, gM.dp, gM.kc, gM.ks]; omega) | exact Nat.le_of_ble_eq_true rfl | exact Nat.le_refl _ | omega) (by first | (dsimp only [mX8_below, gM.dp, gM.kc, gM.ks]; omega) | exact Nat.le_of_ble_eq_true rfl | exact Nat.le_refl _ | omega) ?_
    subst hQ
    exact ⟨r, rfl, rfl, h⟩
  have key : ∀ (m i : Nat) (r : Option Nat) (o : Option Tr), i + m = n → isO G.1 r o → (∀ u, o = some u → sml u) → belT t (stps f 0 n) = o.bind (fun u => belT u (stps f i m)) → GW (mX8_below 1 0 0) Q noX G 0 0 5 [some (.ref a), some (.ref pa), some (.int (nI n)), some (va_rf r), some (.int (nI i)), none, none, none, none, none, none, none] [] := by
    intro m
    induction m with
    | zero =>
      intro i r o hi hr hs he
      have he : belT t (stps f 0 n) = o := by
        rw [he]
        cases o <;> rfl
      refine GW.iload4 dX8_below_5 ?_
      refine GW.iload2 dX8_below_7 ?_
      refine GW.icmp_ge (tgt := 41) dX8_below_8 (by decide) (fun h8 => ?_) (fun h8 => ?_)
      · exact fin r i (by rw [he]; exact hr)
      · exact absurd ((mI_le (by omega) (by omega)).mpr (by omega)) h8
    | succ m ih =>
      intro i r o hi hr hs he
      refine GW.iload4 dX8_below_5 ?_
      refine GW.iload2 dX8_below_7 ?_
      refine GW.icmp_ge (tgt := 41) dX8_below_8 (by decide) (fun h8 => ?_) (fun h8 => ?_)
      · exact absurd ((mI_le (by omega) (by omega)).mp h8) (by omega)
      · refine GW.iload4 dX8_below_11 ?_
        refine GW.aload1 dX8_below_13 (g := ?_)
        refine GW.alen dX8_below_14 (by assumption) (by decide) rfl ?_
        refine GW.icmp_ge (tgt := 41) dX8_below_15 (by decide) (fun h15 => ?_) (fun h15 => ?_)
        · exact absurd ((mI_le (by omega) (by omega)).mp h15) (by omega)
        · refine GW.aload3 dX8_below_18 (g := ?_)
          refine GW.ifnull (tgt := 41) dX8_below_19 (by decide) (fun h19 => ?_) (fun r19 h19 => ?_)
          · subst h19
            cases o with
            | some u => exact hr.elim
            | none => exact fin none i (by rw [he]; trivial)
          · subst h19
            cases o with
            | none => exact hr.elim
            | some u =>
              have hr : isV G.1 r19 u := hr
              obtain ⟨kr, pr, hnd, -, -⟩ := hr.node
              have hnd : gL G r19 (.inl (8, _)) := Or.inl hnd
              have hix : gIx (nI i) i N := mI_ix (by omega) (by omega)
              refine GW.aload3 dX8_below_22 (g := ?_)
              refine GW.aload3 dX8_below_23 (g := ?_)
              refine GW.aload1 dX8_below_24 (g := ?_)
              refine GW.iload4 dX8_below_25 ?_
              refine GW.iald dX8_below_27 (by assumption) (by assumption) ?_
              refine GW.callV0 cv_X8_42 mt_X8_placeOf (c_placeOf hr (hs u rfl) (f i)) dX8_below_28 (by assumption) rfl rfl rfl rfl (by first | (dsimp only [mX8_below, gM.dp, gM.kc, gM.ks]; omega) | exact Nat.le_of_ble_eq_true rfl | exact Nat.le_refl _ | omega) (by decide) (by first | (dsimp only [mX8_below, gM.dp, gM.kc, gM.ks]; omega) | exact Nat.le_of_ble_eq_true rfl | exact Nat.le_refl _ | omega) (by first | (dsimp only [mX8_below, gM.dp, gM.kc, gM.ks]; omega) | exact Nat.le_of_ble_eq_true rfl | exact Nat.le_refl _ | omega) (by first | exact Nat.le_of_ble_eq_true rfl | (simp [va_rf_cat]; done) | (simp [va_rf_cat, Value.category]; done)) rfl (fun _ _ h => h.elim) (fun v28 G28 hq => ?_)
              obtain ⟨w, rfl, rfl, rfl⟩ := hq
              refine GW.callV0 cv_X8_46 mt_X8_partAt (c_partAt hr (hs u rfl) (oI (placeT u (f i)))) dX8_below_31 (by assumption) rfl rfl rfl rfl (by first | (dsimp only [mX8_below, gM.dp, gM.kc, gM.ks]; omega) | exact Nat.le_of_ble_eq_true rfl | exact Nat.le_refl _ | omega) (by decide) (by first | (dsimp only [mX8_below, gM.dp, gM.kc, gM.ks]; omega) | exact Nat.le_of_ble_eq_true rfl | exact Nat.le_refl _ | omega) (by first | (dsimp only [mX8_below, gM.dp, gM.kc, gM.ks]; omega) | exact Nat.le_of_ble_eq_true rfl | exact Nat.le_refl _ | omega) (by first | exact Nat.le_of_ble_eq_true rfl | (simp [va_rf_cat]; done) | (simp [va_rf_cat, Value.category]; done)) rfl (fun _ _ h => h.elim) (fun v31 G31 hq => ?_)
              obtain ⟨r', rfl, rfl, hq⟩ := hq
              rw [partT_placeT (hs u rfl)] at hq
              refine GW.astore3 dX8_below_34 (g := ?_)
              refine GW.inc4 dX8_below_35 (g := ?_)
              refine GW.goto (tgt := 5) dX8_below_38 (by decide) ?_
              rw [mI_succ]
              refine ih (i + 1) r' (stp u (f i)) (by omega) hq ?_ ?_
              · intro u' hu'
                unfold stp at hu'
                cases hpl : placeT u (f i) with
                | none => rw [hpl] at hu'; cases hu'
                | some j => rw [hpl] at hu'; exact (hs u rfl).kid hu'
              · rw [he, stps_succ]
                rfl
  exact key n 0 (some a) (some t) (by omega) hv (fun u h => by cases h; exact hb) rfl
