/-! DIFFER, compare: fillTable, betweenObjects, between, compare -/
section GROUP
variable {im : gIm} {ad : Nat → Nat} {mc : Nat → Option gC} {cnt : Int32} {tb : Nat → Int32} {a b l base n : Nat} {t u : Tr}
/-- the rows behind k, and the row k from the column m on, are right -/
def tbG (tb : Nat → Int32) (f : Tr → Tr → Nat) (base : Nat) (t u : Tr) (k m : Nat) : Prop := ∀ i' j', i' ≤ wd t → j' ≤ wd u → (k < i' ∨ (k = i' ∧ m ≤ j')) → tb (base + i' * (wd u + 1) + j') = nI (lD f ((kids t.2.2).drop i') ((kids u.2.2).drop j'))
theorem tbG.step {tb tb1 : Nat → Int32} {f : Tr → Tr → Nat} {k j : Nat} {v : Int32} (h : tbG tb f base t u k (j + 1)) (hj : j ≤ wd u) (hr : base + szT t * szT u + dpT t ≤ 2600) (h1 : ∀ q, q < base + (wd t + 1) * (wd u + 1) → tb1 q = tb q) (hv : v = nI (lD f ((kids t.2.2).drop k) ((kids u.2.2).drop j))) : tbG (upd tb1 (base + k * (wd u + 1) + j) v) f base t u k j := by
  intro i' j' hi' hj' hc
  unfold upd
  by_cases he : i' = k ∧ j' = j
  · obtain ⟨rfl, rfl⟩ := he
    rw [if_pos rfl, hv]
  · have hne : base + i' * (wd u + 1) + j' ≠ base + k * (wd u + 1) + j := by
      rcases hc with q | ⟨rfl, q⟩
      · have h5 : (k + 1) * (wd u + 1) ≤ i' * (wd u + 1) := Nat.mul_le_mul_right _ q
        rw [Nat.add_mul, Nat.one_mul] at h5
        omega
      · omega
    rw [if_neg hne, h1 _ (roomB hi' hj' hr).1]
    refine h i' j' hi' hj' ?_
    rcases hc with q | ⟨rfl, q⟩
    · exact Or.inl q
    · exact Or.inr ⟨rfl, by omega⟩
theorem c_fillTable (hB : Bt n) (h : bP im a b l base n t u) (ht : tbAt ad mc cnt tb) :
    kX1_fillTable (4 * n + 7) 0 0 [.ref (ad 9), .ref a, .ref b, .int (nI l), .int (nI base)] (im, ad, mc) (fun v G' => v = some (.int 1) ∧ tbCh im ad mc tb base G' (fun tb' => tbG tb' (Df n) base t u 0 0)) noX := by
  obtain ⟨hst, hsu, hwt, hwu⟩ := h.s
  obtain ⟨hv, hu, hwft, hwfu, hd, h6, h7, hl, hr⟩ := id h
  have hcap := (roomB (t := t) (u := u) (base := base) (Nat.le_refl _) (Nat.le_refl _) hr).2
  refine oX1_fillTable (L := [some (.ref (ad 9)), some (.ref a), some (.ref b), some (.int (nI l)), some (.int (nI base)), none, none, none, none, none, none, none]) rfl (Nat.le_of_ble_eq_true rfl) ?_
  generalize hQ : (fun (v : Option Value) (G' : gG) => v = some (.int 1) ∧ tbCh im ad mc tb base G' (fun tb' => tbG tb' (Df n) base t u 0 0)) = Q
  have l10 : gL (im, ad, mc) (ad 10) (.inr (0, 2600, .inl tb)) := Or.inr ⟨10, rfl, ht.2⟩
  have outer : ∀ (m : Nat) (mc1 : Nat → Option gC) (tb1 : Nat → Int32), m ≤ wd t + 1 → (∀ q, q ≠ 10 → mc1 q = mc q) → mc1 10 = some (.inr (0, 2600, .inl tb1)) → (∀ q, q < base → tb1 q = tb q) → tbG tb1 (Df n) base t u m 0 →
      GW (mX1_fillTable (4 * n + 7) 0 0) Q noX (im, ad, mc1) 0 0 59 [some (.ref (ad 9)), some (.ref a), some (.ref b), some (.int (nI l)), some (.int (nI base)), some (.int (nI (wd t + 1))), some (.int (nI (wd u + 1))), some (.int (nI m - 1)), none, none, none, none] [] := by
    intro m
    induction m with
    | zero =>
      intro mc1 tb1 hm ho h10 hb hg
      refine GW.iload7 dX1_fillTable_59 ?_
      refine GW.if_lt (tgt := 116) dX1_fillTable_61 (by decide) (fun h61 => ?_) (fun h61 => ?_)
      · refine GW.iconst (v := 1) dX1_fillTable_116 (by decide) ?_
        refine GW.ireturn dX1_fillTable_117 (Or.inr ⟨rfl, by first | exact Or.inl rfl | exact Or.inr rfl | assumption⟩) (by first | (dsimp only [mX1_fillTable, gM.dp, gM.kc, gM.ks]; omega) | exact Nat.le_of_ble_eq_true rfl | exact Nat.le_refl _ | omega) (by first | (dsimp only [mX1_fillTable, gM.dp, gM.kc, gM.ks]; omega) | exact Nat.le_of_ble_eq_true rfl | exact Nat.le_refl _ | omega) ?_
        subst hQ
        exact ⟨rfl, mc1, tb1, rfl, ho, h10, hb, hg⟩
      · exact absurd (show nI 0 - 1 < 0 by decide) h61
    | succ k ih =>
      intro mc1 tb1 hm ho h10 hb hg
      rw [mI_pred (a := k + 1) (by omega), Nat.add_sub_cancel]
      refine GW.iload7 dX1_fillTable_59 ?_
      refine GW.if_lt (tgt := 116) dX1_fillTable_61 (by decide) (fun h61 => ?_) (fun h61 => ?_)
      · exact absurd h61 (mI_nonneg (by omega))
      · refine GW.iload6 dX1_fillTable_64 ?_
        refine GW.iconst (v := 1) dX1_fillTable_66 (by decide) ?_
        refine GW.isub dX1_fillTable_67 ?_
        refine GW.istore8 dX1_fillTable_68 (g := ?_)
        have inner : ∀ (m2 : Nat) (mc2 : Nat → Option gC) (tb2 : Nat → Int32), m2 ≤ wd u + 1 → (∀ q, q ≠ 10 → mc2 q = mc q) → mc2 10 = some (.inr (0, 2600, .inl tb2)) → (∀ q, q < base → tb2 q = tb q) → tbG tb2 (Df n) base t u k m2 →
            GW (mX1_fillTable (4 * n + 7) 0 0) Q noX (im, ad, mc2) 0 0 70 [some (.ref (ad 9)), some (.ref a), some (.ref b), some (.int (nI l)), some (.int (nI base)), some (.int (nI (wd t + 1))), some (.int (nI (wd u + 1))), some (.int (nI k)), some (.int (nI m2 - 1)), none, none, none] [] := by
          intro m2
          induction m2 with
          | zero =>
            intro mc2 tb2 hm2 ho2 h102 hb2 hg2
            refine GW.iload8 dX1_fillTable_70 ?_
            refine GW.if_lt (tgt := 110) dX1_fillTable_72 (by decide) (fun h72 => ?_) (fun h72 => ?_)
            · refine GW.inc7m dX1_fillTable_110 (g := ?_)
              refine GW.goto (tgt := 59) dX1_fillTable_113 (by decide) ?_
              refine GW.drop 8 ?_
              exact ih mc2 tb2 (by omega) ho2 h102 hb2 hg2
            · exact absurd (show nI 0 - 1 < 0 by decide) h72
          | succ j ih2 =>
            intro mc2 tb2 hm2 ho2 h102 hb2 hg2
            rw [mI_pred (a := j + 1) (by omega), Nat.add_sub_cancel]
            have ht2 : tbAt ad mc2 cnt tb2 := ht.ch ho2 h102
            have lt9 := tbAt.gl (G := (im, ad, mc2)) ht2
            have hc := roomB (t := t) (u := u) (i := k) (j := j) (by omega) (by omega) hr
            refine GW.iload8 dX1_fillTable_70 ?_
            refine GW.if_lt (tgt := 110) dX1_fillTable_72 (by decide) (fun h72 => ?_) (fun h72 => ?_)
            · exact absurd h72 (mI_nonneg (by omega))
            · refine GW.aload0 dX1_fillTable_75 (g := ?_)
              refine GW.getf fl_X1_9 dX1_fillTable_76 (by assumption) (by rfl) ?_
              refine GW.iload4 dX1_fillTable_79 ?_
              refine GW.iload7 dX1_fillTable_81 ?_
              refine GW.iload6 dX1_fillTable_83 ?_
              refine GW.imul dX1_fillTable_85 ?_
              rw [mI_mul]
              refine GW.iadd dX1_fillTable_86 ?_
              rw [mI_add]
              refine GW.iload8 dX1_fillTable_87 ?_
              refine GW.iadd dX1_fillTable_89 ?_
              rw [mI_add]
              refine GW.aload0 dX1_fillTable_90 (g := ?_)
              refine GW.aload1 dX1_fillTable_91 (g := ?_)
              refine GW.iload7 dX1_fillTable_92 ?_
              refine GW.aload2 dX1_fillTable_94 (g := ?_)
              refine GW.iload8 dX1_fillTable_95 ?_
              refine GW.iload3 dX1_fillTable_97 ?_
              refine GW.iload4 dX1_fillTable_98 ?_
              refine GW.callV0 cv_X1_67 mt_X1_leastFrom (c_leastFrom (i := k) (j := j) hB h ht2 (by omega) (by omega) hg2) dX1_fillTable_100 (by first | assumption | exact isV.gl (by assumption) | exact tbAt.gl (by assumption)) rfl rfl rfl rfl (by first | (dsimp only [mX1_fillTable, gM.dp, gM.kc, gM.ks]; omega) | exact Nat.le_of_ble_eq_true rfl | exact Nat.le_refl _ | omega) (by decide) (by first | (dsimp only [mX1_fillTable, gM.dp, gM.kc, gM.ks]; omega) | exact Nat.le_of_ble_eq_true rfl | exact Nat.le_refl _ | omega) (by first | (dsimp only [mX1_fillTable, gM.dp, gM.kc, gM.ks]; omega) | exact Nat.le_of_ble_eq_true rfl | exact Nat.le_refl _ | omega) (by first | exact Nat.le_of_ble_eq_true rfl | (simp [va_rf_cat]; done) | (simp [va_rf_cat, Value.category]; done)) rfl (fun _ _ h => h.elim) (fun v100 G100 hq => ?_)
              obtain ⟨rfl, mc3, tb3, rfl, ho3, h103, hb3, -⟩ := hq
              have hix : gIx (nI (base + k * (wd u + 1) + j)) (base + k * (wd u + 1) + j) 2600 := mI_ix (by omega) (by omega)
              refine GW.iast (r := 10) dX1_fillTable_103 (by first | assumption | rfl) (by assumption) (by first | assumption | rfl) ?_
              rw [gS_tri]
              refine GW.inc8m dX1_fillTable_104 (g := ?_)
              refine GW.goto (tgt := 70) dX1_fillTable_107 (by decide) ?_
              refine ih2 _ (upd tb3 (base + k * (wd u + 1) + j) _) (by omega) (fun q hq => (if_neg hq).trans ((ho3 q hq).trans (ho2 q hq))) (if_pos rfl) (fun q hq => ?_) (hg2.step (by omega) hr hb3 rfl)
              unfold upd
              rw [if_neg (by omega), hb3 q (by omega), hb2 q hq]
        exact inner (wd u + 1) mc1 tb1 (Nat.le_refl _) ho h10 hb (fun i' j' hi' hj' hc => hg i' j' hi' hj' (by omega))
  refine GW.aload1 dX1_fillTable_0 (g := ?_)
  refine GW.callV0 cv_X1_47 mt_X8_width (c_width (G := (im, ad, mc)) hv) dX1_fillTable_1 (by first | assumption | exact isV.gl (by assumption) | exact tbAt.gl (by assumption)) rfl rfl rfl rfl (by first | (dsimp only [mX1_fillTable, gM.dp, gM.kc, gM.ks]; omega) | exact Nat.le_of_ble_eq_true rfl | exact Nat.le_refl _ | omega) (by decide) (by first | (dsimp only [mX1_fillTable, gM.dp, gM.kc, gM.ks]; omega) | exact Nat.le_of_ble_eq_true rfl | exact Nat.le_refl _ | omega) (by first | (dsimp only [mX1_fillTable, gM.dp, gM.kc, gM.ks]; omega) | exact Nat.le_of_ble_eq_true rfl | exact Nat.le_refl _ | omega) (by first | exact Nat.le_of_ble_eq_true rfl | (simp [va_rf_cat]; done) | (simp [va_rf_cat, Value.category]; done)) rfl (fun _ _ h => h.elim) (fun v1 G1 hq => ?_)
  obtain ⟨w, rfl, rfl, rfl⟩ := hq
  refine GW.iconst (v := 1) dX1_fillTable_4 (by decide) ?_
  refine GW.iadd dX1_fillTable_5 ?_
  refine GW.istore5 dX1_fillTable_6 (g := ?_)
  refine GW.aload2 dX1_fillTable_8 (g := ?_)
  refine GW.callV0 cv_X1_47 mt_X8_width (c_width (G := (im, ad, mc)) hu) dX1_fillTable_9 (by first | assumption | exact isV.gl (by assumption) | exact tbAt.gl (by assumption)) rfl rfl rfl rfl (by first | (dsimp only [mX1_fillTable, gM.dp, gM.kc, gM.ks]; omega) | exact Nat.le_of_ble_eq_true rfl | exact Nat.le_refl _ | omega) (by decide) (by first | (dsimp only [mX1_fillTable, gM.dp, gM.kc, gM.ks]; omega) | exact Nat.le_of_ble_eq_true rfl | exact Nat.le_refl _ | omega) (by first | (dsimp only [mX1_fillTable, gM.dp, gM.kc, gM.ks]; omega) | exact Nat.le_of_ble_eq_true rfl | exact Nat.le_refl _ | omega) (by first | exact Nat.le_of_ble_eq_true rfl | (simp [va_rf_cat]; done) | (simp [va_rf_cat, Value.category]; done)) rfl (fun _ _ h => h.elim) (fun v9 G9 hq => ?_)
  obtain ⟨w, rfl, rfl, rfl⟩ := hq
  refine GW.iconst (v := 1) dX1_fillTable_12 (by decide) ?_
  refine GW.iadd dX1_fillTable_13 ?_
  refine GW.istore6 dX1_fillTable_14 (g := ?_)
  refine GW.iload4 dX1_fillTable_16 ?_
  rw [mI_succ, mI_succ]
  refine GW.if_lt (tgt := 51) dX1_fillTable_18 (by decide) (fun h18 => ?_) (fun h18 => ?_)
  · exact absurd h18 (mI_nonneg (by omega))
  · refine GW.iload5 dX1_fillTable_21 ?_
    refine GW.bipush (v := 50) dX1_fillTable_23 (by decide) ?_
    refine GW.icmp_gt (tgt := 51) dX1_fillTable_25 (by decide) (fun h25 => ?_) (fun h25 => ?_)
    · exact absurd ((mI_lt (a := 50) (by omega) (by omega)).mp h25) (by omega)
    · refine GW.iload6 dX1_fillTable_28 ?_
      refine GW.bipush (v := 50) dX1_fillTable_30 (by decide) ?_
      refine GW.icmp_gt (tgt := 51) dX1_fillTable_32 (by decide) (fun h32 => ?_) (fun h32 => ?_)
      · exact absurd ((mI_lt (a := 50) (by omega) (by omega)).mp h32) (by omega)
      · have lt9 := tbAt.gl (G := (im, ad, mc)) ht
        refine GW.iload4 dX1_fillTable_35 ?_
        refine GW.iload5 dX1_fillTable_37 ?_
        refine GW.iload6 dX1_fillTable_39 ?_
        refine GW.imul dX1_fillTable_41 ?_
        refine GW.iadd dX1_fillTable_42 ?_
        rw [mI_mul, mI_add]
        refine GW.aload0 dX1_fillTable_43 (g := ?_)
        refine GW.getf fl_X1_9 dX1_fillTable_44 (by assumption) (by rfl) ?_
        refine GW.alen dX1_fillTable_47 (by assumption) (by decide) rfl ?_
        refine GW.icmp_le (tgt := 53) dX1_fillTable_48 (by decide) (fun h48 => ?_) (fun h48 => ?_)
        · refine GW.iload5 dX1_fillTable_53 ?_
          refine GW.iconst (v := 1) dX1_fillTable_55 (by decide) ?_
          refine GW.isub dX1_fillTable_56 ?_
          refine GW.istore7 dX1_fillTable_57 (g := ?_)
          exact outer (wd t + 1) mc tb (Nat.le_refl _) (fun _ _ => rfl) ht.2 (fun _ _ => rfl) (fun i' j' hi' hj' hc => by omega)
        · exact absurd ((mI_le (b := 2600) (by omega) (by omega)).mpr hcap) h48
/-- what the order of the next two tells -/
theorem ord_cases (hwt : wfT t) (hwu : wfT u) (h4 : t.1 = 4) (h4u : u.1 = 4) {i j : Nat} (hi : i ≤ wd t) (hj : j ≤ wd u) (hm : i < wd t ∨ j < wd u) :
    (kyT t i - kyT u j = 0 ∧ ∃ x y, (kids t.2.2)[i]? = some x ∧ (kids u.2.2)[j]? = some y ∧ x.1 = y.1) ∨
    (kyT t i - kyT u j < 0 ∧ ∃ x, (kids t.2.2)[i]? = some x ∧ ∀ y, (kids u.2.2)[j]? = some y → x.1 ≠ y.1 ∧ x.1 < y.1) ∨
    (¬ kyT t i - kyT u j = 0 ∧ ¬ kyT t i - kyT u j < 0 ∧ ∃ y, (kids u.2.2)[j]? = some y ∧ ∀ x, (kids t.2.2)[i]? = some x → x.1 ≠ y.1 ∧ ¬ x.1 < y.1) := by
  have hs := i32_sub (kyT_rng hwt h4 i) (kyT_rng hwu h4u j)
  have top : ∀ {t : Tr} {i : Nat}, wfT t → t.1 = 4 → i < wd t → ∃ x, (kids t.2.2)[i]? = some x ∧ kyT t i = x.1 ∧ x.1 < 100 := fun {t i} hw h h2 => by
    obtain ⟨x, hx⟩ : ∃ x, (kids t.2.2)[i]? = some x := ⟨_, List.getElem?_eq_getElem h2⟩
    have := ((hw.1.2.2.2.2 h).2 x (List.mem_of_getElem? hx)).2
    exact ⟨x, hx, kyT_some hx, Int32.lt_of_le_of_lt this (by decide)⟩
  by_cases e0 : kyT t i - kyT u j = 0
  · have he := hs.1.mp e0
    refine Or.inl ⟨e0, ?_⟩
    rcases Nat.lt_or_ge i (wd t) with q | q
    · obtain ⟨x, hx, k1, k2⟩ := top hwt h4 q
      rcases Nat.lt_or_ge j (wd u) with q2 | q2
      · obtain ⟨y, hy, g1, g2⟩ := top hwu h4u q2
        exact ⟨x, y, hx, hy, by rw [← k1, ← g1]; exact he⟩
      · rw [k1, kyT_none q2] at he
        rw [he] at k2
        exact absurd k2 i32_irr
    · rcases Nat.lt_or_ge j (wd u) with q2 | q2
      · obtain ⟨y, hy, g1, g2⟩ := top hwu h4u q2
        rw [g1, kyT_none q] at he
        rw [← he] at g2
        exact absurd g2 i32_irr
      · omega
  · by_cases e1 : kyT t i - kyT u j < 0
    · have he := hs.2.mp e1
      refine Or.inr (Or.inl ⟨e1, ?_⟩)
      rcases Nat.lt_or_ge i (wd t) with q | q
      · obtain ⟨x, hx, k1, k2⟩ := top hwt h4 q
        refine ⟨x, hx, fun y hy => ?_⟩
        rw [k1, kyT_some hy] at he
        exact ⟨fun e => by rw [e] at he; exact i32_irr he, he⟩
      · rw [kyT_none q] at he
        exact absurd (Int32.lt_of_lt_of_le he (kyT_rng hwu h4u j).2) i32_irr
    · refine Or.inr (Or.inr ⟨e0, e1, ?_⟩)
      have he : kyT u j < kyT t i := i32_tri (fun q => e0 (hs.1.mpr q)) (fun q => e1 (hs.2.mpr q))
      rcases Nat.lt_or_ge j (wd u) with q | q
      · obtain ⟨y, hy, k1, k2⟩ := top hwu h4u q
        refine ⟨y, hy, fun x hx => ?_⟩
        rw [k1, kyT_some hx] at he
        exact ⟨fun e => by rw [e] at he; exact i32_irr he, i32_asym he⟩
      · rw [kyT_none q] at he
        exact absurd (Int32.lt_of_lt_of_le he (kyT_rng hwt h4 i).2) i32_irr
theorem oD_drop (f : Tr → Tr → Nat) {xs ys : List (Int32 × Tr)} {i j : Nat} :
    (∀ x y, xs[i]? = some x → ys[j]? = some y → x.1 = y.1 → oD f (xs.drop i) (ys.drop j) = f x.2 y.2 + oD f (xs.drop (i + 1)) (ys.drop (j + 1))) ∧
    (∀ x, xs[i]? = some x → (∀ y, ys[j]? = some y → x.1 ≠ y.1 ∧ x.1 < y.1) → oD f (xs.drop i) (ys.drop j) = szT x.2 + oD f (xs.drop (i + 1)) (ys.drop j)) ∧
    (∀ y, ys[j]? = some y → (∀ x, xs[i]? = some x → x.1 ≠ y.1 ∧ ¬ x.1 < y.1) → oD f (xs.drop i) (ys.drop j) = szT y.2 + oD f (xs.drop i) (ys.drop (j + 1))) := by
  refine ⟨fun x y hx hy he => ?_, fun x hx h => ?_, fun y hy h => ?_⟩
  · rw [drop_cons hx, drop_cons hy, oD_cons, if_pos he]
  · rw [drop_cons hx]
    cases hy : ys[j]? with
    | none =>
      have : ys.drop j = [] := List.drop_eq_nil_of_le (by rw [List.getElem?_eq_none_iff] at hy; exact hy)
      rw [this]
      rfl
    | some y =>
      obtain ⟨h1, h2⟩ := h y hy
      rw [drop_cons hy, oD_cons, if_neg h1, if_pos h2]
  · rw [drop_cons hy]
    cases hx : xs[i]? with
    | none =>
      have : xs.drop i = [] := List.drop_eq_nil_of_le (by rw [List.getElem?_eq_none_iff] at hx; exact hx)
      rw [this, oD_nil, oD_nil, szL_cons]
    | some x =>
      obtain ⟨h1, h2⟩ := h x hx
      rw [drop_cons hx, oD_cons, if_neg h1, if_neg h2]
theorem i32_gt {x : Int32} (h0 : ¬ x = 0) (h1 : ¬ x < 0) : 0 < x := i32_tri h0 h1
theorem c_betweenObjects (hB : Bt n) (h : bP im a b l base n t u) (ht : tbAt ad mc cnt tb) (h4 : t.1 = 4) (h4u : u.1 = 4) :
    kX1_betweenObjects (4 * n + 5) 0 0 [.ref (ad 9), .ref a, .ref b, .int (nI l), .int (nI base)] (im, ad, mc) (fun v G' => v = some (.int (nI (oD (Df n) (kids t.2.2) (kids u.2.2)))) ∧ tbCh im ad mc tb base G' (fun _ => True)) noX := by
  obtain ⟨hst, hsu, hwt, hwu⟩ := h.s
  obtain ⟨hv, hu, hwft, hwfu, hd, h6, h7, hl, hr⟩ := id h
  refine oX1_betweenObjects (L := [some (.ref (ad 9)), some (.ref a), some (.ref b), some (.int (nI l)), some (.int (nI base)), none, none, none, none, none, none, none]) rfl (Nat.le_of_ble_eq_true rfl) ?_
  generalize hQ : (fun (v : Option Value) (G' : gG) => v = some (.int (nI (oD (Df n) (kids t.2.2) (kids u.2.2)))) ∧ tbCh im ad mc tb base G' (fun _ => True)) = Q
  have tail : ∀ (mc1 : Nat → Option gC) (s i j tr i' j' : Nat) (o : Int32), ((o ≤ 0 ∧ i' = i + 1) ∨ (0 < o ∧ i' = i)) → ((0 ≤ o ∧ j' = j + 1) ∨ (o < 0 ∧ j' = j)) → 0 < tr →
      GW (mX1_betweenObjects (4 * n + 5) 0 0) Q noX (im, ad, mc1) 0 0 20 [some (.ref (ad 9)), some (.ref a), some (.ref b), some (.int (nI l)), some (.int (nI base)), some (.int (nI s)), some (.int (nI i')), some (.int (nI j')), some (.int (nI (tr - 1))), none, none, none] [] →
      GW (mX1_betweenObjects (4 * n + 5) 0 0) Q noX (im, ad, mc1) 0 0 98 [some (.ref (ad 9)), some (.ref a), some (.ref b), some (.int (nI l)), some (.int (nI base)), some (.int (nI s)), some (.int (nI i)), some (.int (nI j)), some (.int (nI tr)), some (.int o), none, none] [] := by
    intro mc1 s i j tr i' j' o hi' hj' htr g
    have second : GW (mX1_betweenObjects (4 * n + 5) 0 0) Q noX (im, ad, mc1) 0 0 113 [some (.ref (ad 9)), some (.ref a), some (.ref b), some (.int (nI l)), some (.int (nI base)), some (.int (nI s)), some (.int (nI i')), some (.int (nI j)), some (.int (nI tr)), some (.int o), none, none] [] := by
      refine GW.iload7 dX1_betweenObjects_113 ?_
      refine GW.iload9 dX1_betweenObjects_115 ?_
      refine GW.if_lt (tgt := 124) dX1_betweenObjects_117 (by decide) (fun h117 => ?_) (fun h117 => ?_)
      · have e : j' = j := by
          rcases hj' with q | q
          · exact absurd h117 (Int32.not_lt.mpr q.1)
          · exact q.2
        subst e
        refine GW.iconst (v := 0) dX1_betweenObjects_124 (by decide) ?_
        refine GW.iadd dX1_betweenObjects_125 ?_
        rw [Int32.add_zero]
        refine GW.istore7 dX1_betweenObjects_126 (g := ?_)
        refine GW.inc8m dX1_betweenObjects_128 (g := ?_)
        refine GW.goto (tgt := 20) dX1_betweenObjects_131 (by decide) ?_
        refine GW.drop 9 ?_
        rw [mI_pred htr]
        exact g
      · have e : j' = j + 1 := by
          rcases hj' with q | q
          · exact q.2
          · exact absurd q.1 h117
        subst e
        refine GW.iconst (v := 1) dX1_betweenObjects_120 (by decide) ?_
        refine GW.goto (tgt := 125) dX1_betweenObjects_121 (by decide) ?_
        refine GW.iadd dX1_betweenObjects_125 ?_
        rw [mI_succ]
        refine GW.istore7 dX1_betweenObjects_126 (g := ?_)
        refine GW.inc8m dX1_betweenObjects_128 (g := ?_)
        refine GW.goto (tgt := 20) dX1_betweenObjects_131 (by decide) ?_
        refine GW.drop 9 ?_
        rw [mI_pred htr]
        exact g
    refine GW.iload6 dX1_betweenObjects_98 ?_
    refine GW.iload9 dX1_betweenObjects_100 ?_
    refine GW.if_gt (tgt := 109) dX1_betweenObjects_102 (by decide) (fun h102 => ?_) (fun h102 => ?_)
    · have e : i' = i := by
        rcases hi' with q | q
        · exact absurd h102 (Int32.not_lt.mpr q.1)
        · exact q.2
      subst e
      refine GW.iconst (v := 0) dX1_betweenObjects_109 (by decide) ?_
      refine GW.iadd dX1_betweenObjects_110 ?_
      rw [Int32.add_zero]
      refine GW.istore6 dX1_betweenObjects_111 (g := ?_)
      exact second
    · have e : i' = i + 1 := by
        rcases hi' with q | q
        · exact q.2
        · exact absurd q.1 h102
      subst e
      refine GW.iconst (v := 1) dX1_betweenObjects_105 (by decide) ?_
      refine GW.goto (tgt := 110) dX1_betweenObjects_106 (by decide) ?_
      refine GW.iadd dX1_betweenObjects_110 ?_
      rw [mI_succ]
      refine GW.istore6 dX1_betweenObjects_111 (g := ?_)
      exact second
  have hbig := oD_le (Df_le n) (kids t.2.2) (kids u.2.2)
  have e1 := szT_kids t
  have e2 := szT_kids u
  have loop : ∀ (m i j s : Nat) (mc1 : Nat → Option gC) (tb1 : Nat → Int32), i ≤ wd t → j ≤ wd u → (wd t - i) + (wd u - j) ≤ m → s + oD (Df n) ((kids t.2.2).drop i) ((kids u.2.2).drop j) = oD (Df n) (kids t.2.2) (kids u.2.2) → (∀ q, q ≠ 10 → mc1 q = mc q) → mc1 10 = some (.inr (0, 2600, .inl tb1)) → (∀ q, q < base → tb1 q = tb q) →
      GW (mX1_betweenObjects (4 * n + 5) 0 0) Q noX (im, ad, mc1) 0 0 20 [some (.ref (ad 9)), some (.ref a), some (.ref b), some (.int (nI l)), some (.int (nI base)), some (.int (nI s)), some (.int (nI i)), some (.int (nI j)), some (.int (nI ((wd t - i) + (wd u - j)))), none, none, none] [] := by
    intro m
    induction m with
    | zero =>
      intro i j s mc1 tb1 hi hj hm hs ho h10 hb
      refine GW.iload8 dX1_betweenObjects_20 ?_
      refine GW.if_le (tgt := 134) dX1_betweenObjects_22 (by decide) (fun h22 => ?_) (fun h22 => ?_)
      · refine GW.iload5 dX1_betweenObjects_134 ?_
        refine GW.ireturn dX1_betweenObjects_136 (Or.inl rfl) (by first | (dsimp only [mX1_betweenObjects, gM.dp, gM.kc, gM.ks]; omega) | exact Nat.le_of_ble_eq_true rfl | exact Nat.le_refl _ | omega) (by first | (dsimp only [mX1_betweenObjects, gM.dp, gM.kc, gM.ks]; omega) | exact Nat.le_of_ble_eq_true rfl | exact Nat.le_refl _ | omega) ?_
        have a1 : (kids t.2.2).drop i = [] := List.drop_eq_nil_of_le (by unfold wd at hm; omega)
        have a2 : (kids u.2.2).drop j = [] := List.drop_eq_nil_of_le (by unfold wd at hm; omega)
        rw [a1, a2, oD_nil, szL_nil, Nat.add_zero] at hs
        subst hQ
        exact ⟨by rw [hs], mc1, tb1, rfl, ho, h10, hb, trivial⟩
      · rw [show (wd t - i) + (wd u - j) = 0 by omega] at h22
        exact absurd (show nI 0 ≤ 0 by decide) h22
    | succ m ih =>
      intro i j s mc1 tb1 hi hj hm hs ho h10 hb
      by_cases hz : (wd t - i) + (wd u - j) = 0
      · exact ih i j s mc1 tb1 hi hj (by omega) hs ho h10 hb
      · have ht1 : tbAt ad mc1 cnt tb1 := ht.ch ho h10
        refine GW.iload8 dX1_betweenObjects_20 ?_
        refine GW.if_le (tgt := 134) dX1_betweenObjects_22 (by decide) (fun h22 => ?_) (fun h22 => ?_)
        · exact absurd ((mI_le (b := 0) (by omega) (by omega)).mp h22) (by omega)
        · refine GW.aload1 dX1_betweenObjects_25 (g := ?_)
          refine GW.iload6 dX1_betweenObjects_26 ?_
          refine GW.aload2 dX1_betweenObjects_28 (g := ?_)
          refine GW.iload7 dX1_betweenObjects_29 ?_
          refine GW.callS0 cs_X1_51 mt_X1_order (c_order (G := (im, ad, mc1)) (i := i) (j := j) hv hu h4 h4u hst hsu (by omega) (by omega)) dX1_betweenObjects_31 rfl rfl (by first | (dsimp only [mX1_betweenObjects, gM.dp, gM.kc, gM.ks]; omega) | exact Nat.le_of_ble_eq_true rfl | exact Nat.le_refl _ | omega) (by decide) (by first | (dsimp only [mX1_betweenObjects, gM.dp, gM.kc, gM.ks]; omega) | exact Nat.le_of_ble_eq_true rfl | exact Nat.le_refl _ | omega) (by first | (dsimp only [mX1_betweenObjects, gM.dp, gM.kc, gM.ks]; omega) | exact Nat.le_of_ble_eq_true rfl | exact Nat.le_refl _ | omega) (by first | exact Nat.le_of_ble_eq_true rfl | (simp [va_rf_cat]; done) | (simp [va_rf_cat, Value.category]; done)) rfl (fun _ _ h => h.elim) (fun v31 G31 hq => ?_)
          obtain ⟨w, rfl, rfl, rfl⟩ := hq
          obtain ⟨d1, d2, d3⟩ := oD_drop (Df n) (xs := kids t.2.2) (ys := kids u.2.2) (i := i) (j := j)
          refine GW.istore9 dX1_betweenObjects_34 (g := ?_)
          refine GW.iload9 dX1_betweenObjects_36 ?_
          rcases ord_cases hwft hwfu h4 h4u hi hj (by omega) with ⟨o0, x, y, hx, hy, hk⟩ | ⟨o0, x, hx, hk⟩ | ⟨o0, o1, y, hy, hk⟩
          · have hi' : i < wd t := (List.getElem?_eq_some_iff.mp hx).1
            have hj' : j < wd u := (List.getElem?_eq_some_iff.mp hy).1
            have hmx := List.mem_of_getElem? hx
            have hmy := List.mem_of_getElem? hy
            have hdx := kid_dp hmx
            have hsx := kid_sz hmx
            have hsy := kid_sz hmy
            refine GW.if_ne (tgt := 73) dX1_betweenObjects_38 (by decide) (fun h38 => ?_) (fun h38 => ?_)
            · exact absurd o0 h38
            · refine GW.iload5 dX1_betweenObjects_41 ?_
              refine GW.aload0 dX1_betweenObjects_43 (g := ?_)
              refine GW.aload1 dX1_betweenObjects_44 (g := ?_)
              refine GW.iload6 dX1_betweenObjects_45 ?_
              refine GW.callV0 cv_X1_55 mt_X8_partAt (c_partAt (G := (im, ad, mc1)) hv hst (nI i)) dX1_betweenObjects_47 (by first | assumption | exact isV.gl (by assumption) | exact tbAt.gl (by assumption)) rfl rfl rfl rfl (by first | (dsimp only [mX1_betweenObjects, gM.dp, gM.kc, gM.ks]; omega) | exact Nat.le_of_ble_eq_true rfl | exact Nat.le_refl _ | omega) (by decide) (by first | (dsimp only [mX1_betweenObjects, gM.dp, gM.kc, gM.ks]; omega) | exact Nat.le_of_ble_eq_true rfl | exact Nat.le_refl _ | omega) (by first | (dsimp only [mX1_betweenObjects, gM.dp, gM.kc, gM.ks]; omega) | exact Nat.le_of_ble_eq_true rfl | exact Nat.le_refl _ | omega) (by first | exact Nat.le_of_ble_eq_true rfl | (simp [va_rf_cat]; done) | (simp [va_rf_cat, Value.category]; done)) rfl (fun _ _ h => h.elim) (fun v47 G47 hq => ?_)
              obtain ⟨r1, rfl, rfl, hq1⟩ := hq
              rw [partT_mI (by omega), kid_some hx] at hq1
              cases r1 with
              | none => exact hq1.elim
              | some b1 =>
                refine GW.aload2 dX1_betweenObjects_50 (g := ?_)
                refine GW.iload7 dX1_betweenObjects_51 ?_
                refine GW.callV0 cv_X1_55 mt_X8_partAt (c_partAt (G := (im, ad, mc1)) hu hsu (nI j)) dX1_betweenObjects_53 (by first | assumption | exact isV.gl (by assumption) | exact tbAt.gl (by assumption)) rfl rfl rfl rfl (by first | (dsimp only [mX1_betweenObjects, gM.dp, gM.kc, gM.ks]; omega) | exact Nat.le_of_ble_eq_true rfl | exact Nat.le_refl _ | omega) (by decide) (by first | (dsimp only [mX1_betweenObjects, gM.dp, gM.kc, gM.ks]; omega) | exact Nat.le_of_ble_eq_true rfl | exact Nat.le_refl _ | omega) (by first | (dsimp only [mX1_betweenObjects, gM.dp, gM.kc, gM.ks]; omega) | exact Nat.le_of_ble_eq_true rfl | exact Nat.le_refl _ | omega) (by first | exact Nat.le_of_ble_eq_true rfl | (simp [va_rf_cat]; done) | (simp [va_rf_cat, Value.category]; done)) rfl (fun _ _ h => h.elim) (fun v53 G53 hq => ?_)
                obtain ⟨r2, rfl, rfl, hq2⟩ := hq
                rw [partT_mI (by omega), kid_some hy] at hq2
                cases r2 with
                | none => exact hq2.elim
                | some b2 =>
                  have hq1 : isV im b1 x.2 := hq1
                  have hq2 : isV im b2 y.2 := hq2
                  have hroom : base + szT x.2 * szT y.2 + dpT x.2 ≤ 2600 := by
                    have := Nat.mul_le_mul (Nat.le_of_lt hsx) (Nat.le_of_lt hsy)
                    omega
                  refine GW.iload3 dX1_betweenObjects_56 ?_
                  refine GW.iconst (v := 1) dX1_betweenObjects_57 (by decide) ?_
                  refine GW.iadd dX1_betweenObjects_58 ?_
                  refine GW.iload4 dX1_betweenObjects_59 ?_
                  rw [mI_succ]
                  refine GW.callV0 cv_X1_24 mt_X1_between (hB (l := l + 1) (base := base) hq1 hq2 (hwft.2.kid x hmx) (hwfu.2.kid y hmy) (by omega) (by omega) (by omega) (by omega) hroom ht1) dX1_betweenObjects_61 (by first | assumption | exact isV.gl (by assumption) | exact tbAt.gl (by assumption)) rfl rfl rfl rfl (by first | (dsimp only [mX1_betweenObjects, gM.dp, gM.kc, gM.ks]; omega) | exact Nat.le_of_ble_eq_true rfl | exact Nat.le_refl _ | omega) (by decide) (by first | (dsimp only [mX1_betweenObjects, gM.dp, gM.kc, gM.ks]; omega) | exact Nat.le_of_ble_eq_true rfl | exact Nat.le_refl _ | omega) (by first | (dsimp only [mX1_betweenObjects, gM.dp, gM.kc, gM.ks]; omega) | exact Nat.le_of_ble_eq_true rfl | exact Nat.le_refl _ | omega) (by first | exact Nat.le_of_ble_eq_true rfl | (simp [va_rf_cat]; done) | (simp [va_rf_cat, Value.category]; done)) rfl (fun _ _ h => h.elim) (fun v61 G61 hq => ?_)
                  obtain ⟨rfl, mc2, tb2, rfl, ho2, h102, hb2, -⟩ := hq
                  refine GW.iadd dX1_betweenObjects_64 ?_
                  rw [mI_add]
                  refine GW.istore5 dX1_betweenObjects_65 (g := ?_)
                  refine GW.inc8m dX1_betweenObjects_67 (g := ?_)
                  refine GW.goto (tgt := 98) dX1_betweenObjects_70 (by decide) ?_
                  rw [mI_pred (by omega)]
                  refine tail mc2 (s + Df n x.2 y.2) i j _ (i + 1) (j + 1) _ (Or.inl ⟨by rw [o0]; exact Int32.le_refl _, rfl⟩) (Or.inl ⟨by rw [o0]; exact Int32.le_refl _, rfl⟩) (by omega) ?_
                  rw [show wd t - i + (wd u - j) - 1 - 1 = (wd t - (i + 1)) + (wd u - (j + 1)) by omega]
                  exact ih (i + 1) (j + 1) (s + Df n x.2 y.2) mc2 tb2 hi' hj' (by omega) (by rw [← hs, d1 x y hx hy hk]; omega) (fun q hq => (ho2 q hq).trans (ho q hq)) h102 (fun q hq => (hb2 q hq).trans (hb q hq))
          · have hi' : i < wd t := (List.getElem?_eq_some_iff.mp hx).1
            refine GW.if_ne (tgt := 73) dX1_betweenObjects_38 (by decide) (fun h38 => ?_) (fun h38 => ?_)
            · refine GW.iload5 dX1_betweenObjects_73 ?_
              refine GW.iload9 dX1_betweenObjects_75 ?_
              refine GW.if_ge (tgt := 89) dX1_betweenObjects_77 (by decide) (fun h77 => ?_) (fun h77 => ?_)
              · exact absurd o0 (Int32.not_lt.mpr h77)
              · refine GW.aload1 dX1_betweenObjects_80 (g := ?_)
                refine GW.iload6 dX1_betweenObjects_81 ?_
                refine GW.callS0 cs_X1_59 mt_X1_sizeAt (c_sizeAt (G := (im, ad, mc1)) hv hst (by omega) hx) dX1_betweenObjects_83 rfl rfl (by first | (dsimp only [mX1_betweenObjects, gM.dp, gM.kc, gM.ks]; omega) | exact Nat.le_of_ble_eq_true rfl | exact Nat.le_refl _ | omega) (by decide) (by first | (dsimp only [mX1_betweenObjects, gM.dp, gM.kc, gM.ks]; omega) | exact Nat.le_of_ble_eq_true rfl | exact Nat.le_refl _ | omega) (by first | (dsimp only [mX1_betweenObjects, gM.dp, gM.kc, gM.ks]; omega) | exact Nat.le_of_ble_eq_true rfl | exact Nat.le_refl _ | omega) (by first | exact Nat.le_of_ble_eq_true rfl | (simp [va_rf_cat]; done) | (simp [va_rf_cat, Value.category]; done)) rfl (fun _ _ h => h.elim) (fun v83 G83 hq => ?_)
                obtain ⟨w, rfl, rfl, rfl⟩ := hq
                refine GW.goto (tgt := 95) dX1_betweenObjects_86 (by decide) ?_
                refine GW.iadd dX1_betweenObjects_95 ?_
                rw [mI_add]
                refine GW.istore5 dX1_betweenObjects_96 (g := ?_)
                refine tail mc1 (s + szT x.2) i j _ (i + 1) j _ (Or.inl ⟨Int32.le_of_lt o0, rfl⟩) (Or.inr ⟨o0, rfl⟩) (by omega) ?_
                rw [show wd t - i + (wd u - j) - 1 = (wd t - (i + 1)) + (wd u - j) by omega]
                exact ih (i + 1) j (s + szT x.2) mc1 tb1 hi' hj (by omega) (by rw [← hs, d2 x hx hk]; omega) ho h10 hb
            · rw [h38] at o0
              exact absurd o0 i32_irr
          · have hj' : j < wd u := (List.getElem?_eq_some_iff.mp hy).1
            have hpos := i32_gt o0 o1
            refine GW.if_ne (tgt := 73) dX1_betweenObjects_38 (by decide) (fun h38 => ?_) (fun h38 => ?_)
            · refine GW.iload5 dX1_betweenObjects_73 ?_
              refine GW.iload9 dX1_betweenObjects_75 ?_
              refine GW.if_ge (tgt := 89) dX1_betweenObjects_77 (by decide) (fun h77 => ?_) (fun h77 => ?_)
              · refine GW.aload2 dX1_betweenObjects_89 (g := ?_)
                refine GW.iload7 dX1_betweenObjects_90 ?_
                refine GW.callS0 cs_X1_59 mt_X1_sizeAt (c_sizeAt (G := (im, ad, mc1)) hu hsu (by omega) hy) dX1_betweenObjects_92 rfl rfl (by first | (dsimp only [mX1_betweenObjects, gM.dp, gM.kc, gM.ks]; omega) | exact Nat.le_of_ble_eq_true rfl | exact Nat.le_refl _ | omega) (by decide) (by first | (dsimp only [mX1_betweenObjects, gM.dp, gM.kc, gM.ks]; omega) | exact Nat.le_of_ble_eq_true rfl | exact Nat.le_refl _ | omega) (by first | (dsimp only [mX1_betweenObjects, gM.dp, gM.kc, gM.ks]; omega) | exact Nat.le_of_ble_eq_true rfl | exact Nat.le_refl _ | omega) (by first | exact Nat.le_of_ble_eq_true rfl | (simp [va_rf_cat]; done) | (simp [va_rf_cat, Value.category]; done)) rfl (fun _ _ h => h.elim) (fun v92 G92 hq => ?_)
                obtain ⟨w, rfl, rfl, rfl⟩ := hq
                refine GW.iadd dX1_betweenObjects_95 ?_
                rw [mI_add]
                refine GW.istore5 dX1_betweenObjects_96 (g := ?_)
                refine tail mc1 (s + szT y.2) i j _ i (j + 1) _ (Or.inr ⟨hpos, rfl⟩) (Or.inl ⟨Int32.le_of_lt hpos, rfl⟩) (by omega) ?_
                rw [show wd t - i + (wd u - j) - 1 = (wd t - i) + (wd u - (j + 1)) by omega]
                exact ih i (j + 1) (s + szT y.2) mc1 tb1 hi hj' (by omega) (by rw [← hs, d3 y hy hk]; omega) ho h10 hb
              · exact absurd (Int32.le_of_lt hpos) h77
            · exact absurd h38 o0
  refine GW.iconst (v := 0) dX1_betweenObjects_0 (by decide) ?_
  refine GW.istore5 dX1_betweenObjects_1 (g := ?_)
  refine GW.iconst (v := 0) dX1_betweenObjects_3 (by decide) ?_
  refine GW.istore6 dX1_betweenObjects_4 (g := ?_)
  refine GW.iconst (v := 0) dX1_betweenObjects_6 (by decide) ?_
  refine GW.istore7 dX1_betweenObjects_7 (g := ?_)
  refine GW.aload1 dX1_betweenObjects_9 (g := ?_)
  refine GW.callV0 cv_X1_47 mt_X8_width (c_width (G := (im, ad, mc)) hv) dX1_betweenObjects_10 (by first | assumption | exact isV.gl (by assumption) | exact tbAt.gl (by assumption)) rfl rfl rfl rfl (by first | (dsimp only [mX1_betweenObjects, gM.dp, gM.kc, gM.ks]; omega) | exact Nat.le_of_ble_eq_true rfl | exact Nat.le_refl _ | omega) (by decide) (by first | (dsimp only [mX1_betweenObjects, gM.dp, gM.kc, gM.ks]; omega) | exact Nat.le_of_ble_eq_true rfl | exact Nat.le_refl _ | omega) (by first | (dsimp only [mX1_betweenObjects, gM.dp, gM.kc, gM.ks]; omega) | exact Nat.le_of_ble_eq_true rfl | exact Nat.le_refl _ | omega) (by first | exact Nat.le_of_ble_eq_true rfl | (simp [va_rf_cat]; done) | (simp [va_rf_cat, Value.category]; done)) rfl (fun _ _ h => h.elim) (fun v10 G10 hq => ?_)
  obtain ⟨w, rfl, rfl, rfl⟩ := hq
  refine GW.aload2 dX1_betweenObjects_13 (g := ?_)
  refine GW.callV0 cv_X1_47 mt_X8_width (c_width (G := (im, ad, mc)) hu) dX1_betweenObjects_14 (by first | assumption | exact isV.gl (by assumption) | exact tbAt.gl (by assumption)) rfl rfl rfl rfl (by first | (dsimp only [mX1_betweenObjects, gM.dp, gM.kc, gM.ks]; omega) | exact Nat.le_of_ble_eq_true rfl | exact Nat.le_refl _ | omega) (by decide) (by first | (dsimp only [mX1_betweenObjects, gM.dp, gM.kc, gM.ks]; omega) | exact Nat.le_of_ble_eq_true rfl | exact Nat.le_refl _ | omega) (by first | (dsimp only [mX1_betweenObjects, gM.dp, gM.kc, gM.ks]; omega) | exact Nat.le_of_ble_eq_true rfl | exact Nat.le_refl _ | omega) (by first | exact Nat.le_of_ble_eq_true rfl | (simp [va_rf_cat]; done) | (simp [va_rf_cat, Value.category]; done)) rfl (fun _ _ h => h.elim) (fun v14 G14 hq => ?_)
  obtain ⟨w, rfl, rfl, rfl⟩ := hq
  refine GW.iadd dX1_betweenObjects_17 ?_
  rw [mI_add]
  refine GW.istore8 dX1_betweenObjects_18 (g := ?_)
  exact loop (wd t + wd u) 0 0 0 mc tb (Nat.zero_le _) (Nat.zero_le _) (Nat.le_refl _) (by rw [List.drop_zero, List.drop_zero, Nat.zero_add]) (fun _ _ => rfl) ht.2 (fun _ _ => rfl)
theorem Df_l (n : Nat) {t u : Tr} (h : t.1 = 3 ∧ u.1 = 3) : Df (n + 1) t u = lD (Df n) (kids t.2.2) (kids u.2.2) := if_pos h
theorem Df_o (n : Nat) {t u : Tr} (h : t.1 = 4 ∧ u.1 = 4) : Df (n + 1) t u = oD (Df n) (kids t.2.2) (kids u.2.2) := (if_neg (fun q : t.1 = 3 ∧ u.1 = 3 => absurd (h.1.symm.trans q.1) (by decide))).trans (if_pos h)
theorem Df_p (n : Nat) {t u : Tr} (h3 : ¬ (t.1 = 3 ∧ u.1 = 3)) (h4 : ¬ (t.1 = 4 ∧ u.1 = 4)) : Df (n + 1) t u = if t.1 = u.1 ∧ t.2.1 = u.2.1 then 0 else szT t + szT u := (if_neg h3).trans (if_neg h4)
end GROUP
theorem Bt_succ {n : Nat} (hB : Bt n) : Bt (n + 1) := by
  intro im ad mc cnt tb a b l base t u hv hu hwft hwfu hd h6 h7 hl hr ht
  have h : bP im a b l base n t u := ⟨hv, hu, hwft, hwfu, hd, h6, h7, hl, hr⟩
  have lt9 := tbAt.gl (G := (im, ad, mc)) ht
  obtain ⟨kr, pq, hnd, -, -⟩ := id hv.node
  obtain ⟨kr', pq', hnd', -, -⟩ := id hu.node
  have ha : ∀ mc, gL (im, ad, mc) a (.inl (8, _)) := fun _ => Or.inl hnd
  have hb : ∀ mc, gL (im, ad, mc) b (.inl (8, _)) := fun _ => Or.inl hnd'
  have la := ha mc
  have lb := hb mc
  refine oX1_between (L := [some (.ref (ad 9)), some (va_rf (some a)), some (va_rf (some b)), some (.int (nI l)), some (.int (nI base)), none, none, none, none, none, none, none]) rfl (Nat.le_of_ble_eq_true rfl) ?_
  generalize hQ : (fun (v : Option Value) (G' : gG) => v = some (.int (nI (Df (n + 1) t u))) ∧ tbCh im ad mc tb base G' (fun _ => True)) = Q
  have same : ∀ v, v = nI (Df (n + 1) t u) → Q (some (.int v)) (im, ad, mc) := fun v hv' => by
    subst hQ
    exact ⟨by rw [hv'], mc, tb, rfl, fun _ _ => rfl, ht.2, fun _ _ => rfl, trivial⟩
  have plain : ¬ (t.1 = 3 ∧ u.1 = 3) → ¬ (t.1 = 4 ∧ u.1 = 4) → GW (mX1_between (4 * (n + 1) + 4) 0 0) Q noX (im, ad, mc) 0 0 101 [some (.ref (ad 9)), some (va_rf (some a)), some (va_rf (some b)), some (.int (nI l)), some (.int (nI base)), none, none, none, none, none, none, none] [] := by
    intro h3 h4
    have no : ¬ (t.1 = u.1 ∧ t.2.1 = u.2.1) → GW (mX1_between (4 * (n + 1) + 4) 0 0) Q noX (im, ad, mc) 0 0 127 [some (.ref (ad 9)), some (va_rf (some a)), some (va_rf (some b)), some (.int (nI l)), some (.int (nI base)), none, none, none, none, none, none, none] [] := by
      intro hne
      refine GW.aload1 dX1_between_127 (g := ?_)
      refine GW.getf fl_X1_38 dX1_between_128 (by assumption) (by rfl) ?_
      refine GW.aload2 dX1_between_131 (g := ?_)
      refine GW.getf fl_X1_38 dX1_between_132 (by assumption) (by rfl) ?_
      refine GW.iadd dX1_between_135 ?_
      rw [mI_add]
      refine GW.ireturn dX1_between_136 (Or.inl rfl) (by first | (dsimp only [mX1_between, gM.dp, gM.kc, gM.ks]; omega) | exact Nat.le_of_ble_eq_true rfl | exact Nat.le_refl _ | omega) (by first | (dsimp only [mX1_between, gM.dp, gM.kc, gM.ks]; omega) | exact Nat.le_of_ble_eq_true rfl | exact Nat.le_refl _ | omega) ?_
      exact same _ (by rw [Df_p n h3 h4, if_neg hne])
    refine GW.aload1 dX1_between_101 (g := ?_)
    refine GW.getf fl_X1_28 dX1_between_102 (by assumption) (by rfl) ?_
    refine GW.aload2 dX1_between_105 (g := ?_)
    refine GW.getf fl_X1_28 dX1_between_106 (by assumption) (by rfl) ?_
    refine GW.icmp_ne (tgt := 127) dX1_between_109 (by decide) (fun h109 => ?_) (fun h109 => ?_)
    · exact no fun q => h109 q.1
    · refine GW.aload1 dX1_between_112 (g := ?_)
      refine GW.getf fl_X1_44 dX1_between_113 (by assumption) (by rfl) ?_
      refine GW.aload2 dX1_between_116 (g := ?_)
      refine GW.getf fl_X1_44 dX1_between_117 (by assumption) (by rfl) ?_
      refine GW.icmp_ne (tgt := 127) dX1_between_120 (by decide) (fun h120 => ?_) (fun h120 => ?_)
      · exact no fun q => h120 q.2
      · refine GW.iconst (v := 0) dX1_between_123 (by decide) ?_
        refine GW.goto (tgt := 136) dX1_between_124 (by decide) ?_
        refine GW.ireturn dX1_between_136 (Or.inl rfl) (by first | (dsimp only [mX1_between, gM.dp, gM.kc, gM.ks]; omega) | exact Nat.le_of_ble_eq_true rfl | exact Nat.le_refl _ | omega) (by first | (dsimp only [mX1_between, gM.dp, gM.kc, gM.ks]; omega) | exact Nat.le_of_ble_eq_true rfl | exact Nat.le_refl _ | omega) ?_
        exact same _ (by rw [Df_p n h3 h4, if_pos ⟨h109, h120⟩]; rfl)
  have objs : ¬ (t.1 = 3 ∧ u.1 = 3) → GW (mX1_between (4 * (n + 1) + 4) 0 0) Q noX (im, ad, mc) 0 0 69 [some (.ref (ad 9)), some (va_rf (some a)), some (va_rf (some b)), some (.int (nI l)), some (.int (nI base)), none, none, none, none, none, none, none] [] := by
    intro h3
    refine GW.iload3 dX1_between_69 ?_
    refine GW.bipush (v := 40) dX1_between_70 (by decide) ?_
    refine GW.icmp_gt (tgt := 101) dX1_between_72 (by decide) (fun h72 => ?_) (fun h72 => ?_)
    · exact absurd ((mI_lt (a := 40) (by omega) (by omega)).mp h72) (by omega)
    · refine GW.aload1 dX1_between_75 (g := ?_)
      refine GW.getf fl_X1_28 dX1_between_76 (by assumption) (by rfl) ?_
      refine GW.iconst (v := 4) dX1_between_79 (by decide) ?_
      refine GW.icmp_ne (tgt := 101) dX1_between_80 (by decide) (fun h80 => ?_) (fun h80 => ?_)
      · exact plain h3 fun q => h80 q.1
      · refine GW.aload2 dX1_between_83 (g := ?_)
        refine GW.getf fl_X1_28 dX1_between_84 (by assumption) (by rfl) ?_
        refine GW.iconst (v := 4) dX1_between_87 (by decide) ?_
        refine GW.icmp_ne (tgt := 101) dX1_between_88 (by decide) (fun h88 => ?_) (fun h88 => ?_)
        · exact plain h3 fun q => h88 q.2
        · refine GW.aload0 dX1_between_91 (g := ?_)
          refine GW.aload1 dX1_between_92 (g := ?_)
          refine GW.aload2 dX1_between_93 (g := ?_)
          refine GW.iload3 dX1_between_94 ?_
          refine GW.iload4 dX1_between_95 ?_
          refine GW.callV0 cv_X1_41 mt_X1_betweenObjects (c_betweenObjects hB h ht h80 h88) dX1_between_97 (by first | assumption | exact isV.gl (by assumption) | exact tbAt.gl (by assumption)) rfl rfl rfl rfl (by first | (dsimp only [mX1_between, gM.dp, gM.kc, gM.ks]; omega) | exact Nat.le_of_ble_eq_true rfl | exact Nat.le_refl _ | omega) (by decide) (by first | (dsimp only [mX1_between, gM.dp, gM.kc, gM.ks]; omega) | exact Nat.le_of_ble_eq_true rfl | exact Nat.le_refl _ | omega) (by first | (dsimp only [mX1_between, gM.dp, gM.kc, gM.ks]; omega) | exact Nat.le_of_ble_eq_true rfl | exact Nat.le_refl _ | omega) (by first | exact Nat.le_of_ble_eq_true rfl | (simp [va_rf_cat]; done) | (simp [va_rf_cat, Value.category]; done)) rfl (fun _ _ h => h.elim) (fun v97 G97 hq => ?_)
          obtain ⟨rfl, hch⟩ := hq
          refine GW.ireturn dX1_between_100 (Or.inl rfl) (by first | (dsimp only [mX1_between, gM.dp, gM.kc, gM.ks]; omega) | exact Nat.le_of_ble_eq_true rfl | exact Nat.le_refl _ | omega) (by first | (dsimp only [mX1_between, gM.dp, gM.kc, gM.ks]; omega) | exact Nat.le_of_ble_eq_true rfl | exact Nat.le_refl _ | omega) ?_
          subst hQ
          exact ⟨by rw [Df_o n ⟨h80, h88⟩], hch⟩
  refine GW.aload1 dX1_between_0 (g := ?_)
  refine GW.aload2 dX1_between_1 (g := ?_)
  refine GW.acmp_eq (tgt := 13) dX1_between_2 (by decide) (fun h2 => ?_) (fun h2 => ?_)
  · cases h2
    refine GW.iconst (v := 0) dX1_between_13 (by decide) ?_
    refine GW.ireturn dX1_between_14 (Or.inl rfl) (by first | (dsimp only [mX1_between, gM.dp, gM.kc, gM.ks]; omega) | exact Nat.le_of_ble_eq_true rfl | exact Nat.le_refl _ | omega) (by first | (dsimp only [mX1_between, gM.dp, gM.kc, gM.ks]; omega) | exact Nat.le_of_ble_eq_true rfl | exact Nat.le_refl _ | omega) ?_
    refine same _ ?_
    rw [isV_inj _ t u _ (Nat.le_refl _) hwft hwfu hv hu, Df_self]
    rfl
  · refine GW.aload1 dX1_between_5 (g := ?_)
    refine GW.ifnull (tgt := 13) dX1_between_6 (by decide) (fun h6 => ?_) (fun r6 h6 => ?_)
    · cases h6
    · refine GW.aload2 dX1_between_9 (g := ?_)
      refine GW.ifnonnull (tgt := 15) dX1_between_10 (by decide) (fun r10 h10 => ?_) (fun h10 => ?_)
      · refine GW.iload3 dX1_between_15 ?_
        refine GW.bipush (v := 40) dX1_between_16 (by decide) ?_
        refine GW.icmp_gt (tgt := 69) dX1_between_18 (by decide) (fun h18 => ?_) (fun h18 => ?_)
        · exact absurd ((mI_lt (a := 40) (by omega) (by omega)).mp h18) (by omega)
        · refine GW.aload1 dX1_between_21 (g := ?_)
          refine GW.getf fl_X1_28 dX1_between_22 (by assumption) (by rfl) ?_
          refine GW.iconst (v := 3) dX1_between_25 (by decide) ?_
          refine GW.icmp_ne (tgt := 69) dX1_between_26 (by decide) (fun h26 => ?_) (fun h26 => ?_)
          · exact objs fun q => h26 q.1
          · refine GW.aload2 dX1_between_29 (g := ?_)
            refine GW.getf fl_X1_28 dX1_between_30 (by assumption) (by rfl) ?_
            refine GW.iconst (v := 3) dX1_between_33 (by decide) ?_
            refine GW.icmp_ne (tgt := 69) dX1_between_34 (by decide) (fun h34 => ?_) (fun h34 => ?_)
            · exact objs fun q => h34 q.2
            · refine GW.aload0 dX1_between_37 (g := ?_)
              refine GW.aload1 dX1_between_38 (g := ?_)
              refine GW.aload2 dX1_between_39 (g := ?_)
              refine GW.iload3 dX1_between_40 ?_
              refine GW.iload4 dX1_between_41 ?_
              refine GW.callV0 cv_X1_34 mt_X1_fillTable (c_fillTable hB h ht) dX1_between_43 (by first | assumption | exact isV.gl (by assumption) | exact tbAt.gl (by assumption)) rfl rfl rfl rfl (by first | (dsimp only [mX1_between, gM.dp, gM.kc, gM.ks]; omega) | exact Nat.le_of_ble_eq_true rfl | exact Nat.le_refl _ | omega) (by decide) (by first | (dsimp only [mX1_between, gM.dp, gM.kc, gM.ks]; omega) | exact Nat.le_of_ble_eq_true rfl | exact Nat.le_refl _ | omega) (by first | (dsimp only [mX1_between, gM.dp, gM.kc, gM.ks]; omega) | exact Nat.le_of_ble_eq_true rfl | exact Nat.le_refl _ | omega) (by first | exact Nat.le_of_ble_eq_true rfl | (simp [va_rf_cat]; done) | (simp [va_rf_cat, Value.category]; done)) rfl (fun _ _ h => h.elim) (fun v43 G43 hq => ?_)
              obtain ⟨rfl, mc1, tb1, rfl, ho, h10, htb, hg⟩ := hq
              have ht1 : tbAt ad mc1 cnt tb1 := ht.ch ho h10
              have lt91 := tbAt.gl (G := (im, ad, mc1)) ht1
              have l10 : gL (im, ad, mc1) (ad 10) (.inr (0, 2600, .inl tb1)) := Or.inr ⟨10, rfl, ht1.2⟩
              have hc := roomB (t := t) (u := u) (base := base) (i := 0) (j := 0) (Nat.zero_le _) (Nat.zero_le _) hr
              have hix : gIx (nI base) base 2600 := mI_ix (by omega) (by omega)
              refine GW.if_eq (tgt := 59) dX1_between_46 (by decide) (fun h46 => ?_) (fun h46 => ?_)
              · exact absurd h46 (by decide)
              · refine GW.aload0 dX1_between_49 (g := ?_)
                refine GW.getf fl_X1_9 dX1_between_50 (by assumption) (by rfl) ?_
                refine GW.iload4 dX1_between_53 ?_
                refine GW.iald dX1_between_55 (by assumption) (by assumption) ?_
                refine GW.goto (tgt := 68) dX1_between_56 (by decide) ?_
                refine GW.ireturn dX1_between_68 (Or.inl rfl) (by first | (dsimp only [mX1_between, gM.dp, gM.kc, gM.ks]; omega) | exact Nat.le_of_ble_eq_true rfl | exact Nat.le_refl _ | omega) (by first | (dsimp only [mX1_between, gM.dp, gM.kc, gM.ks]; omega) | exact Nat.le_of_ble_eq_true rfl | exact Nat.le_refl _ | omega) ?_
                subst hQ
                refine ⟨?_, mc1, tb1, rfl, ho, h10, htb, trivial⟩
                have := hg 0 0 (Nat.zero_le _) (Nat.zero_le _) (Or.inr ⟨rfl, Nat.le_refl _⟩)
                simp only [Nat.zero_mul, Nat.add_zero, List.drop_zero] at this
                rw [this, Df_l n ⟨h26, h34⟩]
      · cases h10
theorem Bt_all (n : Nat) : Bt n := by
  induction n with
  | zero =>
    intro im ad mc cnt tb a b l base t u _ _ _ _ hd
    have : 1 ≤ dpT t := Nat.le_add_right 1 _
    omega
  | succ n ih => exact Bt_succ ih
abbrev mX1_compare (d kc ks : Nat) : gM := (RX1, cX1_compare, 3, (some .int), [], "compare", d, kc, ks)
abbrev kX1_compare (d kc ks : Nat) (as : List Value) (G : gG) (Q : Option Value → gG → Prop) (X : String → gG → Prop) : Prop := Ctr yX1_compare cX1_compare 3 (some .int) d kc ks as G Q X
theorem oX1_compare {d kc ks : Nat} {as : List Value} {G : gG} {Q : Option Value → gG → Prop} {X : String → gG → Prop} {L : List (Option Value)} (hL : gEnt as = L) (hlen : (lg_sl as).length ≤ 3) (g : GW (mX1_compare d kc ks) Q X G 0 0 0 L []) : kX1_compare d kc ks as G Q X := Ctr.of (by decide +kernel) rfl rfl hL hlen g
theorem c_compare {im : gIm} {ad : Nat → Nat} {mc : Nat → Option gC} {cnt : Int32} {tb : Nat → Int32} {a b : Nat} {t u : Tr} (hv : isV im a t) (hu : isV im b u) (hwt : wfT t) (hwu : wfT u) (hd : dpT t ≤ 7) (h6 : szT t ≤ 50) (h7 : szT u ≤ 50) (ht : tbAt ad mc cnt tb) :
    kX1_compare 33 0 0 [.ref (ad 9), .ref a, .ref b] (im, ad, mc) (fun v G' => v = some (.int (nI (Df 7 t u))) ∧ tbCh im ad mc tb 0 G' (fun _ => True)) noX := by
  have hr : 0 + szT t * szT u + dpT t ≤ 2600 := by
    have := Nat.mul_le_mul h6 h7
    omega
  refine oX1_compare (L := [some (.ref (ad 9)), some (.ref a), some (.ref b), none, none, none, none, none, none, none, none, none]) rfl (Nat.le_of_ble_eq_true rfl) ?_
  refine GW.aload0 dX1_compare_0 (g := ?_)
  refine GW.aload1 dX1_compare_1 (g := ?_)
  refine GW.aload2 dX1_compare_2 (g := ?_)
  refine GW.iconst (v := 0) dX1_compare_3 (by decide) ?_
  refine GW.iconst (v := 0) dX1_compare_4 (by decide) ?_
  refine GW.callV0 cv_X1_24 mt_X1_between (Bt_all 7 (l := 0) (base := 0) hv hu hwt hwu hd h6 h7 (by omega) hr ht) dX1_compare_5 (by first | assumption | exact isV.gl (by assumption) | exact tbAt.gl (by assumption)) rfl rfl rfl rfl (by first | (dsimp only [mX1_compare, gM.dp, gM.kc, gM.ks]; omega) | exact Nat.le_of_ble_eq_true rfl | exact Nat.le_refl _ | omega) (by decide) (by first | (dsimp only [mX1_compare, gM.dp, gM.kc, gM.ks]; omega) | exact Nat.le_of_ble_eq_true rfl | exact Nat.le_refl _ | omega) (by first | (dsimp only [mX1_compare, gM.dp, gM.kc, gM.ks]; omega) | exact Nat.le_of_ble_eq_true rfl | exact Nat.le_refl _ | omega) (by first | exact Nat.le_of_ble_eq_true rfl | (simp [va_rf_cat]; done) | (simp [va_rf_cat, Value.category]; done)) rfl (fun _ _ h => h.elim) (fun v5 G5 hq => ?_)
  obtain ⟨rfl, hch⟩ := hq
  refine GW.ireturn dX1_compare_8 (Or.inl rfl) (by first | (dsimp only [mX1_compare, gM.dp, gM.kc, gM.ks]; omega) | exact Nat.le_of_ble_eq_true rfl | exact Nat.le_refl _ | omega) (by first | (dsimp only [mX1_compare, gM.dp, gM.kc, gM.ks]; omega) | exact Nat.le_of_ble_eq_true rfl | exact Nat.le_refl _ | omega) ?_
  exact ⟨rfl, hch⟩
