/-! DIFFER, write: writeLists, writeObjects -/
theorem Wl_drop (f w pre) {xs ys : List (Int32 × Tr)} {i j : Nat} :
    (∀ x y, xs[i]? = some x → ys[j]? = some y → Wl f w pre (xs.drop i) (ys.drop j) j = if lD f (xs.drop i) (ys.drop j) = f x.2 y.2 + lD f (xs.drop (i + 1)) (ys.drop (j + 1)) then w (pre ++ [nI j]) x.2 y.2 ++ Wl f w pre (xs.drop (i + 1)) (ys.drop (j + 1)) (j + 1) else if lD f (xs.drop i) (ys.drop j) = szT x.2 + lD f (xs.drop (i + 1)) (ys.drop j) then dOp pre (nI j) :: Wl f w pre (xs.drop (i + 1)) (ys.drop j) j else aOp pre (nI j) y.2 :: Wl f w pre (xs.drop i) (ys.drop (j + 1)) (j + 1)) ∧
    (∀ x, xs[i]? = some x → ys[j]? = none → Wl f w pre (xs.drop i) (ys.drop j) j = dOp pre (nI j) :: Wl f w pre (xs.drop (i + 1)) (ys.drop j) j ∧ lD f (xs.drop i) (ys.drop j) = szT x.2 + lD f (xs.drop (i + 1)) (ys.drop j)) ∧
    (∀ y, xs[i]? = none → ys[j]? = some y → Wl f w pre (xs.drop i) (ys.drop j) j = aOp pre (nI j) y.2 :: Wl f w pre (xs.drop i) (ys.drop (j + 1)) (j + 1)) := by
  refine ⟨fun x y hx hy => ?_, fun x hx hy => ?_, fun y hx hy => ?_⟩
  · rw [drop_cons hx, drop_cons hy, Wl_cons]
  · have e : ys.drop j = [] := List.drop_eq_nil_of_le (by rw [List.getElem?_eq_none_iff] at hy; exact hy)
    rw [e, drop_cons hx, Wl_nil2, lD_nil2, lD_nil2, szL_cons]
    exact ⟨rfl, rfl⟩
  · have e : xs.drop i = [] := List.drop_eq_nil_of_le (by rw [List.getElem?_eq_none_iff] at hx; exact hx)
    rw [e, drop_cons hy]
    rfl
theorem Wo_drop (w pre) {xs ys : List (Int32 × Tr)} {i j : Nat} :
    (∀ x y, xs[i]? = some x → ys[j]? = some y → x.1 = y.1 → Wo w pre (xs.drop i) (ys.drop j) = w (pre ++ [x.1]) x.2 y.2 ++ Wo w pre (xs.drop (i + 1)) (ys.drop (j + 1))) ∧
    (∀ x, xs[i]? = some x → (∀ y, ys[j]? = some y → x.1 ≠ y.1 ∧ x.1 < y.1) → Wo w pre (xs.drop i) (ys.drop j) = dOp pre x.1 :: Wo w pre (xs.drop (i + 1)) (ys.drop j)) ∧
    (∀ y, ys[j]? = some y → (∀ x, xs[i]? = some x → x.1 ≠ y.1 ∧ ¬ x.1 < y.1) → Wo w pre (xs.drop i) (ys.drop j) = aOp pre y.1 y.2 :: Wo w pre (xs.drop i) (ys.drop (j + 1))) := by
  refine ⟨fun x y hx hy he => ?_, fun x hx h => ?_, fun y hy h => ?_⟩
  · rw [drop_cons hx, drop_cons hy, Wo_cons, if_pos he]
  · rw [drop_cons hx]
    cases hy : ys[j]? with
    | none =>
      have e : ys.drop j = [] := List.drop_eq_nil_of_le (by rw [List.getElem?_eq_none_iff] at hy; exact hy)
      rw [e]
      rfl
    | some y =>
      obtain ⟨h1, h2⟩ := h y hy
      rw [drop_cons hy, Wo_cons, if_neg h1, if_pos h2]
  · rw [drop_cons hy]
    cases hx : xs[i]? with
    | none =>
      have e : xs.drop i = [] := List.drop_eq_nil_of_le (by rw [List.getElem?_eq_none_iff] at hx; exact hx)
      rw [e]
      rfl
    | some x =>
      obtain ⟨h1, h2⟩ := h x hx
      rw [drop_cons hx, Wo_cons, if_neg h1, if_neg h2]
theorem tbG.keep {tb tb1 : Nat → Int32} {f : Tr → Tr → Nat} {base : Nat} {t u : Tr} (h : tbG tb f base t u 0 0) (hr : base + szT t * szT u + dpT t ≤ 2600) (h1 : ∀ q, q < base + (wd t + 1) * (wd u + 1) → tb1 q = tb q) : tbG tb1 f base t u 0 0 := fun i' j' hi hj hc => by
  rw [h1 _ (roomB hi hj hr).1]
  exact h i' j' hi hj hc
theorem tbG.all {tb : Nat → Int32} {f : Tr → Tr → Nat} {base : Nat} {t u : Tr} (h : tbG tb f base t u 0 0) {i j : Nat} (hi : i ≤ wd t) (hj : j ≤ wd u) : tb (base + i * (wd u + 1) + j) = nI (lD f ((kids t.2.2).drop i) ((kids u.2.2).drop j)) := h i j hi hj (by omega)
section WG
variable {im : gIm} {ad : Nat → Nat} {mc : Nat → Option gC} {tb pf : Nat → Int32} {wr : Nat → Option Nat} {os : List OpT} {pre : List Int32} {a b l base n : Nat} {t u : Tr}
/-- while writing: what stands after the operations 'done' -/
def wLS (im : gIm) (ad : Nat → Nat) (mc : Nat → Option gC) (tb pf : Nat → Int32) (os : List OpT) (base l : Nat) (done : List OpT) (im1 : gIm) (mc1 : Nat → Option gC) (tb1 pf1 : Nat → Int32) (wr1 : Nat → Option Nat) : Prop :=
  gLe im im1 ∧ (∀ q, q ≠ 9 → q ≠ 10 → q ≠ 11 → q ≠ 12 → mc1 q = mc q) ∧ wrAt im1 ad mc1 tb1 pf1 wr1 (os ++ done) ∧ (∀ q, q < base → tb1 q = tb q) ∧ (∀ q, q < l → pf1 q = pf q)
theorem wLS.frG {done : List OpT} {im1 : gIm} {mc1 : Nat → Option gC} {tb1 pf1 : Nat → Int32} {wr1 : Nat → Option Nat} (h : wLS im ad mc tb pf os base l done im1 mc1 tb1 pf1 wr1) (h9 : _root_.Jvm.Pilot.CMarlStoreLaw_law_r1597_55c78a.frG (im, ad, mc)) : _root_.Jvm.Pilot.CMarlStoreLaw_law_r1597_55c78a.frG (im1, ad, mc1) := fun q hq => (h.2.1 q (by omega) (by omega) (by omega) (by omega)).trans (h9 q hq)
theorem wLS.prs {done : List OpT} {im1 : gIm} {mc1 : Nat → Option gC} {tb1 pf1 : Nat → Int32} {wr1 : Nat → Option Nat} (h : wLS im ad mc tb pf os base l done im1 mc1 tb1 pf1 wr1) (hpre : stps pf 0 l = pre) : stps pf1 0 l = pre := by
  rw [← hpre]
  exact stps_congr fun i hi => h.2.2.2.2 i hi
/-- one more step: what a writer left, over what stood -/
theorem wLS.next {done ws : List OpT} {im1 im2 : gIm} {mc1 mc2 : Nat → Option gC} {tb1 pf1 tb2 pf2 : Nat → Int32} {wr1 wr2 : Nat → Option Nat} {base2 l2 : Nat} (h : wLS im ad mc tb pf os base l done im1 mc1 tb1 pf1 wr1) (hb : base ≤ base2) (hl : l ≤ l2) (g1 : gLe im1 im2) (g3 : ∀ q, q ≠ 9 → q ≠ 10 → q ≠ 11 → q ≠ 12 → mc2 q = mc1 q) (g4 : wrAt im2 ad mc2 tb2 pf2 wr2 ((os ++ done) ++ ws)) (g5 : ∀ q, q < base2 → tb2 q = tb1 q) (g6 : ∀ q, q < l2 → pf2 q = pf1 q) : wLS im ad mc tb pf os base l (done ++ ws) im2 mc2 tb2 pf2 wr2 :=
  ⟨h.1.tr g1, fun q e1 e2 e3 e4 => (g3 q e1 e2 e3 e4).trans (h.2.1 q e1 e2 e3 e4), by rw [← List.append_assoc]; exact g4, fun q hq => (g5 q (by omega)).trans (h.2.2.2.1 q hq), fun q hq => (g6 q (by omega)).trans (h.2.2.2.2 q hq)⟩
theorem wLS.post {W : List OpT} {im1 : gIm} {mc1 : Nat → Option gC} {tb1 pf1 : Nat → Int32} {wr1 : Nat → Option Nat} (h : wLS im ad mc tb pf os base l W im1 mc1 tb1 pf1 wr1) : wPost im ad mc tb pf base l (os ++ W) none (im1, ad, mc1) := ⟨rfl, im1, mc1, tb1, pf1, wr1, h.1, rfl, h.2.1, h.2.2.1, h.2.2.2.1, h.2.2.2.2⟩
theorem wLS.zero (hw : wrAt im ad mc tb pf wr os) : wLS im ad mc tb pf os base l [] im mc tb pf wr := ⟨gLe.rf _, fun _ _ _ _ _ => rfl, by rw [List.append_nil]; exact hw, fun _ _ => rfl, fun _ _ => rfl⟩
/-- the room of one more step -/
theorem dl_step (os done ws W : List OpT) (h : (done ++ ws).length ≤ W.length) : dl os.length done.length + dl (os ++ done).length ws.length = dl os.length (done ++ ws).length ∧ dl os.length (done ++ ws).length ≤ dl os.length W.length := by
  rw [List.length_append, dl_add, List.length_append]
  rw [List.length_append] at h
  exact ⟨rfl, dl_mono _ h⟩
set_option maxHeartbeats 4000000 in
theorem c_writeLists (hW : Wt n) (h : bP im a b l base n t u) (h3 : t.1 = 3) (h3u : u.1 = 3) (hdu : dpT u ≤ n + 1) (hln : l + (n + 1) = 7) (h9 : frG (im, ad, mc)) (hw : wrAt im ad mc tb pf wr os) (hpre : stps pf 0 l = pre) (hos : os.length + 100 * (n + 1) < 2 ^ 19) (hg : tbG tb (Df n) base t u 0 0) :
    kX1_writeLists (3 * n + 42) (2 * dl os.length (Wl (Df n) (Wr n) pre (kids t.2.2) (kids u.2.2) 0).length) (10 * dl os.length (Wl (Df n) (Wr n) pre (kids t.2.2) (kids u.2.2) 0).length) [.ref (ad 9), .ref a, .ref b, .int (nI l), .int (nI base)] (im, ad, mc) (wPost im ad mc tb pf base l (os ++ Wl (Df n) (Wr n) pre (kids t.2.2) (kids u.2.2) 0)) noX := by
  obtain ⟨hst, hsu, hwt, hwu⟩ := h.s
  have hbP := h
  obtain ⟨hv, hu, hwft, hwfu, hd, h6, h7, hl, hr⟩ := id h
  have hcap := (roomB (t := t) (u := u) (base := base) (Nat.le_refl _) (Nat.le_refl _) hr).2
  have hWlen : (Wl (Df n) (Wr n) pre (kids t.2.2) (kids u.2.2) 0).length ≤ szT t + szT u := by
    have := (Wl_ok (f := Df n) (w := Wr n) (v := wfT) (px := fun _ => True) (pre := pre) (fun p x y _ hy => Wr_ok n p x y hy) (kids t.2.2) (kids u.2.2) 0 (fun _ _ => trivial) (fun y hy => hwfu.2.kid y hy)).2.2
    have e1 := szT_kids t
    have e2 := szT_kids u
    omega
  have hbig : ∀ i' j', lD (Df n) ((kids t.2.2).drop i') ((kids u.2.2).drop j') ≤ 100 := fun i' j' => by
    have h1 := lD_le (Df n) ((kids t.2.2).drop i') ((kids u.2.2).drop j')
    have e1 := szT_kids t
    have e2 := szT_kids u
    have h2 : szL (kids t.2.2) = szL ((kids t.2.2).take i') + szL ((kids t.2.2).drop i') := by rw [← szL_app, List.take_append_drop]
    have h3 : szL (kids u.2.2) = szL ((kids u.2.2).take j') + szL ((kids u.2.2).drop j') := by rw [← szL_app, List.take_append_drop]
    omega
  refine oX1_writeLists (L := [some (.ref (ad 9)), some (.ref a), some (.ref b), some (.int (nI l)), some (.int (nI base)), none, none, none, none, none, none, none]) rfl (Nat.le_of_ble_eq_true rfl) ?_
  generalize hWW : Wl (Df n) (Wr n) pre (kids t.2.2) (kids u.2.2) 0 = WW at hWlen ⊢
  generalize hQ : wPost im ad mc tb pf base l (os ++ WW) = Q
  have loop : ∀ (m i j : Nat) (done : List OpT) (im1 : gIm) (mc1 : Nat → Option gC) (tb1 pf1 : Nat → Int32) (wr1 : Nat → Option Nat), i ≤ wd t → j ≤ wd u → (wd t - i) + (wd u - j) ≤ m → done ++ Wl (Df n) (Wr n) pre ((kids t.2.2).drop i) ((kids u.2.2).drop j) j = WW → wLS im ad mc tb pf os base l done im1 mc1 tb1 pf1 wr1 → tbG tb1 (Df n) base t u 0 0 →
      GW (mX1_writeLists (3 * n + 42) (2 * dl os.length WW.length) (10 * dl os.length WW.length)) Q noX (im1, ad, mc1) (2 * dl os.length done.length) (10 * dl os.length done.length) 17 [some (.ref (ad 9)), some (.ref a), some (.ref b), some (.int (nI l)), some (.int (nI base)), some (.int (nI i)), some (.int (nI j)), some (.int (nI ((wd t - i) + (wd u - j)))), none, none, none, none] [] := by
    intro m
    induction m with
    | zero =>
      intro i j done im1 mc1 tb1 pf1 wr1 hi hj hm hdone hls hg1
      have a1 : (kids t.2.2).drop i = [] := List.drop_eq_nil_of_le (by unfold wd at hm; omega)
      have a2 : (kids u.2.2).drop j = [] := List.drop_eq_nil_of_le (by unfold wd at hm; omega)
      rw [a1, a2, Wl_nil] at hdone
      have hdone : done = WW := by rw [← hdone]; simp [addsL]
      subst hdone
      refine GW.iload7 dX1_writeLists_17 ?_
      refine GW.if_le (tgt := 203) dX1_writeLists_19 (by decide) (fun h19 => ?_) (fun h19 => ?_)
      · refine GW.vreturn dX1_writeLists_203 rfl (by first | (dsimp only [mX1_writeLists, gM.dp, gM.kc, gM.ks]; omega) | exact Nat.le_of_ble_eq_true rfl | exact Nat.le_refl _ | omega) (by first | (dsimp only [mX1_writeLists, gM.dp, gM.kc, gM.ks]; omega) | exact Nat.le_of_ble_eq_true rfl | exact Nat.le_refl _ | omega) ?_
        subst hQ
        exact hls.post
      · rw [show (wd t - i) + (wd u - j) = 0 by omega] at h19
        exact absurd (show nI 0 ≤ 0 by decide) h19
    | succ m ih =>
      intro i j done im1 mc1 tb1 pf1 wr1 hi hj hm hdone hls hg1
      by_cases hz : (wd t - i) + (wd u - j) = 0
      · exact ih i j done im1 mc1 tb1 pf1 wr1 hi hj (by omega) hdone hls hg1
      · have hv1 : isV im1 a t := hv.mono hls.1
        have hu1 : isV im1 b u := hu.mono hls.1
        have hbP1 : bP im1 a b l base n t u := ⟨hv1, hu1, hwft, hwfu, hd, h6, h7, hl, hr⟩
        have lenW : done.length + (Wl (Df n) (Wr n) pre ((kids t.2.2).drop i) ((kids u.2.2).drop j) j).length = WW.length := by rw [← hdone, List.length_append]
        have ol : (os ++ done).length = os.length + done.length := List.length_append
        have nxt : ∀ (i' j' : Nat) (done' : List OpT) (im2 : gIm) (mc2 : Nat → Option gC) (tb2 pf2 : Nat → Int32) (wr2 : Nat → Option Nat) (tr : Nat) (l8 l9 l10 : Option Value), i' ≤ wd t → j' ≤ wd u → (wd t - i') + (wd u - j') ≤ m → tr = (wd t - i') + (wd u - j') + 1 → done' ++ Wl (Df n) (Wr n) pre ((kids t.2.2).drop i') ((kids u.2.2).drop j') j' = WW → wLS im ad mc tb pf os base l done' im2 mc2 tb2 pf2 wr2 → tbG tb2 (Df n) base t u 0 0 →
            GW (mX1_writeLists (3 * n + 42) (2 * dl os.length WW.length) (10 * dl os.length WW.length)) Q noX (im2, ad, mc2) (2 * dl os.length done'.length) (10 * dl os.length done'.length) 197 [some (.ref (ad 9)), some (.ref a), some (.ref b), some (.int (nI l)), some (.int (nI base)), some (.int (nI i')), some (.int (nI j')), some (.int (nI tr)), l8, l9, l10, none] [] := by
          intro i' j' done' im2 mc2 tb2 pf2 wr2 tr l8 l9 l10 hi' hj' hm' htr hdone' hls' hg'
          refine GW.inc7m dX1_writeLists_197 (g := ?_)
          refine GW.goto (tgt := 17) dX1_writeLists_200 (by decide) ?_
          rw [mI_pred (by omega), show tr - 1 = (wd t - i') + (wd u - j') by omega]
          refine GW.drop 8 ?_
          refine GW.drop 9 ?_
          refine GW.drop 10 ?_
          exact ih i' j' done' im2 mc2 tb2 pf2 wr2 hi' hj' hm' hdone' hls' hg'
        have drp : ∀ (tr : Nat) (mc1 : Nat → Option gC) (tb1 pf1 : Nat → Int32) (wr1 : Nat → Option Nat) (l8 l9 l10 : Option Value), wLS im ad mc tb pf os base l done im1 mc1 tb1 pf1 wr1 → tbG tb1 (Df n) base t u 0 0 → i < wd t → tr = (wd t - i) + (wd u - j) → Wl (Df n) (Wr n) pre ((kids t.2.2).drop i) ((kids u.2.2).drop j) j = dOp pre (nI j) :: Wl (Df n) (Wr n) pre ((kids t.2.2).drop (i + 1)) ((kids u.2.2).drop j) j →
            GW (mX1_writeLists (3 * n + 42) (2 * dl os.length WW.length) (10 * dl os.length WW.length)) Q noX (im1, ad, mc1) (2 * dl os.length done.length) (10 * dl os.length done.length) 165 [some (.ref (ad 9)), some (.ref a), some (.ref b), some (.int (nI l)), some (.int (nI base)), some (.int (nI i)), some (.int (nI j)), some (.int (nI tr)), l8, l9, l10, none] [] := by
          intro tr mc1 tb1 pf1 wr1 l8 l9 l10 hls hg1 hi1 htr hW1
          rw [hW1] at hdone lenW
          rw [List.length_cons] at lenW
          have hds := dl_step os done [dOp pre (nI j)] WW (by rw [List.length_append, List.length_singleton]; omega)
          rw [List.length_singleton] at hds
          have hwr1 := hls.2.2.1
          have lt9 := tbAt.gl (G := (im1, ad, mc1)) hwr1.tb
          refine GW.aload0 dX1_writeLists_165 (g := ?_)
          refine GW.iconst (v := 1) dX1_writeLists_166 (by decide) ?_
          refine GW.iload3 dX1_writeLists_167 ?_
          refine GW.iload6 dX1_writeLists_168 ?_
          refine GW.null dX1_writeLists_170 ?_
          refine GW.callV cv_X1_105 mt_X1_note (c_note (code := 1) (step := nI j) (vr := none) (val := none) (hls.frG h9) hwr1 (by omega) (hls.prs hpre) trivial (by omega) (base + (wd t + 1) * (wd u + 1))) dX1_writeLists_171 (by first | assumption | exact isV.gl (by assumption) | exact tbAt.gl (by assumption)) rfl rfl rfl rfl (by first | (dsimp only [mX1_writeLists, gM.dp, gM.kc, gM.ks]; omega) | exact Nat.le_of_ble_eq_true rfl | exact Nat.le_refl _ | omega) (by decide) (by first | omega | (dsimp only [mX1_writeLists, gM.dp, gM.kc, gM.ks]; omega)) (by first | omega | (dsimp only [mX1_writeLists, gM.dp, gM.kc, gM.ks]; omega)) (by first | exact Nat.le_of_ble_eq_true rfl | (simp [va_rf_cat]; done) | (simp [va_rf_cat, Value.category]; done)) rfl (fun _ _ h => h.elim) (fun v171 G171 hq => ?_)
          obtain ⟨rfl, im2, mc2, tb2, pf2, wr2, g1, rfl, g3, g4, g5, g6⟩ := hq
          refine GW.inc5 dX1_writeLists_174 (g := ?_)
          refine GW.goto (tgt := 197) dX1_writeLists_177 (by decide) ?_
          rw [mI_succ]
          refine GW.widen (k' := 2 * dl os.length (done ++ [dOp pre (nI j)]).length) (n' := 10 * dl os.length (done ++ [dOp pre (nI j)]).length) (by omega) (by omega) ?_
          exact nxt (i + 1) j (done ++ [dOp pre (nI j)]) im2 mc2 tb2 pf2 wr2 tr _ _ _ hi1 hj (by omega) (by omega) (by rw [List.append_assoc]; exact hdone) (hls.next (Nat.le_add_right _ _) (by omega) g1 g3 g4 g5 g6) (hg1.keep hr g5)
        have add : ∀ (tr : Nat) (y : Int32 × Tr) (mc1 : Nat → Option gC) (tb1 pf1 : Nat → Int32) (wr1 : Nat → Option Nat) (l8 l9 l10 : Option Value), wLS im ad mc tb pf os base l done im1 mc1 tb1 pf1 wr1 → tbG tb1 (Df n) base t u 0 0 → (kids u.2.2)[j]? = some y → tr = (wd t - i) + (wd u - j) → Wl (Df n) (Wr n) pre ((kids t.2.2).drop i) ((kids u.2.2).drop j) j = aOp pre (nI j) y.2 :: Wl (Df n) (Wr n) pre ((kids t.2.2).drop i) ((kids u.2.2).drop (j + 1)) (j + 1) →
            GW (mX1_writeLists (3 * n + 42) (2 * dl os.length WW.length) (10 * dl os.length WW.length)) Q noX (im1, ad, mc1) (2 * dl os.length done.length) (10 * dl os.length done.length) 180 [some (.ref (ad 9)), some (.ref a), some (.ref b), some (.int (nI l)), some (.int (nI base)), some (.int (nI i)), some (.int (nI j)), some (.int (nI tr)), l8, l9, l10, none] [] := by
          intro tr y mc1 tb1 pf1 wr1 l8 l9 l10 hls hg1 hy htr hW1
          have hj1 : j < wd u := (List.getElem?_eq_some_iff.mp hy).1
          rw [hW1] at hdone lenW
          rw [List.length_cons] at lenW
          have hds := dl_step os done [aOp pre (nI j) y.2] WW (by rw [List.length_append, List.length_singleton]; omega)
          rw [List.length_singleton] at hds
          have hwr1 := hls.2.2.1
          have lt9 := tbAt.gl (G := (im1, ad, mc1)) hwr1.tb
          refine GW.aload0 dX1_writeLists_180 (g := ?_)
          refine GW.iconst (v := 0) dX1_writeLists_181 (by decide) ?_
          refine GW.iload3 dX1_writeLists_182 ?_
          refine GW.iload6 dX1_writeLists_183 ?_
          refine GW.aload2 dX1_writeLists_185 (g := ?_)
          refine GW.iload6 dX1_writeLists_186 ?_
          refine GW.callV cv_X1_55 mt_X8_partAt (c_partAt (G := (im1, ad, mc1)) hu1 hsu (nI j)) dX1_writeLists_188 (by first | assumption | exact isV.gl (by assumption) | exact tbAt.gl (by assumption)) rfl rfl rfl rfl (by first | (dsimp only [mX1_writeLists, gM.dp, gM.kc, gM.ks]; omega) | exact Nat.le_of_ble_eq_true rfl | exact Nat.le_refl _ | omega) (by decide) (by first | omega | (dsimp only [mX1_writeLists, gM.dp, gM.kc, gM.ks]; omega)) (by first | omega | (dsimp only [mX1_writeLists, gM.dp, gM.kc, gM.ks]; omega)) (by first | exact Nat.le_of_ble_eq_true rfl | (simp [va_rf_cat]; done) | (simp [va_rf_cat, Value.category]; done)) rfl (fun _ _ h => h.elim) (fun v188 G188 hq => ?_)
          obtain ⟨r1, rfl, rfl, hq1⟩ := hq
          rw [partT_mI (by omega), kid_some hy] at hq1
          refine GW.callV cv_X1_105 mt_X1_note (c_note (code := 0) (step := nI j) (vr := r1) (val := some y.2) (hls.frG h9) hwr1 (by omega) (hls.prs hpre) hq1 (by omega) (base + (wd t + 1) * (wd u + 1))) dX1_writeLists_191 (by first | assumption | exact isV.gl (by assumption) | exact tbAt.gl (by assumption)) rfl rfl rfl rfl (by first | (dsimp only [mX1_writeLists, gM.dp, gM.kc, gM.ks]; omega) | exact Nat.le_of_ble_eq_true rfl | exact Nat.le_refl _ | omega) (by decide) (by first | omega | (dsimp only [mX1_writeLists, gM.dp, gM.kc, gM.ks]; omega)) (by first | omega | (dsimp only [mX1_writeLists, gM.dp, gM.kc, gM.ks]; omega)) (by first | exact Nat.le_of_ble_eq_true rfl | (simp [va_rf_cat]; done) | (simp [va_rf_cat, Value.category]; done)) rfl (fun _ _ h => h.elim) (fun v191 G191 hq => ?_)
          obtain ⟨rfl, im2, mc2, tb2, pf2, wr2, g1, rfl, g3, g4, g5, g6⟩ := hq
          refine GW.inc6 dX1_writeLists_194 (g := ?_)
          rw [mI_succ]
          refine GW.widen (k' := 2 * dl os.length (done ++ [aOp pre (nI j) y.2]).length) (n' := 10 * dl os.length (done ++ [aOp pre (nI j) y.2]).length) (by omega) (by omega) ?_
          exact nxt i (j + 1) (done ++ [aOp pre (nI j) y.2]) im2 mc2 tb2 pf2 wr2 tr _ _ _ hi hj1 (by omega) (by omega) (by rw [List.append_assoc]; exact hdone) (hls.next (Nat.le_add_right _ _) (by omega) g1 g3 g4 g5 g6) (hg1.keep hr g5)
        obtain ⟨wA, wB, wC⟩ := Wl_drop (Df n) (Wr n) pre (xs := kids t.2.2) (ys := kids u.2.2) (i := i) (j := j)
        have hx_or : (∃ x, (kids t.2.2)[i]? = some x ∧ i < wd t) ∨ ((kids t.2.2)[i]? = none ∧ wd t ≤ i) := by
          rcases Nat.lt_or_ge i (wd t) with q | q
          · exact Or.inl ⟨_, List.getElem?_eq_getElem q, q⟩
          · exact Or.inr ⟨List.getElem?_eq_none q, q⟩
        have hy_or : (∃ y, (kids u.2.2)[j]? = some y ∧ j < wd u) ∨ ((kids u.2.2)[j]? = none ∧ wd u ≤ j) := by
          rcases Nat.lt_or_ge j (wd u) with q | q
          · exact Or.inl ⟨_, List.getElem?_eq_getElem q, q⟩
          · exact Or.inr ⟨List.getElem?_eq_none q, q⟩
        have at134 : ∀ (tr : Nat) (mc1 : Nat → Option gC) (tb1 pf1 : Nat → Int32) (wr1 : Nat → Option Nat) (hA : Int32) (l10 : Option Value), wLS im ad mc tb pf os base l done im1 mc1 tb1 pf1 wr1 → tbG tb1 (Df n) base t u 0 0 → tr = (wd t - i) + (wd u - j) → ((i < wd t ∧ hA = 1) ∨ (wd t ≤ i ∧ hA = 0)) → (∀ x y, (kids t.2.2)[i]? = some x → (kids u.2.2)[j]? = some y → ¬ lD (Df n) ((kids t.2.2).drop i) ((kids u.2.2).drop j) = Df n x.2 y.2 + lD (Df n) ((kids t.2.2).drop (i + 1)) ((kids u.2.2).drop (j + 1))) →
            GW (mX1_writeLists (3 * n + 42) (2 * dl os.length WW.length) (10 * dl os.length WW.length)) Q noX (im1, ad, mc1) (2 * dl os.length done.length) (10 * dl os.length done.length) 134 [some (.ref (ad 9)), some (.ref a), some (.ref b), some (.int (nI l)), some (.int (nI base)), some (.int (nI i)), some (.int (nI j)), some (.int (nI tr)), some (.int (nI (lD (Df n) ((kids t.2.2).drop i) ((kids u.2.2).drop j)))), some (.int hA), l10, none] [] := by
          intro tr mc1 tb1 pf1 wr1 hA l10 hls hg1 htr hhA hne
          have hwr1 := hls.2.2.1
          have lt9 := tbAt.gl (G := (im1, ad, mc1)) hwr1.tb
          have hds := dl_mono os.length (show done.length ≤ WW.length by omega)
          refine GW.iload9 dX1_writeLists_134 ?_
          rcases hx_or with ⟨x, hx, hi1⟩ | ⟨hx, hi1⟩
          · have hA1 : hA = 1 := by
              rcases hhA with q | q
              · exact q.2
              · exact absurd q.1 (by omega)
            subst hA1
            have hsx := kid_sz (List.mem_of_getElem? hx)
            have hri := roomB (i := i + 1) (j := j) (by omega) hj hr
            have hb2 := hbig (i + 1) j
            have hb1 := hbig i j
            refine GW.if_eq (tgt := 180) dX1_writeLists_136 (by decide) (fun h136 => ?_) (fun h136 => ?_)
            · exact absurd h136 (by decide)
            · refine GW.iload8 dX1_writeLists_139 ?_
              refine GW.aload1 dX1_writeLists_141 (g := ?_)
              refine GW.iload5 dX1_writeLists_142 ?_
              refine GW.callS cs_X1_59 mt_X1_sizeAt (c_sizeAt (G := (im1, ad, mc1)) hv1 hst (by omega) hx) dX1_writeLists_144 rfl rfl (by first | (dsimp only [mX1_writeLists, gM.dp, gM.kc, gM.ks]; omega) | exact Nat.le_of_ble_eq_true rfl | exact Nat.le_refl _ | omega) (by decide) (by first | omega | (dsimp only [mX1_writeLists, gM.dp, gM.kc, gM.ks]; omega)) (by first | omega | (dsimp only [mX1_writeLists, gM.dp, gM.kc, gM.ks]; omega)) (by first | exact Nat.le_of_ble_eq_true rfl | (simp [va_rf_cat]; done) | (simp [va_rf_cat, Value.category]; done)) rfl (fun _ _ h => h.elim) (fun v144 G144 hq => ?_)
              obtain ⟨w, rfl, rfl, rfl⟩ := hq
              refine GW.aload0 dX1_writeLists_147 (g := ?_)
              refine GW.aload1 dX1_writeLists_148 (g := ?_)
              refine GW.iload5 dX1_writeLists_149 ?_
              refine GW.iconst (v := 1) dX1_writeLists_151 (by decide) ?_
              refine GW.iadd dX1_writeLists_152 ?_
              rw [mI_succ]
              refine GW.aload2 dX1_writeLists_153 (g := ?_)
              refine GW.iload6 dX1_writeLists_154 ?_
              refine GW.iload4 dX1_writeLists_156 ?_
              refine GW.callV cv_X1_71 mt_X1_cell (c_cell (i := i + 1) (j := j) hv1 hu1 hwr1.tb (by omega) hj (by omega) (by omega) (by omega)) dX1_writeLists_158 (by first | assumption | exact isV.gl (by assumption) | exact tbAt.gl (by assumption)) rfl rfl rfl rfl (by first | (dsimp only [mX1_writeLists, gM.dp, gM.kc, gM.ks]; omega) | exact Nat.le_of_ble_eq_true rfl | exact Nat.le_refl _ | omega) (by decide) (by first | omega | (dsimp only [mX1_writeLists, gM.dp, gM.kc, gM.ks]; omega)) (by first | omega | (dsimp only [mX1_writeLists, gM.dp, gM.kc, gM.ks]; omega)) (by first | exact Nat.le_of_ble_eq_true rfl | (simp [va_rf_cat]; done) | (simp [va_rf_cat, Value.category]; done)) rfl (fun _ _ h => h.elim) (fun v158 G158 hq => ?_)
              obtain ⟨w, rfl, rfl, rfl⟩ := hq
              refine GW.iadd dX1_writeLists_161 ?_
              rw [hg1.all (by omega) hj, mI_add]
              refine GW.icmp_ne (tgt := 180) dX1_writeLists_162 (by decide) (fun h162 => ?_) (fun h162 => ?_)
              · have hne2 : ¬ lD (Df n) ((kids t.2.2).drop i) ((kids u.2.2).drop j) = szT x.2 + lD (Df n) ((kids t.2.2).drop (i + 1)) ((kids u.2.2).drop j) := fun e => h162 (by rw [e])
                rcases hy_or with ⟨y, hy, hj1⟩ | ⟨hy, hj1⟩
                · exact add tr y mc1 tb1 pf1 wr1 _ _ _ hls hg1 hy htr (by rw [wA x y hx hy, if_neg (hne x y hx hy), if_neg hne2])
                · exact absurd (wB x hx hy).2 hne2
              · have heq := (mI_eq (by omega) (by omega)).mp h162
                rcases hy_or with ⟨y, hy, hj1⟩ | ⟨hy, hj1⟩
                · exact drp tr mc1 tb1 pf1 wr1 _ _ _ hls hg1 hi1 htr (by rw [wA x y hx hy, if_neg (hne x y hx hy), if_pos heq])
                · exact drp tr mc1 tb1 pf1 wr1 _ _ _ hls hg1 hi1 htr (wB x hx hy).1
          · have hA0 : hA = 0 := by
              rcases hhA with q | q
              · exact absurd q.1 (by omega)
              · exact q.2
            subst hA0
            refine GW.if_eq (tgt := 180) dX1_writeLists_136 (by decide) (fun h136 => ?_) (fun h136 => ?_)
            · rcases hy_or with ⟨y, hy, hj1⟩ | ⟨hy, hj1⟩
              · exact add tr y mc1 tb1 pf1 wr1 _ _ _ hls hg1 hy htr (wC y hx hy)
              · omega
            · exact absurd rfl h136
        have hwr1 := hls.2.2.1
        have lt9 := tbAt.gl (G := (im1, ad, mc1)) hwr1.tb
        have hri := roomB (i := i) (j := j) hi hj hr
        have hds := dl_mono os.length (show done.length ≤ WW.length by omega)
        refine GW.iload7 dX1_writeLists_17 ?_
        refine GW.if_le (tgt := 203) dX1_writeLists_19 (by decide) (fun h19 => ?_) (fun h19 => ?_)
        · exact absurd ((mI_le (b := 0) (by omega) (by omega)).mp h19) (by omega)
        · refine GW.aload0 dX1_writeLists_22 (g := ?_)
          refine GW.aload1 dX1_writeLists_23 (g := ?_)
          refine GW.iload5 dX1_writeLists_24 ?_
          refine GW.aload2 dX1_writeLists_26 (g := ?_)
          refine GW.iload6 dX1_writeLists_27 ?_
          refine GW.iload4 dX1_writeLists_29 ?_
          refine GW.callV cv_X1_71 mt_X1_cell (c_cell (i := i) (j := j) hv1 hu1 hwr1.tb hi hj (by omega) (by omega) (by omega)) dX1_writeLists_31 (by first | assumption | exact isV.gl (by assumption) | exact tbAt.gl (by assumption)) rfl rfl rfl rfl (by first | (dsimp only [mX1_writeLists, gM.dp, gM.kc, gM.ks]; omega) | exact Nat.le_of_ble_eq_true rfl | exact Nat.le_refl _ | omega) (by decide) (by first | omega | (dsimp only [mX1_writeLists, gM.dp, gM.kc, gM.ks]; omega)) (by first | omega | (dsimp only [mX1_writeLists, gM.dp, gM.kc, gM.ks]; omega)) (by first | exact Nat.le_of_ble_eq_true rfl | (simp [va_rf_cat]; done) | (simp [va_rf_cat, Value.category]; done)) rfl (fun _ _ h => h.elim) (fun v31 G31 hq => ?_)
          obtain ⟨w, rfl, rfl, rfl⟩ := hq
          rw [hg1.all hi hj]
          refine GW.istore8 dX1_writeLists_34 (g := ?_)
          refine GW.iload5 dX1_writeLists_36 ?_
          refine GW.aload1 dX1_writeLists_38 (g := ?_)
          refine GW.callV cv_X1_47 mt_X8_width (c_width (G := (im1, ad, mc1)) hv1) dX1_writeLists_39 (by first | assumption | exact isV.gl (by assumption) | exact tbAt.gl (by assumption)) rfl rfl rfl rfl (by first | (dsimp only [mX1_writeLists, gM.dp, gM.kc, gM.ks]; omega) | exact Nat.le_of_ble_eq_true rfl | exact Nat.le_refl _ | omega) (by decide) (by first | omega | (dsimp only [mX1_writeLists, gM.dp, gM.kc, gM.ks]; omega)) (by first | omega | (dsimp only [mX1_writeLists, gM.dp, gM.kc, gM.ks]; omega)) (by first | exact Nat.le_of_ble_eq_true rfl | (simp [va_rf_cat]; done) | (simp [va_rf_cat, Value.category]; done)) rfl (fun _ _ h => h.elim) (fun v39 G39 hq => ?_)
          obtain ⟨w, rfl, rfl, rfl⟩ := hq
          have second : ∀ hA : Int32, ((i < wd t ∧ hA = 1) ∨ (wd t ≤ i ∧ hA = 0)) → GW (mX1_writeLists (3 * n + 42) (2 * dl os.length WW.length) (10 * dl os.length WW.length)) Q noX (im1, ad, mc1) (2 * dl os.length done.length) (10 * dl os.length done.length) 52 [some (.ref (ad 9)), some (.ref a), some (.ref b), some (.int (nI l)), some (.int (nI base)), some (.int (nI i)), some (.int (nI j)), some (.int (nI ((wd t - i) + (wd u - j)))), some (.int (nI (lD (Df n) ((kids t.2.2).drop i) ((kids u.2.2).drop j)))), some (.int hA), none, none] [] := by
            intro hA hhA
            have third : ∀ hB : Int32, ((j < wd u ∧ hB = 1) ∨ (wd u ≤ j ∧ hB = 0)) → GW (mX1_writeLists (3 * n + 42) (2 * dl os.length WW.length) (10 * dl os.length WW.length)) Q noX (im1, ad, mc1) (2 * dl os.length done.length) (10 * dl os.length done.length) 68 [some (.ref (ad 9)), some (.ref a), some (.ref b), some (.int (nI l)), some (.int (nI base)), some (.int (nI i)), some (.int (nI j)), some (.int (nI ((wd t - i) + (wd u - j)))), some (.int (nI (lD (Df n) ((kids t.2.2).drop i) ((kids u.2.2).drop j)))), some (.int hA), some (.int hB), none] [] := by
              intro hB hhB
              refine GW.iload9 dX1_writeLists_68 ?_
              refine GW.if_eq (tgt := 134) dX1_writeLists_70 (by decide) (fun h70 => ?_) (fun h70 => ?_)
              · have hix : wd t ≤ i := by
                  rcases hhA with q | q
                  · rw [q.2] at h70; exact absurd h70 (by decide)
                  · exact q.1
                refine at134 _ mc1 tb1 pf1 wr1 _ _ hls hg1 rfl hhA fun x y hx hy => ?_
                have : i < wd t := (List.getElem?_eq_some_iff.mp hx).1
                omega
              · refine GW.iload10 dX1_writeLists_73 ?_
                refine GW.if_eq (tgt := 134) dX1_writeLists_75 (by decide) (fun h75 => ?_) (fun h75 => ?_)
                · have hjx : wd u ≤ j := by
                    rcases hhB with q | q
                    · rw [q.2] at h75; exact absurd h75 (by decide)
                    · exact q.1
                  refine at134 _ mc1 tb1 pf1 wr1 _ _ hls hg1 rfl hhA fun x y hx hy => ?_
                  have : j < wd u := (List.getElem?_eq_some_iff.mp hy).1
                  omega
                · have hi1 : i < wd t := by
                    rcases hhA with q | q
                    · exact q.1
                    · exact absurd q.2 h70
                  have hj1 : j < wd u := by
                    rcases hhB with q | q
                    · exact q.1
                    · exact absurd q.2 h75
                  obtain ⟨x, hx⟩ : ∃ x, (kids t.2.2)[i]? = some x := ⟨_, List.getElem?_eq_getElem hi1⟩
                  obtain ⟨y, hy⟩ : ∃ y, (kids u.2.2)[j]? = some y := ⟨_, List.getElem?_eq_getElem hj1⟩
                  have hmx := List.mem_of_getElem? hx
                  have hmy := List.mem_of_getElem? hy
                  have hdx := kid_dp hmx
                  have hdy := kid_dp hmy
                  have hsx := kid_sz hmx
                  have hsy := kid_sz hmy
                  have hb1 := hbig i j
                  have hb2 := hbig (i + 1) (j + 1)
                  have hDf := Df_le n x.2 y.2
                  refine GW.iload8 dX1_writeLists_78 ?_
                  refine GW.aload0 dX1_writeLists_80 (g := ?_)
                  refine GW.aload1 dX1_writeLists_81 (g := ?_)
                  refine GW.iload5 dX1_writeLists_82 ?_
                  refine GW.aload2 dX1_writeLists_84 (g := ?_)
                  refine GW.iload6 dX1_writeLists_85 ?_
                  refine GW.iload3 dX1_writeLists_87 ?_
                  refine GW.iload4 dX1_writeLists_88 ?_
                  refine GW.callV cv_X1_81 mt_X1_pairedFrom (c_pairedFrom (Bt_all n) hbP1 hwr1.tb hx hy) dX1_writeLists_90 (by first | assumption | exact isV.gl (by assumption) | exact tbAt.gl (by assumption)) rfl rfl rfl rfl (by first | (dsimp only [mX1_writeLists, gM.dp, gM.kc, gM.ks]; omega) | exact Nat.le_of_ble_eq_true rfl | exact Nat.le_refl _ | omega) (by decide) (by first | omega | (dsimp only [mX1_writeLists, gM.dp, gM.kc, gM.ks]; omega)) (by first | omega | (dsimp only [mX1_writeLists, gM.dp, gM.kc, gM.ks]; omega)) (by first | exact Nat.le_of_ble_eq_true rfl | (simp [va_rf_cat]; done) | (simp [va_rf_cat, Value.category]; done)) rfl (fun _ _ h => h.elim) (fun v90 G90 hq => ?_)
                  obtain ⟨rfl, mc2, tb2, rfl, ho2, h102, hb22, -⟩ := hq
                  rw [hg1.all (by omega) (by omega), mI_add]
                  have hls2 : wLS im ad mc tb pf os base l done im1 mc2 tb2 pf1 wr1 := ⟨hls.1, fun q e1 e2 e3 e4 => (ho2 q e2).trans (hls.2.1 q e1 e2 e3 e4), hwr1.ch ho2 h102, fun q hq => (hb22 q (by omega)).trans (hls.2.2.2.1 q hq), hls.2.2.2.2⟩
                  have hg2 : tbG tb2 (Df n) base t u 0 0 := hg1.keep hr hb22
                  refine GW.icmp_ne (tgt := 134) dX1_writeLists_93 (by decide) (fun h93 => ?_) (fun h93 => ?_)
                  · refine at134 _ mc2 tb2 pf1 wr1 _ _ hls2 hg2 rfl hhA fun x' y' hx' hy' e => h93 ?_
                    rw [hx] at hx'
                    rw [hy] at hy'
                    cases hx'
                    cases hy'
                    rw [e]
                  · have heq := (mI_eq (by omega) (by omega)).mp h93
                    have hW1 := (wA x y hx hy).trans (if_pos heq)
                    have hwr2 := hls2.2.2.1
                    have lt92 := tbAt.gl (G := (im1, ad, mc2)) hwr2.tb
                    rw [hW1] at hdone lenW
                    rw [List.length_append] at lenW
                    have hds := dl_step os done (Wr n (pre ++ [nI j]) x.2 y.2) WW (by rw [List.length_append]; omega)
                    refine GW.aload0 dX1_writeLists_96 (g := ?_)
                    refine GW.aload1 dX1_writeLists_97 (g := ?_)
                    refine GW.iload5 dX1_writeLists_98 ?_
                    refine GW.callV cv_X1_55 mt_X8_partAt (c_partAt (G := (im1, ad, mc2)) hv1 hst (nI i)) dX1_writeLists_100 (by first | assumption | exact isV.gl (by assumption) | exact tbAt.gl (by assumption)) rfl rfl rfl rfl (by first | (dsimp only [mX1_writeLists, gM.dp, gM.kc, gM.ks]; omega) | exact Nat.le_of_ble_eq_true rfl | exact Nat.le_refl _ | omega) (by decide) (by first | omega | (dsimp only [mX1_writeLists, gM.dp, gM.kc, gM.ks]; omega)) (by first | omega | (dsimp only [mX1_writeLists, gM.dp, gM.kc, gM.ks]; omega)) (by first | exact Nat.le_of_ble_eq_true rfl | (simp [va_rf_cat]; done) | (simp [va_rf_cat, Value.category]; done)) rfl (fun _ _ h => h.elim) (fun v100 G100 hq => ?_)
                    obtain ⟨r1, rfl, rfl, hq1⟩ := hq
                    rw [partT_mI (by omega), kid_some hx] at hq1
                    cases r1 with
                    | none => exact hq1.elim
                    | some b1 =>
                      refine GW.aload2 dX1_writeLists_103 (g := ?_)
                      refine GW.iload6 dX1_writeLists_104 ?_
                      refine GW.callV cv_X1_55 mt_X8_partAt (c_partAt (G := (im1, ad, mc2)) hu1 hsu (nI j)) dX1_writeLists_106 (by first | assumption | exact isV.gl (by assumption) | exact tbAt.gl (by assumption)) rfl rfl rfl rfl (by first | (dsimp only [mX1_writeLists, gM.dp, gM.kc, gM.ks]; omega) | exact Nat.le_of_ble_eq_true rfl | exact Nat.le_refl _ | omega) (by decide) (by first | omega | (dsimp only [mX1_writeLists, gM.dp, gM.kc, gM.ks]; omega)) (by first | omega | (dsimp only [mX1_writeLists, gM.dp, gM.kc, gM.ks]; omega)) (by first | exact Nat.le_of_ble_eq_true rfl | (simp [va_rf_cat]; done) | (simp [va_rf_cat, Value.category]; done)) rfl (fun _ _ h => h.elim) (fun v106 G106 hq => ?_)
                      obtain ⟨r2, rfl, rfl, hq2⟩ := hq
                      rw [partT_mI (by omega), kid_some hy] at hq2
                      cases r2 with
                      | none => exact hq2.elim
                      | some b2 =>
                        have hq1 : isV im1 b1 x.2 := hq1
                        have hq2 : isV im1 b2 y.2 := hq2
                        refine GW.iload6 dX1_writeLists_109 ?_
                        refine GW.iload3 dX1_writeLists_111 ?_
                        refine GW.aload1 dX1_writeLists_112 (g := ?_)
                        refine GW.aload2 dX1_writeLists_113 (g := ?_)
                        refine GW.iload4 dX1_writeLists_114 ?_
                        refine GW.callS cs_X1_84 mt_X1_freeBehind (c_freeBehind (G := (im1, ad, mc2)) (base := base) hv1 hu1) dX1_writeLists_116 rfl rfl (by first | (dsimp only [mX1_writeLists, gM.dp, gM.kc, gM.ks]; omega) | exact Nat.le_of_ble_eq_true rfl | exact Nat.le_refl _ | omega) (by decide) (by first | omega | (dsimp only [mX1_writeLists, gM.dp, gM.kc, gM.ks]; omega)) (by first | omega | (dsimp only [mX1_writeLists, gM.dp, gM.kc, gM.ks]; omega)) (by first | exact Nat.le_of_ble_eq_true rfl | (simp [va_rf_cat]; done) | (simp [va_rf_cat, Value.category]; done)) rfl (fun _ _ h => h.elim) (fun v116 G116 hq => ?_)
                        obtain ⟨w, rfl, rfl, rfl⟩ := hq
                        refine GW.callV cv_X1_109 mt_X1_writeBelow (c_writeBelow hW (s := nI j) (base := base + (wd t + 1) * (wd u + 1)) hq1 hq2 (hwft.2.kid x hmx) (hwfu.2.kid y hmy) (by omega) (by omega) (by omega) (by omega) (by omega) (roomA (kid_some hx) (kid_some hy) hdx hr) (hls2.frG h9) hwr2 (hls2.prs hpre) (by omega)) dX1_writeLists_119 (by first | assumption | exact isV.gl (by assumption) | exact tbAt.gl (by assumption)) rfl rfl rfl rfl (by first | (dsimp only [mX1_writeLists, gM.dp, gM.kc, gM.ks]; omega) | exact Nat.le_of_ble_eq_true rfl | exact Nat.le_refl _ | omega) (by decide) (by first | omega | (dsimp only [mX1_writeLists, gM.dp, gM.kc, gM.ks]; omega)) (by first | omega | (dsimp only [mX1_writeLists, gM.dp, gM.kc, gM.ks]; omega)) (by first | exact Nat.le_of_ble_eq_true rfl | (simp [va_rf_cat]; done) | (simp [va_rf_cat, Value.category]; done)) rfl (fun _ _ h => h.elim) (fun v119 G119 hq => ?_)
                        obtain ⟨rfl, im3, mc3, tb3, pf3, wr3, g1, rfl, g3, g4, g5, g6⟩ := hq
                        refine GW.inc5 dX1_writeLists_122 (g := ?_)
                        refine GW.inc6 dX1_writeLists_125 (g := ?_)
                        refine GW.inc7m dX1_writeLists_128 (g := ?_)
                        refine GW.goto (tgt := 197) dX1_writeLists_131 (by decide) ?_
                        rw [mI_succ, mI_succ, mI_pred (by omega)]
                        refine GW.widen (k' := 2 * dl os.length (done ++ Wr n (pre ++ [nI j]) x.2 y.2).length) (n' := 10 * dl os.length (done ++ Wr n (pre ++ [nI j]) x.2 y.2).length) (by omega) (by omega) ?_
                        exact nxt (i + 1) (j + 1) (done ++ Wr n (pre ++ [nI j]) x.2 y.2) im3 mc3 tb3 pf3 wr3 _ _ _ _ hi1 hj1 (by omega) (by omega) (by rw [List.append_assoc]; exact hdone) (hls2.next (Nat.le_add_right _ _) (Nat.le_refl _) g1 g3 g4 g5 g6) (hg2.keep hr g5)
            refine GW.iload6 dX1_writeLists_52 ?_
            refine GW.aload2 dX1_writeLists_54 (g := ?_)
            refine GW.callV cv_X1_47 mt_X8_width (c_width (G := (im1, ad, mc1)) hu1) dX1_writeLists_55 (by first | assumption | exact isV.gl (by assumption) | exact tbAt.gl (by assumption)) rfl rfl rfl rfl (by first | (dsimp only [mX1_writeLists, gM.dp, gM.kc, gM.ks]; omega) | exact Nat.le_of_ble_eq_true rfl | exact Nat.le_refl _ | omega) (by decide) (by first | omega | (dsimp only [mX1_writeLists, gM.dp, gM.kc, gM.ks]; omega)) (by first | omega | (dsimp only [mX1_writeLists, gM.dp, gM.kc, gM.ks]; omega)) (by first | exact Nat.le_of_ble_eq_true rfl | (simp [va_rf_cat]; done) | (simp [va_rf_cat, Value.category]; done)) rfl (fun _ _ h => h.elim) (fun v55 G55 hq => ?_)
            obtain ⟨w, rfl, rfl, rfl⟩ := hq
            refine GW.icmp_ge (tgt := 65) dX1_writeLists_58 (by decide) (fun h58 => ?_) (fun h58 => ?_)
            · have hge := (mI_le (by omega) (by omega)).mp h58
              refine GW.iconst (v := 0) dX1_writeLists_65 (by decide) ?_
              refine GW.istore10 dX1_writeLists_66 (g := ?_)
              exact third 0 (Or.inr ⟨hge, rfl⟩)
            · have hlt : j < wd u := by
                rcases Nat.lt_or_ge j (wd u) with q | q
                · exact q
                · exact absurd ((mI_le (by omega) (by omega)).mpr q) h58
              refine GW.iconst (v := 1) dX1_writeLists_61 (by decide) ?_
              refine GW.goto (tgt := 66) dX1_writeLists_62 (by decide) ?_
              refine GW.istore10 dX1_writeLists_66 (g := ?_)
              exact third 1 (Or.inl ⟨hlt, rfl⟩)
          refine GW.icmp_ge (tgt := 49) dX1_writeLists_42 (by decide) (fun h42 => ?_) (fun h42 => ?_)
          · have hge := (mI_le (by omega) (by omega)).mp h42
            refine GW.iconst (v := 0) dX1_writeLists_49 (by decide) ?_
            refine GW.istore9 dX1_writeLists_50 (g := ?_)
            exact second 0 (Or.inr ⟨hge, rfl⟩)
          · have hlt : i < wd t := by
              rcases Nat.lt_or_ge i (wd t) with q | q
              · exact q
              · exact absurd ((mI_le (by omega) (by omega)).mpr q) h42
            refine GW.iconst (v := 1) dX1_writeLists_45 (by decide) ?_
            refine GW.goto (tgt := 50) dX1_writeLists_46 (by decide) ?_
            refine GW.istore9 dX1_writeLists_50 (g := ?_)
            exact second 1 (Or.inl ⟨hlt, rfl⟩)
  refine GW.iconst (v := 0) dX1_writeLists_0 (by decide) ?_
  refine GW.istore5 dX1_writeLists_1 (g := ?_)
  refine GW.iconst (v := 0) dX1_writeLists_3 (by decide) ?_
  refine GW.istore6 dX1_writeLists_4 (g := ?_)
  refine GW.aload1 dX1_writeLists_6 (g := ?_)
  refine GW.callV cv_X1_47 mt_X8_width (c_width (G := (im, ad, mc)) hv) dX1_writeLists_7 (by first | assumption | exact isV.gl (by assumption) | exact tbAt.gl (by assumption)) rfl rfl rfl rfl (by first | (dsimp only [mX1_writeLists, gM.dp, gM.kc, gM.ks]; omega) | exact Nat.le_of_ble_eq_true rfl | exact Nat.le_refl _ | omega) (by decide) (by first | omega | (dsimp only [mX1_writeLists, gM.dp, gM.kc, gM.ks]; omega)) (by first | omega | (dsimp only [mX1_writeLists, gM.dp, gM.kc, gM.ks]; omega)) (by first | exact Nat.le_of_ble_eq_true rfl | (simp [va_rf_cat]; done) | (simp [va_rf_cat, Value.category]; done)) rfl (fun _ _ h => h.elim) (fun v7 G7 hq => ?_)
  obtain ⟨w, rfl, rfl, rfl⟩ := hq
  refine GW.aload2 dX1_writeLists_10 (g := ?_)
  refine GW.callV cv_X1_47 mt_X8_width (c_width (G := (im, ad, mc)) hu) dX1_writeLists_11 (by first | assumption | exact isV.gl (by assumption) | exact tbAt.gl (by assumption)) rfl rfl rfl rfl (by first | (dsimp only [mX1_writeLists, gM.dp, gM.kc, gM.ks]; omega) | exact Nat.le_of_ble_eq_true rfl | exact Nat.le_refl _ | omega) (by decide) (by first | omega | (dsimp only [mX1_writeLists, gM.dp, gM.kc, gM.ks]; omega)) (by first | omega | (dsimp only [mX1_writeLists, gM.dp, gM.kc, gM.ks]; omega)) (by first | exact Nat.le_of_ble_eq_true rfl | (simp [va_rf_cat]; done) | (simp [va_rf_cat, Value.category]; done)) rfl (fun _ _ h => h.elim) (fun v11 G11 hq => ?_)
  obtain ⟨w, rfl, rfl, rfl⟩ := hq
  refine GW.iadd dX1_writeLists_14 ?_
  rw [mI_add]
  refine GW.istore7 dX1_writeLists_15 (g := ?_)
  have := loop (wd t + wd u) 0 0 [] im mc tb pf wr (Nat.zero_le _) (Nat.zero_le _) (Nat.le_refl _) (by rw [List.drop_zero, List.drop_zero]; exact hWW) (wLS.zero hw) hg
  rw [show ([] : List OpT).length = 0 from rfl, dl_zero] at this
  exact this
end WG
