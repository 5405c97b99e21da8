/-! MARLSTORE: its constructor -/
abbrev noT : Tr := (0, -10000, .leaf)
def nz (k n a : Nat) : Value := if k ≤ n then .ref a else .null
/-- the fields of the object after the first n of them are set -/
def fO (ad : Nat → Nat) (b n : Nat) : List Value := [nz 1 n (ad 1), nz 2 n b, nz 3 n (ad 2), nz 4 n (ad 4), nz 5 n (ad 7), .int 0, nz 6 n (ad 8), nz 7 n (ad 9), nz 8 n (ad 13), .int 0, nz 10 n (ad 19), nz 11 n (ad 21), .int 0, nz 9 n (ad 14)]
/-- the parts that stand -/
def BB (im : gIm) (ad : Nat → Nat) (mc : Nat → Option gC) (b m : Nat) : Prop :=
  isV im b noT ∧ (1 ≤ m → dcAt im mc (fun _ => noT)) ∧ (2 ≤ m → ptrAt ad mc 0 []) ∧ (3 ≤ m → edAny ad mc) ∧ (4 ≤ m → ppAt ad mc ∧ ∀ i, i < 8 → ptAt im ad mc i []) ∧ (5 ≤ m → tkAny mc) ∧ (6 ≤ m → dfAny ad mc) ∧ (7 ≤ m → wkAny ad mc) ∧ (8 ≤ m → qqAt ad mc ∧ ∀ i, i < 6 → qyAt ad mc i [])
section BBS
variable {im : gIm} {ad ad' : Nat → Nat} {mc mc' : Nat → Option gC} {b m : Nat}
theorem ptAt.mv {i : Nat} {os : List OpT} (h : ptAt im ad mc i os) (hf : ∀ q c, q ≠ 0 → mc q = some c → mc' q = some c ∧ ad' q = ad q) : ptAt im ad' mc' i os := by
  obtain ⟨h1, h2, hd, h3, h4⟩ := h
  exact ⟨h1, by rw [(hf (40 + i) _ (by omega) h3).2]; exact (hf _ _ (by omega) h2).1, hd, (hf _ _ (by omega) h3).1, h4⟩
theorem qyAt.mv {i : Nat} {q : List (Int32 × Int32)} (h : qyAt ad mc i q) (hf : ∀ q c, q ≠ 0 → mc q = some c → mc' q = some c ∧ ad' q = ad q) : qyAt ad' mc' i q := by
  obtain ⟨h1, h2, cf, nf, h3, h4, h5⟩ := h
  exact ⟨h1, by rw [(hf (60 + i) _ (by omega) h3).2, (hf (70 + i) _ (by omega) h4).2]; exact (hf _ _ (by omega) h2).1, cf, nf, (hf _ _ (by omega) h3).1, (hf _ _ (by omega) h4).1, h5⟩
theorem BB.mv (h : BB im ad mc b m) (hf : ∀ q c, q ≠ 0 → mc q = some c → mc' q = some c ∧ ad' q = ad q) : BB im ad' mc' b m := by
  obtain ⟨h0, h1, h2, h3, h4, h5, h6, h7, h8⟩ := h
  refine ⟨h0, fun g => ?_, fun g => ?_, fun g => ?_, fun g => ?_, fun g => ?_, fun g => ?_, fun g => ?_, fun g => ?_⟩
  · obtain ⟨dr, a1, a2⟩ := h1 g
    exact ⟨dr, (hf 1 _ (by decide) a1).1, a2⟩
  · obtain ⟨a1, a2, f, a3, a4⟩ := h2 g
    exact ⟨a1, by rw [(hf 3 _ (by decide) a3).2]; exact (hf 2 _ (by decide) a2).1, f, (hf 3 _ (by decide) a3).1, a4⟩
  · obtain ⟨w, tk, len, pr, pl, a1, a2, a3⟩ := h3 g
    exact ⟨w, tk, len, pr, pl, by rw [(hf 5 _ (by decide) a2).2, (hf 6 _ (by decide) a3).2]; exact (hf 4 _ (by decide) a1).1, (hf 5 _ (by decide) a2).1, (hf 6 _ (by decide) a3).1⟩
  · obtain ⟨⟨pr, a1, a2⟩, a3⟩ := h4 g
    refine ⟨⟨pr, (hf 7 _ (by decide) a1).1, fun i hi => ?_⟩, fun i hi => (a3 i hi).mv hf⟩
    rw [a2 i hi, (hf (30 + i) _ (by omega) (a3 i hi).2.1).2]
  · obtain ⟨tr, a1⟩ := h5 g
    exact ⟨tr, (hf 8 _ (by decide) a1).1⟩
  · obtain ⟨tb, pf, wr, cnt, a1, a2, a3, a4⟩ := h6 g
    exact ⟨tb, pf, wr, cnt, by rw [(hf 10 _ (by decide) a2).2, (hf 11 _ (by decide) a3).2, (hf 12 _ (by decide) a4).2]; exact (hf 9 _ (by decide) a1).1, (hf 10 _ (by decide) a2).1, (hf 11 _ (by decide) a3).1, (hf 12 _ (by decide) a4).1⟩
  · obtain ⟨cnt, v, pa, st, lv, a1, a2, a3, a4, a5⟩ := h7 g
    exact ⟨cnt, v, pa, st, lv, by rw [(hf 15 _ (by decide) a2).2, (hf 16 _ (by decide) a3).2, (hf 17 _ (by decide) a4).2, (hf 18 _ (by decide) a5).2]; exact (hf 14 _ (by decide) a1).1, (hf 15 _ (by decide) a2).1, (hf 16 _ (by decide) a3).1, (hf 17 _ (by decide) a4).1, (hf 18 _ (by decide) a5).1⟩
  · obtain ⟨⟨pr, a1, a2⟩, a3⟩ := h8 g
    refine ⟨⟨pr, (hf 21 _ (by decide) a1).1, fun i hi => ?_⟩, fun i hi => (a3 i hi).mv hf⟩
    rw [a2 i hi, (hf (50 + i) _ (by omega) (a3 i hi).2.1).2]
/-- one role more: r was empty -/
theorem BB.new {r : Nat} (h : BB im ad mc b m) (hr : mc r = none) (h1 : ∀ q, q ≠ r → ad' q = ad q) (h2 : ∀ q, q ≠ r → mc' q = mc q) : BB im ad' mc' b m :=
  h.mv fun q c _ hc => by
    have hne : q ≠ r := fun e => by rw [e, hr] at hc; cases hc
    exact ⟨(h2 q hne).trans hc, h1 q hne⟩
/-- the object itself -/
theorem BB.obj (h : BB im ad mc b m) (h2 : ∀ q, q ≠ 0 → mc' q = mc q) : BB im ad mc' b m := h.mv fun q c hq hc => ⟨(h2 q hq).trans hc, rfl⟩
end BBS
abbrev mX10_init (d kc ks : Nat) : gM := (RX10, cX10_init, 3, none, [], "<init>", d, kc, ks)
abbrev kX10_init (d kc ks : Nat) (as : List Value) (G : gG) (Q : Option Value → gG → Prop) (X : String → gG → Prop) : Prop := Ctr yX10_init cX10_init 3 none d kc ks as G Q X
theorem oX10_init {d kc ks : Nat} {as : List Value} {G : gG} {Q : Option Value → gG → Prop} {X : String → gG → Prop} {L : List (Option Value)} (hL : gEnt as = L) (hlen : (lg_sl as).length ≤ 3) (g : GW (mX10_init d kc ks) Q X G 0 0 0 L []) : kX10_init d kc ks as G Q X := Ctr.of (by decide +kernel) rfl rfl hL hlen g
set_option maxHeartbeats 8000000 in
theorem c_MarlStore {im0 : gIm} {ad0 : Nat → Nat} {mc0 : Nat → Option gC} {a : Nat} (h0 : mc0 0 = some (.inl (10, [.null, .null, .null, .null, .null, .int 0, .null, .null, .null, .int 0, .null, .null, .int 0, .null]))) (ha : ad0 0 = a) (hn : ∀ q, q ≠ 0 → mc0 q = none) :
    kX10_init 3 100 3500 [.ref a] (im0, ad0, mc0) (fun v G' => v = none ∧ ∃ im' ad' mc', gLe im0 im' ∧ (im', ad', mc') = G' ∧ ad' 0 = a ∧ St im' ad' mc' (fun _ => noT) noT 0 [] [] []) noX := by
  refine oX10_init (L := [some (.ref a), none, none, none, none, none, none, none, none, none, none, none]) rfl (Nat.le_of_ble_eq_true rfl) ?_
  generalize hQ : (fun (v : Option Value) (G' : gG) => v = none ∧ ∃ im' ad' mc', gLe im0 im' ∧ (im', ad', mc') = G' ∧ ad' 0 = a ∧ St im' ad' mc' (fun _ => noT) noT 0 [] [] []) = Q
  -- the end
  have s234 : ∀ (im : gIm) (ad : Nat → Nat) (mc : Nat → Option gC) (b : Nat) (l2 : Option Value), gLe im0 im → ad 0 = a → BB im ad mc b 8 → mc 0 = some (.inl (10, fO ad b 11)) → (∀ q, 900 ≤ q → mc q = none) → GW (mX10_init 3 100 3500) Q noX (im, ad, mc) 96 3458 234 [some (.ref a), some (.ref b), l2, none, none, none, none, none, none, none, none, none] [] := by
    intro im ad mc b l2 hle had hB hO hN
    obtain ⟨g0, g1, g2, g3, g4, g5, g6, g7, g8⟩ := hB
    refine GW.vreturn dX10_init_234 rfl (by first | (dsimp only [mX10_init, gM.dp, gM.kc, gM.ks]; omega) | exact Nat.le_of_ble_eq_true rfl | exact Nat.le_refl _ | omega) (by first | (dsimp only [mX10_init, gM.dp, gM.kc, gM.ks]; omega) | exact Nat.le_of_ble_eq_true rfl | exact Nat.le_refl _ | omega) ?_
    subst hQ
    refine ⟨rfl, im, ad, mc, hle, rfl, had, ⟨⟨b, hO, g0⟩, g1 (by decide), g2 (by decide), by decide⟩, ⟨(g4 (by decide)).1, by decide, fun i hi => ⟨[], (g4 (by decide)).2 i hi⟩, fun i os h => by simp at h⟩, ⟨(g8 (by decide)).1, by decide, fun i hi => ?_⟩, ⟨g3 (by decide), g5 (by decide), g6 (by decide), g7 (by decide)⟩, hN⟩
    have := (g8 (by decide)).2 i hi
    exact this
  -- the queries
  have s209 : ∀ (b : Nat) (m i : Nat) (im : gIm) (ad : Nat → Nat) (mc : Nat → Option gC) (pr : Nat → Option Nat), i + m = 6 → gLe im0 im → ad 0 = a → BB im ad mc b 7 → mc 0 = some (.inl (10, fO ad b 11)) → mc 21 = some (.inr (4, 6, .inr pr)) → (∀ k, k < i → pr k = some (ad (50 + k)) ∧ qyAt ad mc k []) → (∀ q, 21 < q → ¬ (30 ≤ q ∧ q < 50) → ¬ (50 ≤ q ∧ q < 50 + i) → ¬ (60 ≤ q ∧ q < 60 + i) → ¬ (70 ≤ q ∧ q < 70 + i) → mc q = none) →
      GW (mX10_init 3 100 3500) Q noX (im, ad, mc) (78 + 3 * i) (3380 + 13 * i) 209 [some (.ref a), some (.ref b), some (.int (nI i)), none, none, none, none, none, none, none, none, none] [] := by
    intro b m
    induction m with
    | zero =>
      intro i im ad mc pr hi hle had hB hO h21 hall hN
      have hi6 : i = 6 := by omega
      subst hi6
      refine GW.iload2 dX10_init_209 ?_
      refine GW.bipush (v := 6) dX10_init_210 (by decide) ?_
      refine GW.icmp_ge (tgt := 234) dX10_init_212 (by decide) (fun h212 => ?_) (fun h212 => ?_)
      · refine GW.widen (k' := 96) (n' := 3458) (by omega) (by omega) ?_
        obtain ⟨g0, g1, g2, g3, g4, g5, g6, g7, -⟩ := hB
        exact s234 im ad mc b _ hle had ⟨g0, fun _ => g1 (by decide), fun _ => g2 (by decide), fun _ => g3 (by decide), fun _ => g4 (by decide), fun _ => g5 (by decide), fun _ => g6 (by decide), fun _ => g7 (by decide), fun _ => ⟨⟨pr, h21, fun i hi => (hall i hi).1⟩, fun i hi => (hall i hi).2⟩⟩ hO (fun q hq => hN q (by omega) (by omega) (by omega) (by omega) (by omega))
      · exact absurd (by decide) h212
    | succ m ih =>
      intro i im ad mc pr hi hle had hB hO h21 hall hN
      have l0 : gL (im, ad, mc) a (.inl (10, _)) := Or.inr ⟨0, had, hO⟩
      have n50 : mc (50 + i) = none := hN _ (by omega) (by omega) (by omega) (by omega) (by omega)
      have n60 : mc (60 + i) = none := hN _ (by omega) (by omega) (by omega) (by omega) (by omega)
      have n70 : mc (70 + i) = none := hN _ (by omega) (by omega) (by omega) (by omega) (by omega)
      refine GW.iload2 dX10_init_209 ?_
      refine GW.bipush (v := 6) dX10_init_210 (by decide) ?_
      refine GW.icmp_ge (tgt := 234) dX10_init_212 (by decide) (fun h212 => ?_) (fun h212 => ?_)
      · exact absurd ((mI_le (a := 6) (by omega) (by omega)).mp h212) (by omega)
      · refine GW.aload0 dX10_init_215 (g := ?_)
        refine GW.getf fl_X10_80 dX10_init_216 (by assumption) (by rfl) ?_
        refine GW.iload2 dX10_init_219 ?_
        refine GW.newo nw_X10_78 (50+i) [.int 0, .null, .null] dX10_init_220 (by first | rfl | assumption) (by intro j hj; match j, hj with | 0, _ => rfl | 1, _ => rfl | 2, _ => rfl) (by first | (dsimp only [mX10_init, gM.dp, gM.kc, gM.ks]; omega) | exact Nat.le_of_ble_eq_true rfl) (by first | (dsimp only [mX10_init, gM.dp, gM.kc, gM.ks]; omega) | exact Nat.le_of_ble_eq_true rfl) (fun q220 => ?_)
        refine GW.nm fun ad1 mc1 e1 e2 e3 e4 => ?_
        refine GW.dup dX10_init_223 (hv := by first | rfl | exact va_rf_cat _) (g := ?_)
        refine GW.callIN nn_X10_84 im_X6 rfl mt_X6_init (c_iQuery (i := i) (im := im) e3 e1 ((e4 _ (by omega)).trans n60) ((e4 _ (by omega)).trans n70)) dX10_init_224 rfl rfl (by first | (dsimp only [mX10_init, gM.dp, gM.kc, gM.ks]; omega) | exact Nat.le_of_ble_eq_true rfl | exact Nat.le_refl _ | omega) (by decide) (by first | omega | (dsimp only [mX10_init, gM.dp, gM.kc, gM.ks]; omega)) (by first | omega | (dsimp only [mX10_init, gM.dp, gM.kc, gM.ks]; omega)) (by first | exact Nat.le_of_ble_eq_true rfl | (simp [va_rf_cat]; done) | (simp [va_rf_cat, Value.category]; done)) (fun v224 G224 hq => ?_)
        obtain ⟨rfl, ad2, mc2, rfl, f1, f2, hqy⟩ := hq
        have fm : ∀ q, q ≠ 50 + i → q ≠ 60 + i → q ≠ 70 + i → mc2 q = mc q := fun q a1 a2 a3 => (f2 q a1 a2 a3).trans (e4 q a1)
        have fa : ∀ q, q ≠ 50 + i → q ≠ 60 + i → q ≠ 70 + i → ad2 q = ad q := fun q a1 a2 a3 => (f1 q a2 a3).trans (e2 q a1)
        have mv : ∀ q c, q ≠ 0 → mc q = some c → mc2 q = some c ∧ ad2 q = ad q := fun q c _ hc => by
          have a1 : q ≠ 50 + i := fun e => by rw [e, n50] at hc; cases hc
          have a2 : q ≠ 60 + i := fun e => by rw [e, n60] at hc; cases hc
          have a3 : q ≠ 70 + i := fun e => by rw [e, n70] at hc; cases hc
          exact ⟨(fm q a1 a2 a3).trans hc, fa q a1 a2 a3⟩
        have k21 : mc2 21 = some (.inr (4, 6, .inr pr)) := (fm 21 (by omega) (by omega) (by omega)).trans h21
        have k21a : ad2 21 = ad 21 := fa 21 (by omega) (by omega) (by omega)
        have k50a : ad2 (50 + i) = q220 := (f1 _ (by omega) (by omega)).trans e1
        have hix : gIx (nI i) i 6 := mI_ix (by omega) (by omega)
        refine GW.aast (v := some q220) (r := 21) dX10_init_227 k21 hix (by decide) k21a (fun w hw => by cases hw; exact ⟨_, Or.inr ⟨50 + i, k50a, hqy.2.1⟩⟩) ?_
        refine GW.sm fun mc3 j1 j2 => ?_
        refine GW.inc2 dX10_init_228 (g := ?_)
        refine GW.goto (tgt := 209) dX10_init_231 (by decide) ?_
        rw [mI_succ]
        refine GW.widen (k' := 78 + 3 * (i + 1)) (n' := 3380 + 13 * (i + 1)) (by omega) (by omega) ?_
        refine ih (i + 1) im ad2 mc3 _ (by omega) hle ((fa 0 (by omega) (by omega) (by omega)).trans had) ?_ ?_ j1 (fun k hk => ?_) (fun q a0 a1 a2 a3 a4 => ?_)
        · have h2 := hB.mv (mc' := mc2) (ad' := ad2) mv
          obtain ⟨g0, g1, g2, g3, g4, g5, g6, g7, -⟩ := h2
          refine ⟨g0, fun g => (g1 g).mono (gLe.rf _) (j2 1 (by decide)), fun g => (g2 g).mono (j2 2 (by decide)) (j2 3 (by decide)), fun g => (g3 g).mono (j2 4 (by decide)) (j2 5 (by decide)) (j2 6 (by decide)), fun g => ⟨(g4 g).1.mono (j2 7 (by decide)), fun i hi => ((g4 g).2 i hi).mono (gLe.rf _) (j2 _ (by omega)) (j2 _ (by omega))⟩, fun g => (g5 g).mono (j2 8 (by decide)), fun g => (g6 g).mono (j2 9 (by decide)) (j2 10 (by decide)) (j2 11 (by decide)) (j2 12 (by decide)), fun g => (g7 g).mono fun q h1 h2 => j2 q (by omega), fun g => absurd g (by decide)⟩
        · rw [j2 0 (by decide), fm 0 (by omega) (by omega) (by omega), hO]
          simp [fO, nz, fa 1 (by omega) (by omega) (by omega), fa 2 (by omega) (by omega) (by omega), fa 4 (by omega) (by omega) (by omega), fa 7 (by omega) (by omega) (by omega), fa 8 (by omega) (by omega) (by omega), fa 9 (by omega) (by omega) (by omega), fa 13 (by omega) (by omega) (by omega), fa 14 (by omega) (by omega) (by omega), fa 19 (by omega) (by omega) (by omega), fa 21 (by omega) (by omega) (by omega)]
        · by_cases hki : k = i
          · subst hki
            exact ⟨by simp [va_up, k50a], hqy.mono (j2 _ (by omega)) (j2 _ (by omega)) (j2 _ (by omega))⟩
          · obtain ⟨w1, w2⟩ := hall k (by omega)
            refine ⟨?_, (w2.mv mv).mono (j2 _ (by omega)) (j2 _ (by omega)) (j2 _ (by omega))⟩
            rw [(mv (50 + k) _ (by omega) w2.2.1).2]
            simp [va_up, hki, w1]
        · rw [j2 q (by omega), fm q (by omega) (by omega) (by omega)]
          exact hN q a0 a1 (by omega) (by omega) (by omega)
  -- the row of the queries
  have s198 : ∀ (im : gIm) (ad : Nat → Nat) (mc : Nat → Option gC) (b : Nat) (l2 : Option Value), gLe im0 im → ad 0 = a → BB im ad mc b 7 → mc 0 = some (.inl (10, fO ad b 10)) → (∀ q, 20 < q → ¬ (30 ≤ q ∧ q < 50) → mc q = none) → GW (mX10_init 3 100 3500) Q noX (im, ad, mc) 77 3374 198 [some (.ref a), some (.ref b), l2, none, none, none, none, none, none, none, none, none] [] := by
    intro im ad mc b l2 hle had hB hO hN
    have n21 : mc 21 = none := hN 21 (by decide) (by decide)
    refine GW.aload0 dX10_init_198 (g := ?_)
    refine GW.bipush (v := 6) dX10_init_199 (by decide) ?_
    refine GW.newq (kd := 4) nw_X10_78 21 dX10_init_201 (by first | rfl | assumption) (sz6).1 (sz6).2.1 (sz6).2.2 (fun _ => rfl) (by decide) (by first | (dsimp only [mX10_init, gM.dp, gM.kc, gM.ks]; omega) | exact Nat.le_of_ble_eq_true rfl) (by first | (dsimp only [mX10_init, gM.dp, gM.kc, gM.ks]; omega) | exact Nat.le_of_ble_eq_true rfl) (fun q201 => ?_)
    refine GW.nm fun ad1 mc1 e1 e2 e3 e4 => ?_
    have k0 : mc1 0 = some (.inl (10, fO ad1 b 10)) := by rw [e4 0 (by decide), hO]; simp [fO, nz, e2]
    have ka : ad1 0 = a := (e2 0 (by decide)).trans had
    refine GW.putf (M := mX10_init 3 100 3500) (pc := 204) (r := 0) fl_X10_80 dX10_init_204 (k0) (Nat.le_of_ble_eq_true rfl) ⟨rfl, rfl⟩ (by first | exact Or.inl rfl | exact Or.inr ⟨rfl, rfl⟩) (by first | rfl | assumption) ?_
    refine GW.sm fun mc2 f1 f2 => ?_
    refine GW.iconst (v := 0) dX10_init_207 (by decide) ?_
    refine GW.istore2 dX10_init_208 (g := ?_)
    exact s209 b 6 0 im ad1 mc2 _ rfl hle ka ((hB.new n21 e2 e4).obj f2) (by rw [f1]; simp [fO, nz, e1, e2]) ((f2 21 (by decide)).trans e3) (fun k hk => absurd hk (Nat.not_lt_zero _)) (fun q a0 a1 _ _ _ => (f2 q (by omega)).trans ((e4 q (by omega)).trans (hN q (by omega) a1)))
  -- the checker
  have s179 : ∀ (im : gIm) (ad : Nat → Nat) (mc : Nat → Option gC) (b : Nat) (l2 : Option Value), gLe im0 im → ad 0 = a → BB im ad mc b 7 → mc 0 = some (.inl (10, fO ad b 9)) → (∀ q, 18 < q → ¬ (30 ≤ q ∧ q < 50) → mc q = none) → GW (mX10_init 3 100 3500) Q noX (im, ad, mc) 75 3317 179 [some (.ref a), some (.ref b), l2, none, none, none, none, none, none, none, none, none] [] := by
    intro im ad mc b l2 hle had hB hO hN
    have n19 : mc 19 = none := hN 19 (by decide) (by decide)
    have n20 : mc 20 = none := hN 20 (by decide) (by decide)
    refine GW.aload0 dX10_init_179 (g := ?_)
    refine GW.newo nw_X10_69 19 [.int 0, .int 0, .int 0, .int 0, .null, .null, .null] dX10_init_180 (by first | rfl | assumption) (by intro j hj; match j, hj with | 0, _ => rfl | 1, _ => rfl | 2, _ => rfl | 3, _ => rfl | 4, _ => rfl | 5, _ => rfl | 6, _ => rfl) (by first | (dsimp only [mX10_init, gM.dp, gM.kc, gM.ks]; omega) | exact Nat.le_of_ble_eq_true rfl) (by first | (dsimp only [mX10_init, gM.dp, gM.kc, gM.ks]; omega) | exact Nat.le_of_ble_eq_true rfl) (fun q180 => ?_)
    refine GW.nm fun ad1 mc1 e1 e2 e3 e4 => ?_
    have k0 : mc1 0 = some (.inl (10, fO ad1 b 9)) := by rw [e4 0 (by decide), hO]; simp [fO, nz, e2]
    have ka : ad1 0 = a := (e2 0 (by decide)).trans had
    have l0 : gL (im, ad1, mc1) a (.inl (10, _)) := Or.inr ⟨0, ka, k0⟩
    refine GW.dup dX10_init_183 (hv := by first | rfl | exact va_rf_cat _) (g := ?_)
    refine GW.aload0 dX10_init_184 (g := ?_)
    refine GW.getf fl_X10_65 dX10_init_185 (by assumption) (by rfl) ?_
    refine GW.aload0 dX10_init_188 (g := ?_)
    refine GW.getf fl_X10_57 dX10_init_189 (by assumption) (by rfl) ?_
    refine GW.callI ci_X10_71 mt_X0_init (c_iChecker (im := im) (w := ad1 14) (s := ad1 13) e3 e1 ((e4 20 (by decide)).trans n20)) (fun _ _ h => h) dX10_init_192 rfl rfl (by first | (dsimp only [mX10_init, gM.dp, gM.kc, gM.ks]; omega) | exact Nat.le_of_ble_eq_true rfl | exact Nat.le_refl _ | omega) (by decide) (by first | omega | (dsimp only [mX10_init, gM.dp, gM.kc, gM.ks]; omega)) (by first | omega | (dsimp only [mX10_init, gM.dp, gM.kc, gM.ks]; omega)) (by first | exact Nat.le_of_ble_eq_true rfl | (simp [va_rf_cat]; done) | (simp [va_rf_cat, Value.category]; done)) (fun v192 G192 hq => ?_)
    obtain ⟨rfl, ad2, mc2, rfl, f1, f2, fs, f3⟩ := hq
    have k02 : mc2 0 = some (.inl (10, fO ad2 b 9)) := by rw [f2 0 (by decide) (by decide), k0]; simp [fO, nz, f1]
    have ka2 : ad2 0 = a := (f1 0 (by decide)).trans ka
    have k19 : ad2 19 = q180 := (f1 19 (by decide)).trans e1
    refine GW.putf (M := mX10_init 3 100 3500) (pc := 195) (r := 0) fl_X10_74 dX10_init_195 (k02) (Nat.le_of_ble_eq_true rfl) ⟨rfl, rfl⟩ (by first | exact Or.inl rfl | exact Or.inr ⟨rfl, rfl⟩) (by first | rfl | assumption) ?_
    refine GW.sm fun mc3 g1 g2 => ?_
    refine GW.widen (k' := 77) (n' := 3374) (Nat.le_of_ble_eq_true rfl) (Nat.le_of_ble_eq_true rfl) ?_
    refine s198 im ad2 mc3 b _ hle ka2 ?_ (by rw [g1]; simp [fO, nz, k19]) (fun q a0 a1 => (g2 q (by omega)).trans ((f2 q (by omega) (by omega)).trans ((e4 q (by omega)).trans (hN q (by omega) a1))))
    refine (hB.mv (mc' := mc2) (ad' := ad2) fun q c hq hc => ?_).obj g2
    have a1 : q ≠ 19 := fun e => by rw [e, n19] at hc; cases hc
    have a2 : q ≠ 20 := fun e => by rw [e, n20] at hc; cases hc
    exact ⟨(f2 q a1 a2).trans ((e4 q a1).trans hc), (f1 q a2).trans (e2 q a1)⟩
  -- the walk
  have s168 : ∀ (im : gIm) (ad : Nat → Nat) (mc : Nat → Option gC) (b : Nat) (l2 : Option Value), gLe im0 im → ad 0 = a → BB im ad mc b 6 → mc 0 = some (.inl (10, fO ad b 8)) → (∀ q, 13 < q → ¬ (30 ≤ q ∧ q < 50) → mc q = none) → GW (mX10_init 3 100 3500) Q noX (im, ad, mc) 70 3112 168 [some (.ref a), some (.ref b), l2, none, none, none, none, none, none, none, none, none] [] := by
    intro im ad mc b l2 hle had hB hO hN
    have n14 : mc 14 = none := hN 14 (by decide) (by decide)
    refine GW.aload0 dX10_init_168 (g := ?_)
    refine GW.newo nw_X10_62 14 [.int 0, .null, .null, .null, .null] dX10_init_169 (by first | rfl | assumption) (by intro j hj; match j, hj with | 0, _ => rfl | 1, _ => rfl | 2, _ => rfl | 3, _ => rfl | 4, _ => rfl) (by first | (dsimp only [mX10_init, gM.dp, gM.kc, gM.ks]; omega) | exact Nat.le_of_ble_eq_true rfl) (by first | (dsimp only [mX10_init, gM.dp, gM.kc, gM.ks]; omega) | exact Nat.le_of_ble_eq_true rfl) (fun q169 => ?_)
    refine GW.nm fun ad1 mc1 e1 e2 e3 e4 => ?_
    refine GW.dup dX10_init_172 (hv := by first | rfl | exact va_rf_cat _) (g := ?_)
    refine GW.callIN nn_X10_64 im_X9 rfl mt_X9_init (c_iWalk (im := im) e3 e1 ((e4 15 (by decide)).trans (hN 15 (by decide) (by decide))) ((e4 16 (by decide)).trans (hN 16 (by decide) (by decide))) ((e4 17 (by decide)).trans (hN 17 (by decide) (by decide))) ((e4 18 (by decide)).trans (hN 18 (by decide) (by decide)))) dX10_init_173 rfl rfl (by first | (dsimp only [mX10_init, gM.dp, gM.kc, gM.ks]; omega) | exact Nat.le_of_ble_eq_true rfl | exact Nat.le_refl _ | omega) (by decide) (by first | omega | (dsimp only [mX10_init, gM.dp, gM.kc, gM.ks]; omega)) (by first | omega | (dsimp only [mX10_init, gM.dp, gM.kc, gM.ks]; omega)) (by first | exact Nat.le_of_ble_eq_true rfl | (simp [va_rf_cat]; done) | (simp [va_rf_cat, Value.category]; done)) (fun v173 G173 hq => ?_)
    obtain ⟨rfl, ad2, mc2, rfl, f1, f2, hwk⟩ := hq
    have fm : ∀ q, q < 14 ∨ 18 < q → mc2 q = mc q := fun q h => (f2 q h).trans (e4 q (by omega))
    have fa : ∀ q, q < 14 ∨ 18 < q → ad2 q = ad q := fun q h => (f1 q (by omega)).trans (e2 q (by omega))
    have k02 : mc2 0 = some (.inl (10, fO ad2 b 8)) := by rw [fm 0 (by decide), hO]; simp [fO, nz, fa]
    have ka2 : ad2 0 = a := (fa 0 (by decide)).trans had
    have k14 : ad2 14 = q169 := (f1 14 (by decide)).trans e1
    refine GW.putf (M := mX10_init 3 100 3500) (pc := 176) (r := 0) fl_X10_65 dX10_init_176 (k02) (Nat.le_of_ble_eq_true rfl) ⟨rfl, rfl⟩ (by first | exact Or.inl rfl | exact Or.inr ⟨rfl, rfl⟩) (by first | rfl | assumption) ?_
    refine GW.sm fun mc3 g1 g2 => ?_
    refine GW.widen (k' := 75) (n' := 3317) (Nat.le_of_ble_eq_true rfl) (Nat.le_of_ble_eq_true rfl) ?_
    have hB2 : BB im ad2 mc2 b 6 := hB.mv fun q c hq hc => by
      have h : q < 14 ∨ 18 < q := by
        rcases Nat.lt_or_ge q 14 with g | g
        · exact Or.inl g
        · rcases Nat.lt_or_ge 18 q with g' | g'
          · exact Or.inr g'
          · rw [hN q (by omega) (by omega)] at hc; cases hc
      exact ⟨(fm q h).trans hc, fa q h⟩
    refine s179 im ad2 mc3 b _ hle ka2 ?_ (by rw [g1]; simp [fO, nz, k14]) (fun q a0 a1 => (g2 q (by omega)).trans ((fm q (by omega)).trans (hN q (by omega) a1)))
    obtain ⟨b0, b1, b2, b3, b4, b5, b6, -, -⟩ := hB2.obj g2
    exact ⟨b0, fun _ => b1 (by decide), fun _ => b2 (by decide), fun _ => b3 (by decide), fun _ => b4 (by decide), fun _ => b5 (by decide), fun _ => b6 (by decide), fun _ => hwk.mono fun q h1 h2 => g2 q (by omega), fun g => absurd g (by decide)⟩
  -- the schemas
  have s143 : ∀ (b : Nat) (m i : Nat) (im : gIm) (ad : Nat → Nat) (mc : Nat → Option gC) (pr : Nat → Option Nat), i + m = 10 → gLe im0 im → ad 0 = a → BB im ad mc b 6 → mc 0 = some (.inl (10, fO ad b 8)) → mc 13 = some (.inr (5, 10, .inr pr)) → (∀ q, 13 < q → ¬ (30 ≤ q ∧ q < 50) → mc q = none) →
      GW (mX10_init 3 100 3500) Q noX (im, ad, mc) (30 + 4 * i) (2882 + 23 * i) 143 [some (.ref a), some (.ref b), some (.int (nI i)), none, none, none, none, none, none, none, none, none] [] := by
    intro b m
    induction m with
    | zero =>
      intro i im ad mc pr hi hle had hB hO h13 hN
      have hi6 : i = 10 := by omega
      subst hi6
      refine GW.iload2 dX10_init_143 ?_
      refine GW.bipush (v := 10) dX10_init_144 (by decide) ?_
      refine GW.icmp_ge (tgt := 168) dX10_init_146 (by decide) (fun h146 => ?_) (fun h146 => ?_)
      · refine GW.widen (k' := 70) (n' := 3112) (Nat.le_of_ble_eq_true rfl) (Nat.le_of_ble_eq_true rfl) ?_
        exact s168 im ad mc b _ hle had hB hO hN
      · exact absurd (by decide) h146
    | succ m ih =>
      intro i im ad mc pr hi hle had hB hO h13 hN
      have l0 : gL (im, ad, mc) a (.inl (10, _)) := Or.inr ⟨0, had, hO⟩
      have n900 : mc 900 = none := hN _ (by omega) (by omega)
      refine GW.iload2 dX10_init_143 ?_
      refine GW.bipush (v := 10) dX10_init_144 (by decide) ?_
      refine GW.icmp_ge (tgt := 168) dX10_init_146 (by decide) (fun h146 => ?_) (fun h146 => ?_)
      · exact absurd ((mI_le (a := 10) (by omega) (by omega)).mp h146) (by omega)
      · refine GW.aload0 dX10_init_149 (g := ?_)
        refine GW.getf fl_X10_57 dX10_init_150 (by assumption) (by rfl) ?_
        refine GW.iload2 dX10_init_153 ?_
        refine GW.newo nw_X10_55 900 [.int 0, .int 0, .int 0, .int 0, .int 0, .int 0, .int 0, .int 0, .null, .null, .null] dX10_init_154 (by first | rfl | assumption) (by intro j hj; match j, hj with | 0, _ => rfl | 1, _ => rfl | 2, _ => rfl | 3, _ => rfl | 4, _ => rfl | 5, _ => rfl | 6, _ => rfl | 7, _ => rfl | 8, _ => rfl | 9, _ => rfl | 10, _ => rfl) (by first | (dsimp only [mX10_init, gM.dp, gM.kc, gM.ks]; omega) | exact Nat.le_of_ble_eq_true rfl) (by first | (dsimp only [mX10_init, gM.dp, gM.kc, gM.ks]; omega) | exact Nat.le_of_ble_eq_true rfl) (fun q154 => ?_)
        refine GW.nm fun ad1 mc1 e1 e2 e3 e4 => ?_
        refine GW.dup dX10_init_157 (hv := by first | rfl | exact va_rf_cat _) (g := ?_)
        refine GW.callIN nn_X10_61 im_X7 rfl mt_X7_init (c_iSchema (im := im) e3 e1 ((e4 901 (by decide)).trans (hN _ (by omega) (by omega))) ((e4 902 (by decide)).trans (hN _ (by omega) (by omega))) ((e4 903 (by decide)).trans (hN _ (by omega) (by omega)))) dX10_init_158 rfl rfl (by first | (dsimp only [mX10_init, gM.dp, gM.kc, gM.ks]; omega) | exact Nat.le_of_ble_eq_true rfl | exact Nat.le_refl _ | omega) (by decide) (by first | omega | (dsimp only [mX10_init, gM.dp, gM.kc, gM.ks]; omega)) (by first | omega | (dsimp only [mX10_init, gM.dp, gM.kc, gM.ks]; omega)) (by first | exact Nat.le_of_ble_eq_true rfl | (simp [va_rf_cat]; done) | (simp [va_rf_cat, Value.category]; done)) (fun v158 G158 hq => ?_)
        obtain ⟨rfl, ad2, mc2, rfl, f1, f2, fs, f3⟩ := hq
        have fm : ∀ q, q < 900 → mc2 q = mc q := fun q h => (f2 q h).trans (e4 q (by omega))
        have fa : ∀ q, q < 900 → ad2 q = ad q := fun q h => (f1 q (by omega)).trans (e2 q (by omega))
        have k13 : mc2 13 = some (.inr (5, 10, .inr pr)) := (fm 13 (by omega)).trans h13
        have k13a : ad2 13 = ad 13 := fa 13 (by omega)
        have k900a : ad2 900 = q154 := (f1 _ (by omega)).trans e1
        have hix : gIx (nI i) i 10 := mI_ix (by omega) (by omega)
        refine GW.aast (v := some q154) (r := 13) dX10_init_161 k13 hix (by decide) k13a (fun w hw => by cases hw; exact ⟨_, Or.inr ⟨900, k900a, f3⟩⟩) ?_
        refine GW.sm fun mc3 j1 j2 => ?_
        refine GW.relax (ad0 := ad) (mc0 := fun q => if q = 13 then some (.inr (5, 10, .inr (va_up pr i (some q154)))) else mc q) (fun q c hc => ?_) ?_
        · have hlt : q < 900 := by
            rcases Nat.lt_or_ge q 900 with g | g
            · exact g
            · rw [if_neg (by omega), hN q (by omega) (by omega)] at hc; cases hc
          by_cases h13q : q = 13
          · subst h13q
            rw [if_pos rfl] at hc
            exact ⟨j1.trans hc, k13a.symm⟩
          · rw [if_neg h13q] at hc
            exact ⟨(j2 q h13q).trans ((fm q hlt).trans hc), (fa q hlt).symm⟩
        · obtain ⟨mc4, hm4⟩ : ∃ mc4, mc4 = (fun q => if q = 13 then some (.inr (5, 10, .inr (va_up pr i (some q154)))) else mc q : Nat → Option gC) := ⟨_, rfl⟩
          rw [← hm4]
          have ko : ∀ q, q ≠ 13 → mc4 q = mc q := fun q h => by rw [hm4]; exact if_neg h
          refine GW.inc2 dX10_init_162 (g := ?_)
          refine GW.goto (tgt := 143) dX10_init_165 (by decide) ?_
          rw [mI_succ]
          refine GW.widen (k' := 30 + 4 * (i + 1)) (n' := 2882 + 23 * (i + 1)) (by omega) (by omega) ?_
          refine ih (i + 1) im ad mc4 _ (by omega) hle had ?_ ((ko 0 (by decide)).trans hO) (by rw [hm4]; exact if_pos rfl) (fun q a0 a1 => (ko q (by omega)).trans (hN q a0 a1))
          obtain ⟨b0, b1, b2, b3, b4, b5, b6, -, -⟩ := hB
          exact ⟨b0, fun g => (b1 g).mono (gLe.rf _) (ko 1 (by decide)), fun g => (b2 g).mono (ko 2 (by decide)) (ko 3 (by decide)), fun g => (b3 g).mono (ko 4 (by decide)) (ko 5 (by decide)) (ko 6 (by decide)), fun g => ⟨(b4 g).1.mono (ko 7 (by decide)), fun i hi => ((b4 g).2 i hi).mono (gLe.rf _) (ko _ (by omega)) (ko _ (by omega))⟩, fun g => (b5 g).mono (ko 8 (by decide)), fun g => (b6 g).mono (ko 9 (by decide)) (ko 10 (by decide)) (ko 11 (by decide)) (ko 12 (by decide)), fun g => absurd g (by decide), fun g => absurd g (by decide)⟩
  have s132 : ∀ (im : gIm) (ad : Nat → Nat) (mc : Nat → Option gC) (b : Nat) (l2 : Option Value), gLe im0 im → ad 0 = a → BB im ad mc b 6 → mc 0 = some (.inl (10, fO ad b 7)) → (∀ q, 12 < q → ¬ (30 ≤ q ∧ q < 50) → mc q = none) → GW (mX10_init 3 100 3500) Q noX (im, ad, mc) 29 2872 132 [some (.ref a), some (.ref b), l2, none, none, none, none, none, none, none, none, none] [] := by
    intro im ad mc b l2 hle had hB hO hN
    have n13 : mc 13 = none := hN 13 (by decide) (by decide)
    refine GW.aload0 dX10_init_132 (g := ?_)
    refine GW.bipush (v := 10) dX10_init_133 (by decide) ?_
    refine GW.newq (kd := 5) nw_X10_55 13 dX10_init_135 (by first | rfl | assumption) (sz10).1 (sz10).2.1 (sz10).2.2 (fun _ => rfl) (by decide) (by first | (dsimp only [mX10_init, gM.dp, gM.kc, gM.ks]; omega) | exact Nat.le_of_ble_eq_true rfl) (by first | (dsimp only [mX10_init, gM.dp, gM.kc, gM.ks]; omega) | exact Nat.le_of_ble_eq_true rfl) (fun q135 => ?_)
    refine GW.nm fun ad1 mc1 e1 e2 e3 e4 => ?_
    have k0 : mc1 0 = some (.inl (10, fO ad1 b 7)) := by rw [e4 0 (by decide), hO]; simp [fO, nz, e2]
    have ka : ad1 0 = a := (e2 0 (by decide)).trans had
    refine GW.putf (M := mX10_init 3 100 3500) (pc := 138) (r := 0) fl_X10_57 dX10_init_138 (k0) (Nat.le_of_ble_eq_true rfl) ⟨rfl, rfl⟩ (by first | exact Or.inl rfl | exact Or.inr ⟨rfl, rfl⟩) (by first | rfl | assumption) ?_
    refine GW.sm fun mc2 f1 f2 => ?_
    refine GW.iconst (v := 0) dX10_init_141 (by decide) ?_
    refine GW.istore2 dX10_init_142 (g := ?_)
    exact s143 b 10 0 im ad1 mc2 _ rfl hle ka ((hB.new n13 e2 e4).obj f2) (by rw [f1]; simp [fO, nz, e1, e2]) ((f2 13 (by decide)).trans e3) (fun q a0 a1 => (f2 q (by omega)).trans ((e4 q (by omega)).trans (hN q (by omega) a1)))
  -- the differ
  have s121 : ∀ (im : gIm) (ad : Nat → Nat) (mc : Nat → Option gC) (b : Nat) (l2 : Option Value), gLe im0 im → ad 0 = a → BB im ad mc b 5 → mc 0 = some (.inl (10, fO ad b 6)) → (∀ q, 8 < q → ¬ (30 ≤ q ∧ q < 50) → mc q = none) → GW (mX10_init 3 100 3500) Q noX (im, ad, mc) 25 242 121 [some (.ref a), some (.ref b), l2, none, none, none, none, none, none, none, none, none] [] := by
    intro im ad mc b l2 hle had hB hO hN
    have n9 : mc 9 = none := hN 9 (by decide) (by decide)
    refine GW.aload0 dX10_init_121 (g := ?_)
    refine GW.newo nw_X10_48 9 [.null, .null, .null, .int 0] dX10_init_122 (by first | rfl | assumption) (by intro j hj; match j, hj with | 0, _ => rfl | 1, _ => rfl | 2, _ => rfl | 3, _ => rfl) (by first | (dsimp only [mX10_init, gM.dp, gM.kc, gM.ks]; omega) | exact Nat.le_of_ble_eq_true rfl) (by first | (dsimp only [mX10_init, gM.dp, gM.kc, gM.ks]; omega) | exact Nat.le_of_ble_eq_true rfl) (fun q122 => ?_)
    refine GW.nm fun ad1 mc1 e1 e2 e3 e4 => ?_
    refine GW.dup dX10_init_125 (hv := by first | rfl | exact va_rf_cat _) (g := ?_)
    refine GW.callIN nn_X10_50 im_X1 rfl mt_X1_init (c_iDiffer (im := im) e3 e1 ((e4 10 (by decide)).trans (hN 10 (by decide) (by decide))) ((e4 11 (by decide)).trans (hN 11 (by decide) (by decide))) ((e4 12 (by decide)).trans (hN 12 (by decide) (by decide)))) dX10_init_126 rfl rfl (by first | (dsimp only [mX10_init, gM.dp, gM.kc, gM.ks]; omega) | exact Nat.le_of_ble_eq_true rfl | exact Nat.le_refl _ | omega) (by decide) (by first | omega | (dsimp only [mX10_init, gM.dp, gM.kc, gM.ks]; omega)) (by first | omega | (dsimp only [mX10_init, gM.dp, gM.kc, gM.ks]; omega)) (by first | exact Nat.le_of_ble_eq_true rfl | (simp [va_rf_cat]; done) | (simp [va_rf_cat, Value.category]; done)) (fun v126 G126 hq => ?_)
    obtain ⟨rfl, ad2, mc2, rfl, f1, f2, hdf⟩ := hq
    have fm : ∀ q, q < 9 ∨ 12 < q → mc2 q = mc q := fun q h => (f2 q (by omega) (by omega) (by omega) (by omega)).trans (e4 q (by omega))
    have fa : ∀ q, q < 9 ∨ 12 < q → ad2 q = ad q := fun q h => (f1 q (by omega) (by omega) (by omega)).trans (e2 q (by omega))
    have k02 : mc2 0 = some (.inl (10, fO ad2 b 6)) := by rw [fm 0 (by decide), hO]; simp [fO, nz, fa]
    have ka2 : ad2 0 = a := (fa 0 (by decide)).trans had
    have k9 : ad2 9 = q122 := (f1 9 (by decide) (by decide) (by decide)).trans e1
    refine GW.putf (M := mX10_init 3 100 3500) (pc := 129) (r := 0) fl_X10_51 dX10_init_129 (k02) (Nat.le_of_ble_eq_true rfl) ⟨rfl, rfl⟩ (by first | exact Or.inl rfl | exact Or.inr ⟨rfl, rfl⟩) (by first | rfl | assumption) ?_
    refine GW.sm fun mc3 g1 g2 => ?_
    refine GW.widen (k' := 29) (n' := 2872) (Nat.le_of_ble_eq_true rfl) (Nat.le_of_ble_eq_true rfl) ?_
    have hB2 : BB im ad2 mc2 b 5 := hB.mv fun q c hq hc => by
      have h : q < 9 ∨ 12 < q := by
        rcases Nat.lt_or_ge q 9 with g | g
        · exact Or.inl g
        · rcases Nat.lt_or_ge 12 q with g' | g'
          · exact Or.inr g'
          · rw [hN q (by omega) (by omega)] at hc; cases hc
      exact ⟨(fm q h).trans hc, fa q h⟩
    refine s132 im ad2 mc3 b _ hle ka2 ?_ (by rw [g1]; simp [fO, nz, k9]) (fun q a0 a1 => (g2 q (by omega)).trans ((fm q (by omega)).trans (hN q (by omega) a1)))
    obtain ⟨b0, b1, b2, b3, b4, b5, -, -, -⟩ := hB2.obj g2
    exact ⟨b0, fun _ => b1 (by decide), fun _ => b2 (by decide), fun _ => b3 (by decide), fun _ => b4 (by decide), fun _ => b5 (by decide), fun _ => hdf.mono (g2 9 (by decide)) (g2 10 (by decide)) (g2 11 (by decide)) (g2 12 (by decide)), fun g => absurd g (by decide), fun g => absurd g (by decide)⟩
  -- what is taken out
  have s112 : ∀ (im : gIm) (ad : Nat → Nat) (mc : Nat → Option gC) (b : Nat) (l2 : Option Value), gLe im0 im → ad 0 = a → BB im ad mc b 4 → mc 0 = some (.inl (10, fO ad b 5)) → (∀ q, 7 < q → ¬ (30 ≤ q ∧ q < 50) → mc q = none) → GW (mX10_init 3 100 3500) Q noX (im, ad, mc) 24 222 112 [some (.ref a), some (.ref b), l2, none, none, none, none, none, none, none, none, none] [] := by
    intro im ad mc b l2 hle had hB hO hN
    have n8 : mc 8 = none := hN 8 (by decide) (by decide)
    refine GW.aload0 dX10_init_112 (g := ?_)
    refine GW.bipush (v := 20) dX10_init_113 (by decide) ?_
    refine GW.newq (kd := 1) nw_X10_7 8 dX10_init_115 (by first | rfl | assumption) (sz20).1 (sz20).2.1 (sz20).2.2 (fun _ => rfl) (by decide) (by first | (dsimp only [mX10_init, gM.dp, gM.kc, gM.ks]; omega) | exact Nat.le_of_ble_eq_true rfl) (by first | (dsimp only [mX10_init, gM.dp, gM.kc, gM.ks]; omega) | exact Nat.le_of_ble_eq_true rfl) (fun q115 => ?_)
    refine GW.nm fun ad1 mc1 e1 e2 e3 e4 => ?_
    have k0 : mc1 0 = some (.inl (10, fO ad1 b 5)) := by rw [e4 0 (by decide), hO]; simp [fO, nz, e2]
    have ka : ad1 0 = a := (e2 0 (by decide)).trans had
    refine GW.putf (M := mX10_init 3 100 3500) (pc := 118) (r := 0) fl_X10_45 dX10_init_118 (k0) (Nat.le_of_ble_eq_true rfl) ⟨rfl, rfl⟩ (by first | exact Or.inl rfl | exact Or.inr ⟨rfl, rfl⟩) (by first | rfl | assumption) ?_
    refine GW.sm fun mc2 f1 f2 => ?_
    refine s121 im ad1 mc2 b _ hle ka ?_ (by rw [f1]; simp [fO, nz, e1, e2]) (fun q a0 a1 => (f2 q (by omega)).trans ((e4 q (by omega)).trans (hN q (by omega) a1)))
    obtain ⟨b0, b1, b2, b3, b4, -, -, -, -⟩ := (hB.new n8 e2 e4).obj f2
    exact ⟨b0, fun _ => b1 (by decide), fun _ => b2 (by decide), fun _ => b3 (by decide), fun _ => b4 (by decide), fun _ => ⟨_, (f2 8 (by decide)).trans e3⟩, fun g => absurd g (by decide), fun g => absurd g (by decide), fun g => absurd g (by decide)⟩
  -- the patches
  have s87 : ∀ (b : Nat) (m i : Nat) (im : gIm) (ad : Nat → Nat) (mc : Nat → Option gC) (pr : Nat → Option Nat), i + m = 8 → gLe im0 im → ad 0 = a → BB im ad mc b 3 → mc 0 = some (.inl (10, fO ad b 5)) → mc 7 = some (.inr (3, 8, .inr pr)) → (∀ k, k < i → pr k = some (ad (30 + k)) ∧ ptAt im ad mc k []) → (∀ q, 7 < q → ¬ (30 ≤ q ∧ q < 30 + i) → ¬ (40 ≤ q ∧ q < 40 + i) → mc q = none) →
      GW (mX10_init 3 100 3500) Q noX (im, ad, mc) (8 + 2 * i) (46 + 22 * i) 87 [some (.ref a), some (.ref b), some (.int (nI i)), none, none, none, none, none, none, none, none, none] [] := by
    intro b m
    induction m with
    | zero =>
      intro i im ad mc pr hi hle had hB hO h7 hall hN
      have hi6 : i = 8 := by omega
      subst hi6
      refine GW.iload2 dX10_init_87 ?_
      refine GW.bipush (v := 8) dX10_init_88 (by decide) ?_
      refine GW.icmp_ge (tgt := 112) dX10_init_90 (by decide) (fun h90 => ?_) (fun h90 => ?_)
      · refine GW.widen (k' := 24) (n' := 222) (Nat.le_of_ble_eq_true rfl) (Nat.le_of_ble_eq_true rfl) ?_
        obtain ⟨g0, g1, g2, g3, -⟩ := hB
        exact s112 im ad mc b _ hle had ⟨g0, fun _ => g1 (by decide), fun _ => g2 (by decide), fun _ => g3 (by decide), fun _ => ⟨⟨pr, h7, fun i hi => (hall i hi).1⟩, fun i hi => (hall i hi).2⟩, fun g => absurd g (by decide), fun g => absurd g (by decide), fun g => absurd g (by decide), fun g => absurd g (by decide)⟩ hO (fun q a0 a1 => hN q a0 (by omega) (by omega))
      · exact absurd (by decide) h90
    | succ m ih =>
      intro i im ad mc pr hi hle had hB hO h7 hall hN
      have l0 : gL (im, ad, mc) a (.inl (10, _)) := Or.inr ⟨0, had, hO⟩
      have n30 : mc (30 + i) = none := hN _ (by omega) (by omega) (by omega)
      have n40 : mc (40 + i) = none := hN _ (by omega) (by omega) (by omega)
      refine GW.iload2 dX10_init_87 ?_
      refine GW.bipush (v := 8) dX10_init_88 (by decide) ?_
      refine GW.icmp_ge (tgt := 112) dX10_init_90 (by decide) (fun h90 => ?_) (fun h90 => ?_)
      · exact absurd ((mI_le (a := 8) (by omega) (by omega)).mp h90) (by omega)
      · refine GW.aload0 dX10_init_93 (g := ?_)
        refine GW.getf fl_X10_40 dX10_init_94 (by assumption) (by rfl) ?_
        refine GW.iload2 dX10_init_97 ?_
        refine GW.newo nw_X10_38 (30+i) [.int 0, .null] dX10_init_98 (by first | rfl | assumption) (by intro j hj; match j, hj with | 0, _ => rfl | 1, _ => rfl) (by first | (dsimp only [mX10_init, gM.dp, gM.kc, gM.ks]; omega) | exact Nat.le_of_ble_eq_true rfl) (by first | (dsimp only [mX10_init, gM.dp, gM.kc, gM.ks]; omega) | exact Nat.le_of_ble_eq_true rfl) (fun q98 => ?_)
        refine GW.nm fun ad1 mc1 e1 e2 e3 e4 => ?_
        refine GW.dup dX10_init_101 (hv := by first | rfl | exact va_rf_cat _) (g := ?_)
        refine GW.callIN nn_X10_44 im_X4 rfl mt_X4_init (c_iPatch (i := i) (im := im) e3 e1 ((e4 _ (by omega)).trans n40)) dX10_init_102 rfl rfl (by first | (dsimp only [mX10_init, gM.dp, gM.kc, gM.ks]; omega) | exact Nat.le_of_ble_eq_true rfl | exact Nat.le_refl _ | omega) (by decide) (by first | omega | (dsimp only [mX10_init, gM.dp, gM.kc, gM.ks]; omega)) (by first | omega | (dsimp only [mX10_init, gM.dp, gM.kc, gM.ks]; omega)) (by first | exact Nat.le_of_ble_eq_true rfl | (simp [va_rf_cat]; done) | (simp [va_rf_cat, Value.category]; done)) (fun v102 G102 hq => ?_)
        obtain ⟨rfl, ad2, mc2, rfl, f1, f2, hpt⟩ := hq
        have fm : ∀ q, q ≠ 30 + i → q ≠ 40 + i → mc2 q = mc q := fun q a1 a2 => (f2 q a1 a2).trans (e4 q a1)
        have fa : ∀ q, q ≠ 30 + i → q ≠ 40 + i → ad2 q = ad q := fun q a1 a2 => (f1 q a2).trans (e2 q a1)
        have mv : ∀ q c, q ≠ 0 → mc q = some c → mc2 q = some c ∧ ad2 q = ad q := fun q c _ hc => by
          have a1 : q ≠ 30 + i := fun e => by rw [e, n30] at hc; cases hc
          have a2 : q ≠ 40 + i := fun e => by rw [e, n40] at hc; cases hc
          exact ⟨(fm q a1 a2).trans hc, fa q a1 a2⟩
        have k7 : mc2 7 = some (.inr (3, 8, .inr pr)) := (fm 7 (by omega) (by omega)).trans h7
        have k7a : ad2 7 = ad 7 := fa 7 (by omega) (by omega)
        have k30a : ad2 (30 + i) = q98 := (f1 _ (by omega)).trans e1
        have hix : gIx (nI i) i 8 := mI_ix (by omega) (by omega)
        refine GW.aast (v := some q98) (r := 7) dX10_init_105 k7 hix (by decide) k7a (fun w hw => by cases hw; exact ⟨_, Or.inr ⟨30 + i, k30a, hpt.2.1⟩⟩) ?_
        refine GW.sm fun mc3 j1 j2 => ?_
        refine GW.inc2 dX10_init_106 (g := ?_)
        refine GW.goto (tgt := 87) dX10_init_109 (by decide) ?_
        rw [mI_succ]
        refine GW.widen (k' := 8 + 2 * (i + 1)) (n' := 46 + 22 * (i + 1)) (by omega) (by omega) ?_
        refine ih (i + 1) im ad2 mc3 _ (by omega) hle ((fa 0 (by omega) (by omega)).trans had) ?_ ?_ j1 (fun k hk => ?_) (fun q a0 a1 a2 => ?_)
        · have h2 := hB.mv (mc' := mc2) (ad' := ad2) mv
          obtain ⟨g0, g1, g2, g3, -⟩ := h2
          exact ⟨g0, fun g => (g1 g).mono (gLe.rf _) (j2 1 (by decide)), fun g => (g2 g).mono (j2 2 (by decide)) (j2 3 (by decide)), fun g => (g3 g).mono (j2 4 (by decide)) (j2 5 (by decide)) (j2 6 (by decide)), fun g => absurd g (by decide), fun g => absurd g (by decide), fun g => absurd g (by decide), fun g => absurd g (by decide), fun g => absurd g (by decide)⟩
        · rw [j2 0 (by decide), fm 0 (by omega) (by omega), hO]
          simp [fO, nz, fa 1 (by omega) (by omega), fa 2 (by omega) (by omega), fa 4 (by omega) (by omega), fa 7 (by omega) (by omega)]
        · by_cases hki : k = i
          · subst hki
            exact ⟨by simp [va_up, k30a], hpt.mono (gLe.rf _) (j2 _ (by omega)) (j2 _ (by omega))⟩
          · obtain ⟨w1, w2⟩ := hall k (by omega)
            refine ⟨?_, (w2.mv mv).mono (gLe.rf _) (j2 _ (by omega)) (j2 _ (by omega))⟩
            rw [(mv (30 + k) _ (by omega) w2.2.1).2]
            simp [va_up, hki, w1]
        · rw [j2 q (by omega), fm q (by omega) (by omega)]
          exact hN q a0 (by omega) (by omega)
  have s76 : ∀ (im : gIm) (ad : Nat → Nat) (mc : Nat → Option gC) (b : Nat) (l2 : Option Value), gLe im0 im → ad 0 = a → BB im ad mc b 3 → mc 0 = some (.inl (10, fO ad b 4)) → (∀ q, 6 < q → mc q = none) → GW (mX10_init 3 100 3500) Q noX (im, ad, mc) 7 38 76 [some (.ref a), some (.ref b), l2, none, none, none, none, none, none, none, none, none] [] := by
    intro im ad mc b l2 hle had hB hO hN
    have n7 : mc 7 = none := hN 7 (by decide)
    refine GW.aload0 dX10_init_76 (g := ?_)
    refine GW.bipush (v := 8) dX10_init_77 (by decide) ?_
    refine GW.newq (kd := 3) nw_X10_38 7 dX10_init_79 (by first | rfl | assumption) (sz8).1 (sz8).2.1 (sz8).2.2 (fun _ => rfl) (by decide) (by first | (dsimp only [mX10_init, gM.dp, gM.kc, gM.ks]; omega) | exact Nat.le_of_ble_eq_true rfl) (by first | (dsimp only [mX10_init, gM.dp, gM.kc, gM.ks]; omega) | exact Nat.le_of_ble_eq_true rfl) (fun q79 => ?_)
    refine GW.nm fun ad1 mc1 e1 e2 e3 e4 => ?_
    have k0 : mc1 0 = some (.inl (10, fO ad1 b 4)) := by rw [e4 0 (by decide), hO]; simp [fO, nz, e2]
    have ka : ad1 0 = a := (e2 0 (by decide)).trans had
    refine GW.putf (M := mX10_init 3 100 3500) (pc := 82) (r := 0) fl_X10_40 dX10_init_82 (k0) (Nat.le_of_ble_eq_true rfl) ⟨rfl, rfl⟩ (by first | exact Or.inl rfl | exact Or.inr ⟨rfl, rfl⟩) (by first | rfl | assumption) ?_
    refine GW.sm fun mc2 f1 f2 => ?_
    refine GW.iconst (v := 0) dX10_init_85 (by decide) ?_
    refine GW.istore2 dX10_init_86 (g := ?_)
    exact s87 b 8 0 im ad1 mc2 _ rfl hle ka ((hB.new n7 e2 e4).obj f2) (by rw [f1]; simp [fO, nz, e1, e2]) ((f2 7 (by decide)).trans e3) (fun k hk => absurd hk (Nat.not_lt_zero _)) (fun q a0 _ _ => (f2 q (by omega)).trans ((e4 q (by omega)).trans (hN q (by omega))))
  -- the editor
  have s64 : ∀ (im : gIm) (ad : Nat → Nat) (mc : Nat → Option gC) (b : Nat) (l2 : Option Value), gLe im0 im → ad 0 = a → BB im ad mc b 2 → mc 0 = some (.inl (10, fO ad b 3)) → (∀ q, 3 < q → mc q = none) → GW (mX10_init 3 100 3500) Q noX (im, ad, mc) 4 21 64 [some (.ref a), some (.ref b), l2, none, none, none, none, none, none, none, none, none] [] := by
    intro im ad mc b l2 hle had hB hO hN
    have n4 : mc 4 = none := hN 4 (by decide)
    obtain ⟨kr, pq, hnd, -, -⟩ := hB.1.node
    refine GW.aload0 dX10_init_64 (g := ?_)
    refine GW.newo nw_X10_29 4 [.null, .null, .int 0, .null, .null] dX10_init_65 (by first | rfl | assumption) (by intro j hj; match j, hj with | 0, _ => rfl | 1, _ => rfl | 2, _ => rfl | 3, _ => rfl | 4, _ => rfl) (by first | (dsimp only [mX10_init, gM.dp, gM.kc, gM.ks]; omega) | exact Nat.le_of_ble_eq_true rfl) (by first | (dsimp only [mX10_init, gM.dp, gM.kc, gM.ks]; omega) | exact Nat.le_of_ble_eq_true rfl) (fun q65 => ?_)
    refine GW.nm fun ad1 mc1 e1 e2 e3 e4 => ?_
    refine GW.dup dX10_init_68 (hv := by first | rfl | exact va_rf_cat _) (g := ?_)
    refine GW.aload1 dX10_init_69 (g := ?_)
    refine GW.callI ci_X10_31 mt_X2_init (c_iEditor (im := im) hnd e3 e1 ((e4 5 (by decide)).trans (hN 5 (by decide))) ((e4 6 (by decide)).trans (hN 6 (by decide)))) (fun _ _ h => h) dX10_init_70 rfl rfl (by first | (dsimp only [mX10_init, gM.dp, gM.kc, gM.ks]; omega) | exact Nat.le_of_ble_eq_true rfl | exact Nat.le_refl _ | omega) (by decide) (by first | omega | (dsimp only [mX10_init, gM.dp, gM.kc, gM.ks]; omega)) (by first | omega | (dsimp only [mX10_init, gM.dp, gM.kc, gM.ks]; omega)) (by first | exact Nat.le_of_ble_eq_true rfl | (simp [va_rf_cat]; done) | (simp [va_rf_cat, Value.category]; done)) (fun v70 G70 hq => ?_)
    obtain ⟨rfl, ad2, mc2, rfl, f1, f2, hed⟩ := hq
    have fm : ∀ q, q < 4 ∨ 6 < q → mc2 q = mc q := fun q h => (f2 q (by omega) (by omega) (by omega)).trans (e4 q (by omega))
    have fa : ∀ q, q < 4 ∨ 6 < q → ad2 q = ad q := fun q h => (f1 q (by omega) (by omega)).trans (e2 q (by omega))
    have k02 : mc2 0 = some (.inl (10, fO ad2 b 3)) := by rw [fm 0 (by decide), hO]; simp [fO, nz, fa]
    have ka2 : ad2 0 = a := (fa 0 (by decide)).trans had
    have k4 : ad2 4 = q65 := (f1 4 (by decide) (by decide)).trans e1
    refine GW.putf (M := mX10_init 3 100 3500) (pc := 73) (r := 0) fl_X10_34 dX10_init_73 (k02) (Nat.le_of_ble_eq_true rfl) ⟨rfl, rfl⟩ (by first | exact Or.inl rfl | exact Or.inr ⟨rfl, rfl⟩) (by first | rfl | assumption) ?_
    refine GW.sm fun mc3 g1 g2 => ?_
    refine GW.widen (k' := 7) (n' := 38) (Nat.le_of_ble_eq_true rfl) (Nat.le_of_ble_eq_true rfl) ?_
    have hB2 : BB im ad2 mc2 b 2 := hB.mv fun q c hq hc => by
      have h : q < 4 ∨ 6 < q := by
        rcases Nat.lt_or_ge q 4 with g | g
        · exact Or.inl g
        · rw [hN q (by omega)] at hc; cases hc
      exact ⟨(fm q h).trans hc, fa q h⟩
    refine s76 im ad2 mc3 b _ hle ka2 ?_ (by rw [g1]; simp [fO, nz, k4]) (fun q a0 => (g2 q (by omega)).trans ((fm q (by omega)).trans (hN q (by omega))))
    obtain ⟨b0, b1, b2, -⟩ := hB2.obj g2
    exact ⟨b0, fun _ => b1 (by decide), fun _ => b2 (by decide), fun _ => hed.mono (g2 4 (by decide)) (g2 5 (by decide)) (g2 6 (by decide)), fun g => absurd g (by decide), fun g => absurd g (by decide), fun g => absurd g (by decide), fun g => absurd g (by decide), fun g => absurd g (by decide)⟩
  -- the pointer
  have s53 : ∀ (im : gIm) (ad : Nat → Nat) (mc : Nat → Option gC) (b : Nat) (l2 : Option Value), gLe im0 im → ad 0 = a → BB im ad mc b 1 → mc 0 = some (.inl (10, fO ad b 2)) → (∀ q, 1 < q → mc q = none) → GW (mX10_init 3 100 3500) Q noX (im, ad, mc) 2 12 53 [some (.ref a), some (.ref b), l2, none, none, none, none, none, none, none, none, none] [] := by
    intro im ad mc b l2 hle had hB hO hN
    have n2 : mc 2 = none := hN 2 (by decide)
    refine GW.aload0 dX10_init_53 (g := ?_)
    refine GW.newo nw_X10_22 2 [.int 0, .int 0, .null] dX10_init_54 (by first | rfl | assumption) (by intro j hj; match j, hj with | 0, _ => rfl | 1, _ => rfl | 2, _ => rfl) (by first | (dsimp only [mX10_init, gM.dp, gM.kc, gM.ks]; omega) | exact Nat.le_of_ble_eq_true rfl) (by first | (dsimp only [mX10_init, gM.dp, gM.kc, gM.ks]; omega) | exact Nat.le_of_ble_eq_true rfl) (fun q54 => ?_)
    refine GW.nm fun ad1 mc1 e1 e2 e3 e4 => ?_
    refine GW.dup dX10_init_57 (hv := by first | rfl | exact va_rf_cat _) (g := ?_)
    refine GW.callIN nn_X10_24 im_X5 rfl mt_X5_init (c_iPointer (im := im) e3 e1 ((e4 3 (by decide)).trans (hN 3 (by decide)))) dX10_init_58 rfl rfl (by first | (dsimp only [mX10_init, gM.dp, gM.kc, gM.ks]; omega) | exact Nat.le_of_ble_eq_true rfl | exact Nat.le_refl _ | omega) (by decide) (by first | omega | (dsimp only [mX10_init, gM.dp, gM.kc, gM.ks]; omega)) (by first | omega | (dsimp only [mX10_init, gM.dp, gM.kc, gM.ks]; omega)) (by first | exact Nat.le_of_ble_eq_true rfl | (simp [va_rf_cat]; done) | (simp [va_rf_cat, Value.category]; done)) (fun v58 G58 hq => ?_)
    obtain ⟨rfl, ad2, mc2, rfl, f1, f2, hp2, hp3⟩ := hq
    have fm : ∀ q, q < 2 ∨ 3 < q → mc2 q = mc q := fun q h => (f2 q (by omega) (by omega)).trans (e4 q (by omega))
    have fa : ∀ q, q < 2 ∨ 3 < q → ad2 q = ad q := fun q h => (f1 q (by omega)).trans (e2 q (by omega))
    have k02 : mc2 0 = some (.inl (10, fO ad2 b 2)) := by rw [fm 0 (by decide), hO]; simp [fO, nz, fa]
    have ka2 : ad2 0 = a := (fa 0 (by decide)).trans had
    have k2 : ad2 2 = q54 := (f1 2 (by decide)).trans e1
    refine GW.putf (M := mX10_init 3 100 3500) (pc := 61) (r := 0) fl_X10_25 dX10_init_61 (k02) (Nat.le_of_ble_eq_true rfl) ⟨rfl, rfl⟩ (by first | exact Or.inl rfl | exact Or.inr ⟨rfl, rfl⟩) (by first | rfl | assumption) ?_
    refine GW.sm fun mc3 g1 g2 => ?_
    refine GW.widen (k' := 4) (n' := 21) (Nat.le_of_ble_eq_true rfl) (Nat.le_of_ble_eq_true rfl) ?_
    have hB2 : BB im ad2 mc2 b 1 := hB.mv fun q c hq hc => by
      have h : q < 2 ∨ 3 < q := by
        rcases Nat.lt_or_ge q 2 with g | g
        · exact Or.inl g
        · rw [hN q (by omega)] at hc; cases hc
      exact ⟨(fm q h).trans hc, fa q h⟩
    refine s64 im ad2 mc3 b _ hle ka2 ?_ (by rw [g1]; simp [fO, nz, k2]) (fun q a0 => (g2 q (by omega)).trans ((fm q (by omega)).trans (hN q (by omega))))
    obtain ⟨b0, b1, -⟩ := hB2.obj g2
    exact ⟨b0, fun _ => b1 (by decide), fun _ => ⟨by decide, (g2 2 (by decide)).trans hp2, _, (g2 3 (by decide)).trans hp3, rfl⟩, fun g => absurd g (by decide), fun g => absurd g (by decide), fun g => absurd g (by decide), fun g => absurd g (by decide), fun g => absurd g (by decide), fun g => absurd g (by decide)⟩
  -- the documents
  have s29 : ∀ (im : gIm) (ad : Nat → Nat) (b : Nat) (m i : Nat) (mc : Nat → Option gC) (dr : Nat → Option Nat), i + m = 6 → gLe im0 im → ad 0 = a → isV im b noT → mc 0 = some (.inl (10, fO ad b 1)) → mc 1 = some (.inr (1, 6, .inr dr)) → (∀ k, k < i → dr k = some b) → (∀ q, 1 < q → mc q = none) → GW (mX10_init 3 100 3500) Q noX (im, ad, mc) 2 12 29 [some (.ref a), some (.ref b), some (.int (nI i)), none, none, none, none, none, none, none, none, none] [] := by
    intro im ad b m
    induction m with
    | zero =>
      intro i mc dr hi hle had hv hO h1 hall hN
      have hi6 : i = 6 := by omega
      subst hi6
      refine GW.iload2 dX10_init_29 ?_
      refine GW.bipush (v := 6) dX10_init_30 (by decide) ?_
      refine GW.icmp_ge (tgt := 48) dX10_init_32 (by decide) (fun h32 => ?_) (fun h32 => ?_)
      · refine GW.aload0 dX10_init_48 (g := ?_)
        refine GW.aload1 dX10_init_49 (g := ?_)
        refine GW.putf (M := mX10_init 3 100 3500) (pc := 50) (r := 0) fl_X10_18 dX10_init_50 (hO) (Nat.le_of_ble_eq_true rfl) ⟨rfl, rfl⟩ (by first | exact Or.inl rfl | exact Or.inr ⟨rfl, rfl⟩) (by first | rfl | assumption) ?_
        refine GW.sm fun mc3 g1 g2 => ?_
        refine s53 im ad mc3 b _ hle had ⟨hv, fun _ => ⟨dr, (g2 1 (by decide)).trans h1, fun k hk => ⟨b, hall k hk, hv⟩⟩, fun g => absurd g (by decide), fun g => absurd g (by decide), fun g => absurd g (by decide), fun g => absurd g (by decide), fun g => absurd g (by decide), fun g => absurd g (by decide), fun g => absurd g (by decide)⟩ (by rw [g1]; simp [fO, nz]) (fun q a0 => (g2 q (by omega)).trans (hN q a0))
      · exact absurd (by decide) h32
    | succ m ih =>
      intro i mc dr hi hle had hv hO h1 hall hN
      have l0 : gL (im, ad, mc) a (.inl (10, _)) := Or.inr ⟨0, had, hO⟩
      obtain ⟨kr, pq, hnd, -, -⟩ := hv.node
      have hix : gIx (nI i) i 6 := mI_ix (by omega) (by omega)
      refine GW.iload2 dX10_init_29 ?_
      refine GW.bipush (v := 6) dX10_init_30 (by decide) ?_
      refine GW.icmp_ge (tgt := 48) dX10_init_32 (by decide) (fun h32 => ?_) (fun h32 => ?_)
      · exact absurd ((mI_le (a := 6) (by omega) (by omega)).mp h32) (by omega)
      · refine GW.aload0 dX10_init_35 (g := ?_)
        refine GW.getf fl_X10_14 dX10_init_36 (by assumption) (by rfl) ?_
        refine GW.iload2 dX10_init_39 ?_
        refine GW.aload1 dX10_init_40 (g := ?_)
        refine GW.aast (v := some b) (r := 1) dX10_init_41 h1 hix (by decide) rfl (fun w hw => by cases hw; exact ⟨_, Or.inl hnd⟩) ?_
        refine GW.sm fun mc3 j1 j2 => ?_
        refine GW.inc2 dX10_init_42 (g := ?_)
        refine GW.goto (tgt := 29) dX10_init_45 (by decide) ?_
        rw [mI_succ]
        refine ih (i + 1) mc3 _ (by omega) hle had hv ((j2 0 (by decide)).trans hO) j1 (fun k hk => ?_) (fun q a0 => (j2 q (by omega)).trans (hN q a0))
        by_cases hki : k = i
        · subst hki; simp [va_up]
        · simp [va_up, hki, hall k (by omega)]
  -- the beginning
  have h902 : mc0 902 = none := hn 902 (by decide)
  refine GW.aload0 dX10_init_0 (g := ?_)
  refine GW.objInit oi_X10_1 oi_i oi_c dX10_init_1 (by first | exact Nat.le_of_ble_eq_true rfl | omega) (Nat.le_of_ble_eq_true rfl) ?_
  refine GW.newo nw_X10_7 902 [.int 0, .int 0, .null, .null, .int 0, .int 0] dX10_init_4 (by first | rfl | assumption) (by intro j hj; match j, hj with | 0, _ => rfl | 1, _ => rfl | 2, _ => rfl | 3, _ => rfl | 4, _ => rfl | 5, _ => rfl) (by first | (dsimp only [mX10_init, gM.dp, gM.kc, gM.ks]; omega) | exact Nat.le_of_ble_eq_true rfl) (by first | (dsimp only [mX10_init, gM.dp, gM.kc, gM.ks]; omega) | exact Nat.le_of_ble_eq_true rfl) (fun q4 => ?_)
  refine GW.dup dX10_init_7 (hv := by first | rfl | exact va_rf_cat _) (g := ?_)
  refine GW.iconst (v := 0) dX10_init_8 (by decide) ?_
  refine GW.sipush (v := -10000) dX10_init_9 (by decide) ?_
  refine GW.null dX10_init_12 ?_
  refine GW.null dX10_init_13 ?_
  refine GW.callI ci_X10_11 mt_X8_init (c_Value (fs := []) (G := gN (im0, ad0, mc0) 902 q4 (.inl (8, [.int 0, .int 0, .null, .null, .int 0, .int 0]))) (kind := 0) (num := -10000) (kr := none) (pr := none) (xs := []) rfl rfl rfl (by decide)) (fun _ _ h => h) dX10_init_14 rfl rfl (by first | (dsimp only [mX10_init, gM.dp, gM.kc, gM.ks]; omega) | exact Nat.le_of_ble_eq_true rfl | exact Nat.le_refl _ | omega) (by decide) (by first | omega | (dsimp only [mX10_init, gM.dp, gM.kc, gM.ks]; omega)) (by first | omega | (dsimp only [mX10_init, gM.dp, gM.kc, gM.ks]; omega)) (by first | exact Nat.le_of_ble_eq_true rfl | (simp [va_rf_cat]; done) | (simp [va_rf_cat, Value.category]; done)) (fun v14 G14 hq => ?_)
  obtain ⟨rfl, rfl⟩ := hq
  refine GW.made (im := im0) (ad := (gN (im0, ad0, mc0) 902 q4 (.inl (8, [.int 0, .int 0, .null, .null, .int 0, .int 0]))).2.1) (mc := (gS (gN (im0, ad0, mc0) 902 q4 (.inl (8, [.int 0, .int 0, .null, .null, .int 0, .int 0]))) 902 _).2.2) (ad0 := ad0) (mc0 := mc0) (kind := 0) (num := -10000) (kr := none) (pr := none) (xs := []) (a := q4) (fun q hq => hn q (by omega)) (fun q _ _ e => by simp [gS, gN, e]) (fun q _ _ e => by simp [gN, e]) rfl (Or.inr rfl) rfl rfl fun im1 hle hnew => ?_
  refine GW.astore1 dX10_init_17 (g := ?_)
  refine GW.aload0 dX10_init_18 (g := ?_)
  refine GW.bipush (v := 6) dX10_init_19 (by decide) ?_
  have n1 : mc0 1 = none := hn 1 (by decide)
  refine GW.newq (kd := 1) nw_X10_7 1 dX10_init_21 (by first | rfl | assumption) (sz6).1 (sz6).2.1 (sz6).2.2 (fun _ => rfl) (by decide) (by first | (dsimp only [mX10_init, gM.dp, gM.kc, gM.ks]; omega) | exact Nat.le_of_ble_eq_true rfl) (by first | (dsimp only [mX10_init, gM.dp, gM.kc, gM.ks]; omega) | exact Nat.le_of_ble_eq_true rfl) (fun q21 => ?_)
  refine GW.nm fun ad1 mc1 e1 e2 e3 e4 => ?_
  have k0 : mc1 0 = some (.inl (10, fO ad1 q4 0)) := by rw [e4 0 (by decide), h0]; simp [fO, nz]
  have ka : ad1 0 = a := (e2 0 (by decide)).trans ha
  refine GW.putf (M := mX10_init 3 100 3500) (pc := 24) (r := 0) fl_X10_14 dX10_init_24 (k0) (Nat.le_of_ble_eq_true rfl) ⟨rfl, rfl⟩ (by first | exact Or.inl rfl | exact Or.inr ⟨rfl, rfl⟩) (by first | rfl | assumption) ?_
  refine GW.sm fun mc2 f1 f2 => ?_
  refine GW.iconst (v := 0) dX10_init_27 (by decide) ?_
  refine GW.istore2 dX10_init_28 (g := ?_)
  exact s29 im1 ad1 q4 6 0 mc2 _ rfl hle ka hnew (by rw [f1]; simp [fO, nz, e1]) ((f2 1 (by decide)).trans e3) (fun k hk => absurd hk (Nat.not_lt_zero _)) (fun q a0 => (f2 q (by omega)).trans ((e4 q (by omega)).trans (hn q (by omega))))
