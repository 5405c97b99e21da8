/-! CONSTRUCTORS -/
section GWK
variable {M : gM} {Q : Option Value → gG → Prop} {X : String → gG → Prop} {k n pc : Nat} {L : List (Option Value)} {st : List Value} {im : gIm} {ad : Nat → Nat} {mc : Nat → Option gC}
theorem GW.nm {r a : Nat} {c : gC} (g : ∀ ad1 mc1, ad1 r = a → (∀ q, q ≠ r → ad1 q = ad q) → mc1 r = some c → (∀ q, q ≠ r → mc1 q = mc q) → GW M Q X (im, ad1, mc1) k n pc L st) : GW M Q X (gN (im, ad, mc) r a c) k n pc L st := g _ _ (if_pos rfl) (fun q h => if_neg h) (if_pos rfl) (fun q h => if_neg h)
theorem GW.sm {r : Nat} {c : gC} (g : ∀ mc1, mc1 r = some c → (∀ q, q ≠ r → mc1 q = mc q) → GW M Q X (im, ad, mc1) k n pc L st) : GW M Q X (gS (im, ad, mc) r c) k n pc L st := g _ (if_pos rfl) (fun q h => if_neg h)
/-- what is not wanted any more is let go -/
theorem GW.relax {ad0 : Nat → Nat} {mc0 : Nat → Option gC} (h : ∀ q c, mc0 q = some c → mc q = some c ∧ ad0 q = ad q) (g : GW M Q X (im, ad0, mc0) k n pc L st) : GW M Q X (im, ad, mc) k n pc L st := by
  refine g.ghost fun D dA b0 H hG => ?_
  obtain ⟨h1, h2, h3⟩ := hG
  refine ⟨fun a c hl => h1 a c ?_, fun q c hq => ?_, fun q q' c c' hq hq' he => ?_⟩
  · rcases hl with hl | ⟨q, ha, hq⟩
    · exact Or.inl hl
    · obtain ⟨g1, g2⟩ := h q c hq
      exact Or.inr ⟨q, by rw [← ha]; exact g2.symm, g1⟩
  · obtain ⟨g1, g2⟩ := h q c hq
    show im (ad0 q) = none
    rw [g2]
    exact h2 q c g1
  · obtain ⟨g1, g2⟩ := h q c hq
    obtain ⟨g1', g2'⟩ := h q' c' hq'
    have he : ad0 q = ad0 q' := he
    exact h3 q q' c c' g1 g1' (by rw [g2, g2'] at he; exact he)
end GWK
theorem sz4 : ¬ (4 : Int32) < 0 ∧ (4 : Int32).toNatClampNeg = 4 ∧ 4 ≤ 2097152 := mI_sz (n := 4) (by omega)
theorem sz5 : ¬ (5 : Int32) < 0 ∧ (5 : Int32).toNatClampNeg = 5 ∧ 5 ≤ 2097152 := mI_sz (n := 5) (by omega)
theorem sz6 : ¬ (6 : Int32) < 0 ∧ (6 : Int32).toNatClampNeg = 6 ∧ 6 ≤ 2097152 := mI_sz (n := 6) (by omega)
theorem sz8 : ¬ (8 : Int32) < 0 ∧ (8 : Int32).toNatClampNeg = 8 ∧ 8 ≤ 2097152 := mI_sz (n := 8) (by omega)
theorem sz10 : ¬ (10 : Int32) < 0 ∧ (10 : Int32).toNatClampNeg = 10 ∧ 10 ≤ 2097152 := mI_sz (n := 10) (by omega)
theorem sz20 : ¬ (20 : Int32) < 0 ∧ (20 : Int32).toNatClampNeg = 20 ∧ 20 ≤ 2097152 := mI_sz (n := 20) (by omega)
theorem sz50 : ¬ (50 : Int32) < 0 ∧ (50 : Int32).toNatClampNeg = 50 ∧ 50 ≤ 2097152 := mI_sz (n := 50) (by omega)
theorem sz2600 : ¬ (2600 : Int32) < 0 ∧ (2600 : Int32).toNatClampNeg = 2600 ∧ 2600 ≤ 2097152 := mI_sz (n := 2600) (by omega)
section CTOR
variable {im : gIm} {ad : Nat → Nat} {mc : Nat → Option gC} {a : Nat}
abbrev mX5_init (d kc ks : Nat) : gM := (RX5, cX5_init, 1, none, [], "<init>", d, kc, ks)
abbrev kX5_init (d kc ks : Nat) (as : List Value) (G : gG) (Q : Option Value → gG → Prop) (X : String → gG → Prop) : Prop := Ctr yX5_init cX5_init 1 none d kc ks as G Q X
theorem oX5_init {d kc ks : Nat} {as : List Value} {G : gG} {Q : Option Value → gG → Prop} {X : String → gG → Prop} {L : List (Option Value)} (hL : gEnt as = L) (hlen : (lg_sl as).length ≤ 1) (g : GW (mX5_init d kc ks) Q X G 0 0 0 L []) : kX5_init d kc ks as G Q X := Ctr.of (by decide +kernel) rfl rfl hL hlen g
theorem c_iPointer (h2 : mc 2 = some (.inl (5, [.int 0, .int 0, .null]))) (ha : ad 2 = a) (h3 : mc 3 = none) :
    kX5_init 1 1 6 [.ref a] (im, ad, mc) (fun v G' => v = none ∧ ∃ ad' mc', (im, ad', mc') = G' ∧ (∀ q, q ≠ 3 → ad' q = ad q) ∧ (∀ q, q ≠ 2 → q ≠ 3 → mc' q = mc q) ∧ mc' 2 = some (.inl (5, [.int 0, .int 0, .ref (ad' 3)])) ∧ mc' 3 = some (.inr (0, 6, .inl (fun _ => 0)))) noX := by
  refine oX5_init (L := [some (.ref a), none, none, none, none, none, none, none, none, none, none, none]) rfl (Nat.le_of_ble_eq_true rfl) ?_
  refine GW.aload0 dX5_init_0 (g := ?_)
  refine GW.objInit oi_X5_3 oi_i oi_c dX5_init_1 (by first | exact Nat.le_of_ble_eq_true rfl | omega) (Nat.le_of_ble_eq_true rfl) ?_
  refine GW.aload0 dX5_init_4 (g := ?_)
  refine GW.bipush (v := 6) dX5_init_5 (by decide) ?_
  refine GW.newi 3 dX5_init_7 (by first | rfl | assumption) (sz6).1 (sz6).2.1 (sz6).2.2 aw_int (by first | (dsimp only [mX5_init, gM.dp, gM.kc, gM.ks]; omega) | exact Nat.le_of_ble_eq_true rfl) (by first | (dsimp only [mX5_init, gM.dp, gM.kc, gM.ks]; omega) | exact Nat.le_of_ble_eq_true rfl) (fun q7 => ?_)
  refine GW.nm fun ad1 mc1 e1 e2 e3 e4 => ?_
  have k2 : mc1 2 = some (.inl (5, [.int 0, .int 0, .null])) := (e4 2 (by decide)).trans h2
  have ka : ad1 2 = a := (e2 2 (by decide)).trans ha
  refine GW.putf (r := 2) fl_X5_9 dX5_init_9 (by first | rfl | assumption) (Nat.le_of_ble_eq_true rfl) (by first | exact ⟨rfl, rfl⟩ | exact fitq _ _ rfl) (by first | exact Or.inl rfl | exact Or.inr ⟨rfl, rfl⟩) (by first | rfl | assumption) ?_
  refine GW.sm fun mc2 f1 f2 => ?_
  refine GW.vreturn dX5_init_12 rfl (by first | (dsimp only [mX5_init, gM.dp, gM.kc, gM.ks]; omega) | exact Nat.le_of_ble_eq_true rfl | exact Nat.le_refl _ | omega) (by first | (dsimp only [mX5_init, gM.dp, gM.kc, gM.ks]; omega) | exact Nat.le_of_ble_eq_true rfl | exact Nat.le_refl _ | omega) ?_
  exact ⟨rfl, ad1, mc2, rfl, e2, fun q h h' => (f2 q h).trans (e4 q h'), by rw [f1, e1]; rfl, (f2 3 (by decide)).trans e3⟩
abbrev mX2_init (d kc ks : Nat) : gM := (RX2, cX2_init, 2, none, [], "<init>", d, kc, ks)
abbrev kX2_init (d kc ks : Nat) (as : List Value) (G : gG) (Q : Option Value → gG → Prop) (X : String → gG → Prop) : Prop := Ctr yX2_init cX2_init 2 none d kc ks as G Q X
theorem oX2_init {d kc ks : Nat} {as : List Value} {G : gG} {Q : Option Value → gG → Prop} {X : String → gG → Prop} {L : List (Option Value)} (hL : gEnt as = L) (hlen : (lg_sl as).length ≤ 2) (g : GW (mX2_init d kc ks) Q X G 0 0 0 L []) : kX2_init d kc ks as G Q X := Ctr.of (by decide +kernel) rfl rfl hL hlen g
theorem c_iEditor {w : Nat} {fw : List Value} (hw : im w = some (.inl (8, fw))) (h4 : mc 4 = some (.inl (2, [.null, .null, .int 0, .null, .null]))) (ha : ad 4 = a) (h5 : mc 5 = none) (h6 : mc 6 = none) :
    kX2_init 1 2 12 [.ref a, .ref w] (im, ad, mc) (fun v G' => v = none ∧ ∃ ad' mc', (im, ad', mc') = G' ∧ (∀ q, q ≠ 5 → q ≠ 6 → ad' q = ad q) ∧ (∀ q, q ≠ 4 → q ≠ 5 → q ≠ 6 → mc' q = mc q) ∧ edAny ad' mc') noX := by
  refine oX2_init (L := [some (.ref a), some (.ref w), none, none, none, none, none, none, none, none, none, none]) rfl (Nat.le_of_ble_eq_true rfl) ?_
  refine GW.aload0 dX2_init_0 (g := ?_)
  refine GW.objInit oi_X2_3 oi_i oi_c dX2_init_1 (by first | exact Nat.le_of_ble_eq_true rfl | omega) (Nat.le_of_ble_eq_true rfl) ?_
  refine GW.aload0 dX2_init_4 (g := ?_)
  refine GW.bipush (v := 6) dX2_init_5 (by decide) ?_
  refine GW.newq (kd := 1) nw_X2_9 5 dX2_init_7 (by first | rfl | assumption) (sz6).1 (sz6).2.1 (sz6).2.2 (fun _ => rfl) (by decide) (by first | (dsimp only [mX2_init, gM.dp, gM.kc, gM.ks]; omega) | exact Nat.le_of_ble_eq_true rfl) (by first | (dsimp only [mX2_init, gM.dp, gM.kc, gM.ks]; omega) | exact Nat.le_of_ble_eq_true rfl) (fun q7 => ?_)
  refine GW.nm fun ad1 mc1 e1 e2 e3 e4 => ?_
  have k4 : mc1 4 = some (.inl (2, [.null, .null, .int 0, .null, .null])) := (e4 4 (by decide)).trans h4
  have ka : ad1 4 = a := (e2 4 (by decide)).trans ha
  refine GW.putf (r := 4) fl_X2_11 dX2_init_10 (by first | rfl | assumption) (Nat.le_of_ble_eq_true rfl) (by first | exact ⟨rfl, rfl⟩ | exact fitq _ _ rfl) (by first | exact Or.inl rfl | exact Or.inr ⟨rfl, rfl⟩) (by first | rfl | assumption) ?_
  refine GW.sm fun mc2 f1 f2 => ?_
  have k6 : mc2 6 = none := (f2 6 (by decide)).trans ((e4 6 (by decide)).trans h6)
  refine GW.aload0 dX2_init_13 (g := ?_)
  refine GW.bipush (v := 6) dX2_init_14 (by decide) ?_
  refine GW.newi 6 dX2_init_16 (by first | rfl | assumption) (sz6).1 (sz6).2.1 (sz6).2.2 aw_int (by first | (dsimp only [mX2_init, gM.dp, gM.kc, gM.ks]; omega) | exact Nat.le_of_ble_eq_true rfl) (by first | (dsimp only [mX2_init, gM.dp, gM.kc, gM.ks]; omega) | exact Nat.le_of_ble_eq_true rfl) (fun q16 => ?_)
  refine GW.nm fun ad3 mc3 i1 i2 i3 i4 => ?_
  have k43 : mc3 4 = some (.inl (2, [.null, .null, .int 0, .ref q7, .null])) := (i4 4 (by decide)).trans f1
  have ka3 : ad3 4 = a := (i2 4 (by decide)).trans ka
  refine GW.putf (r := 4) fl_X2_17 dX2_init_18 (by first | rfl | assumption) (Nat.le_of_ble_eq_true rfl) (by first | exact ⟨rfl, rfl⟩ | exact fitq _ _ rfl) (by first | exact Or.inl rfl | exact Or.inr ⟨rfl, rfl⟩) (by first | rfl | assumption) ?_
  refine GW.sm fun mc4 j1 j2 => ?_
  have j1 : mc4 4 = some (.inl (2, [.null, .null, .int 0, .ref q7, .ref q16])) := j1
  refine GW.aload0 dX2_init_21 (g := ?_)
  refine GW.aload1 dX2_init_22 (g := ?_)
  refine GW.putf (r := 4) fl_X2_21 dX2_init_23 (by first | rfl | assumption) (Nat.le_of_ble_eq_true rfl) (by first | exact ⟨rfl, rfl⟩ | exact fitq _ _ rfl) (by first | exact Or.inl rfl | exact Or.inr ⟨rfl, rfl⟩) (by first | rfl | assumption) ?_
  refine GW.sm fun mc5 l1 l2 => ?_
  refine GW.vreturn dX2_init_26 rfl (by first | (dsimp only [mX2_init, gM.dp, gM.kc, gM.ks]; omega) | exact Nat.le_of_ble_eq_true rfl | exact Nat.le_refl _ | omega) (by first | (dsimp only [mX2_init, gM.dp, gM.kc, gM.ks]; omega) | exact Nat.le_of_ble_eq_true rfl | exact Nat.le_refl _ | omega) ?_
  refine ⟨rfl, ad3, mc5, rfl, fun q h h' => (i2 q h').trans (e2 q h), fun q h h' h'' => (l2 q h).trans ((j2 q h).trans ((i4 q h'').trans ((f2 q h).trans (e4 q h')))), some w, none, 0, fun _ => none, fun _ => 0, ?_, ?_, ?_⟩
  · rw [l1, i1, i2 5 (by decide), e1]; rfl
  · exact (l2 5 (by decide)).trans ((j2 5 (by decide)).trans ((i4 5 (by decide)).trans ((f2 5 (by decide)).trans e3)))
  · exact (l2 6 (by decide)).trans ((j2 6 (by decide)).trans i3)
abbrev mX4_init (d kc ks : Nat) : gM := (RX4, cX4_init, 1, none, [], "<init>", d, kc, ks)
abbrev kX4_init (d kc ks : Nat) (as : List Value) (G : gG) (Q : Option Value → gG → Prop) (X : String → gG → Prop) : Prop := Ctr yX4_init cX4_init 1 none d kc ks as G Q X
theorem oX4_init {d kc ks : Nat} {as : List Value} {G : gG} {Q : Option Value → gG → Prop} {X : String → gG → Prop} {L : List (Option Value)} (hL : gEnt as = L) (hlen : (lg_sl as).length ≤ 1) (g : GW (mX4_init d kc ks) Q X G 0 0 0 L []) : kX4_init d kc ks as G Q X := Ctr.of (by decide +kernel) rfl rfl hL hlen g
theorem c_iPatch {i : Nat} (h3 : mc (30 + i) = some (.inl (4, [.int 0, .null]))) (ha : ad (30 + i) = a) (h4 : mc (40 + i) = none) :
    kX4_init 1 1 20 [.ref a] (im, ad, mc) (fun v G' => v = none ∧ ∃ ad' mc', (im, ad', mc') = G' ∧ (∀ q, q ≠ 40 + i → ad' q = ad q) ∧ (∀ q, q ≠ 30 + i → q ≠ 40 + i → mc' q = mc q) ∧ ptAt im ad' mc' i []) noX := by
  refine oX4_init (L := [some (.ref a), none, none, none, none, none, none, none, none, none, none, none]) rfl (Nat.le_of_ble_eq_true rfl) ?_
  refine GW.aload0 dX4_init_0 (g := ?_)
  refine GW.objInit oi_X4_3 oi_i oi_c dX4_init_1 (by first | exact Nat.le_of_ble_eq_true rfl | omega) (Nat.le_of_ble_eq_true rfl) ?_
  refine GW.aload0 dX4_init_4 (g := ?_)
  refine GW.bipush (v := 20) dX4_init_5 (by decide) ?_
  refine GW.newq (kd := 2) nw_X4_9 (40+i) dX4_init_7 (by first | rfl | assumption) (sz20).1 (sz20).2.1 (sz20).2.2 (fun _ => rfl) (by decide) (by first | (dsimp only [mX4_init, gM.dp, gM.kc, gM.ks]; omega) | exact Nat.le_of_ble_eq_true rfl) (by first | (dsimp only [mX4_init, gM.dp, gM.kc, gM.ks]; omega) | exact Nat.le_of_ble_eq_true rfl) (fun q7 => ?_)
  refine GW.nm fun ad1 mc1 e1 e2 e3 e4 => ?_
  have k3 : mc1 (30 + i) = some (.inl (4, [.int 0, .null])) := (e4 _ (by omega)).trans h3
  have ka : ad1 (30 + i) = a := (e2 _ (by omega)).trans ha
  refine GW.putf (r := (30+i)) fl_X4_11 dX4_init_10 (by first | rfl | assumption) (Nat.le_of_ble_eq_true rfl) (by first | exact ⟨rfl, rfl⟩ | exact fitq _ _ rfl) (by first | exact Or.inl rfl | exact Or.inr ⟨rfl, rfl⟩) (by first | rfl | assumption) ?_
  refine GW.sm fun mc2 f1 f2 => ?_
  refine GW.vreturn dX4_init_13 rfl (by first | (dsimp only [mX4_init, gM.dp, gM.kc, gM.ks]; omega) | exact Nat.le_of_ble_eq_true rfl | exact Nat.le_refl _ | omega) (by first | (dsimp only [mX4_init, gM.dp, gM.kc, gM.ks]; omega) | exact Nat.le_of_ble_eq_true rfl | exact Nat.le_refl _ | omega) ?_
  exact ⟨rfl, ad1, mc2, rfl, e2, fun q h h' => (f2 q h).trans (e4 q h'), by decide, by rw [f1, e1]; rfl, fun _ => none, (f2 _ (by omega)).trans e3, fun j o h => by simp at h⟩
abbrev mX1_init (d kc ks : Nat) : gM := (RX1, cX1_init, 1, none, [], "<init>", d, kc, ks)
abbrev kX1_init (d kc ks : Nat) (as : List Value) (G : gG) (Q : Option Value → gG → Prop) (X : String → gG → Prop) : Prop := Ctr yX1_init cX1_init 1 none d kc ks as G Q X
theorem oX1_init {d kc ks : Nat} {as : List Value} {G : gG} {Q : Option Value → gG → Prop} {X : String → gG → Prop} {L : List (Option Value)} (hL : gEnt as = L) (hlen : (lg_sl as).length ≤ 1) (g : GW (mX1_init d kc ks) Q X G 0 0 0 L []) : kX1_init d kc ks as G Q X := Ctr.of (by decide +kernel) rfl rfl hL hlen g
theorem c_iDiffer (h9 : mc 9 = some (.inl (1, [.null, .null, .null, .int 0]))) (ha : ad 9 = a) (h10 : mc 10 = none) (h11 : mc 11 = none) (h12 : mc 12 = none) :
    kX1_init 1 3 2626 [.ref a] (im, ad, mc) (fun v G' => v = none ∧ ∃ ad' mc', (im, ad', mc') = G' ∧ (∀ q, q ≠ 10 → q ≠ 11 → q ≠ 12 → ad' q = ad q) ∧ (∀ q, q ≠ 9 → q ≠ 10 → q ≠ 11 → q ≠ 12 → mc' q = mc q) ∧ dfAny ad' mc') noX := by
  refine oX1_init (L := [some (.ref a), none, none, none, none, none, none, none, none, none, none, none]) rfl (Nat.le_of_ble_eq_true rfl) ?_
  refine GW.aload0 dX1_init_0 (g := ?_)
  refine GW.objInit oi_X1_3 oi_i oi_c dX1_init_1 (by first | exact Nat.le_of_ble_eq_true rfl | omega) (Nat.le_of_ble_eq_true rfl) ?_
  refine GW.aload0 dX1_init_4 (g := ?_)
  refine GW.sipush (v := 2600) dX1_init_5 (by decide) ?_
  refine GW.newi 10 dX1_init_8 (by first | rfl | assumption) (sz2600).1 (sz2600).2.1 (sz2600).2.2 aw_int (by first | (dsimp only [mX1_init, gM.dp, gM.kc, gM.ks]; omega) | exact Nat.le_of_ble_eq_true rfl) (by first | (dsimp only [mX1_init, gM.dp, gM.kc, gM.ks]; omega) | exact Nat.le_of_ble_eq_true rfl) (fun q8 => ?_)
  refine GW.nm fun ad1 mc1 e1 e2 e3 e4 => ?_
  have k4 : mc1 9 = some (.inl (1, [.null, .null, .null, .int 0])) := (e4 9 (by decide)).trans h9
  have ka : ad1 9 = a := (e2 9 (by decide)).trans ha
  refine GW.putf (r := 9) fl_X1_9 dX1_init_10 (by first | rfl | assumption) (Nat.le_of_ble_eq_true rfl) (by first | exact ⟨rfl, rfl⟩ | exact fitq _ _ rfl) (by first | exact Or.inl rfl | exact Or.inr ⟨rfl, rfl⟩) (by first | rfl | assumption) ?_
  refine GW.sm fun mc2 f1 f2 => ?_
  have k6 : mc2 11 = none := (f2 11 (by decide)).trans ((e4 11 (by decide)).trans h11)
  refine GW.aload0 dX1_init_13 (g := ?_)
  refine GW.bipush (v := 6) dX1_init_14 (by decide) ?_
  refine GW.newi 11 dX1_init_16 (by first | rfl | assumption) (sz6).1 (sz6).2.1 (sz6).2.2 aw_int (by first | (dsimp only [mX1_init, gM.dp, gM.kc, gM.ks]; omega) | exact Nat.le_of_ble_eq_true rfl) (by first | (dsimp only [mX1_init, gM.dp, gM.kc, gM.ks]; omega) | exact Nat.le_of_ble_eq_true rfl) (fun q16 => ?_)
  refine GW.nm fun ad3 mc3 i1 i2 i3 i4 => ?_
  have k43 : mc3 9 = some (.inl (1, [.ref q8, .null, .null, .int 0])) := (i4 9 (by decide)).trans f1
  have ka3 : ad3 9 = a := (i2 9 (by decide)).trans ka
  refine GW.putf (r := 9) fl_X1_15 dX1_init_18 (by first | rfl | assumption) (Nat.le_of_ble_eq_true rfl) (by first | exact ⟨rfl, rfl⟩ | exact fitq _ _ rfl) (by first | exact Or.inl rfl | exact Or.inr ⟨rfl, rfl⟩) (by first | rfl | assumption) ?_
  refine GW.sm fun mc4 j1 j2 => ?_
  have k7 : mc4 12 = none := (j2 12 (by decide)).trans ((i4 12 (by decide)).trans ((f2 12 (by decide)).trans ((e4 12 (by decide)).trans h12)))
  refine GW.aload0 dX1_init_21 (g := ?_)
  refine GW.bipush (v := 20) dX1_init_22 (by decide) ?_
  refine GW.newq (kd := 2) nw_X1_18 12 dX1_init_24 (by first | rfl | assumption) (sz20).1 (sz20).2.1 (sz20).2.2 (fun _ => rfl) (by decide) (by first | (dsimp only [mX1_init, gM.dp, gM.kc, gM.ks]; omega) | exact Nat.le_of_ble_eq_true rfl) (by first | (dsimp only [mX1_init, gM.dp, gM.kc, gM.ks]; omega) | exact Nat.le_of_ble_eq_true rfl) (fun q24 => ?_)
  refine GW.nm fun ad5 mc5 m1 m2 m3 m4 => ?_
  have k45 : mc5 9 = some (.inl (1, [.ref q8, .ref q16, .null, .int 0])) := (m4 9 (by decide)).trans j1
  have ka5 : ad5 9 = a := (m2 9 (by decide)).trans ka3
  refine GW.putf (r := 9) fl_X1_20 dX1_init_27 (by first | rfl | assumption) (Nat.le_of_ble_eq_true rfl) (by first | exact ⟨rfl, rfl⟩ | exact fitq _ _ rfl) (by first | exact Or.inl rfl | exact Or.inr ⟨rfl, rfl⟩) (by first | rfl | assumption) ?_
  refine GW.sm fun mc6 l1 l2 => ?_
  refine GW.vreturn dX1_init_30 rfl (by first | (dsimp only [mX1_init, gM.dp, gM.kc, gM.ks]; omega) | exact Nat.le_of_ble_eq_true rfl | exact Nat.le_refl _ | omega) (by first | (dsimp only [mX1_init, gM.dp, gM.kc, gM.ks]; omega) | exact Nat.le_of_ble_eq_true rfl | exact Nat.le_refl _ | omega) ?_
  refine ⟨rfl, ad5, mc6, rfl, fun q a1 a2 a3 => (m2 q a3).trans ((i2 q a2).trans (e2 q a1)), fun q a0 a1 a2 a3 => (l2 q a0).trans ((m4 q a3).trans ((j2 q a0).trans ((i4 q a2).trans ((f2 q a0).trans (e4 q a1))))), fun _ => 0, fun _ => 0, fun _ => none, 0, ?_, ?_, ?_, ?_⟩
  · rw [l1, m1, m2 11 (by decide), i1, m2 10 (by decide), i2 10 (by decide), e1]; rfl
  · exact (l2 10 (by decide)).trans ((m4 10 (by decide)).trans ((j2 10 (by decide)).trans ((i4 10 (by decide)).trans ((f2 10 (by decide)).trans e3))))
  · exact (l2 11 (by decide)).trans ((m4 11 (by decide)).trans ((j2 11 (by decide)).trans i3))
  · exact (l2 12 (by decide)).trans m3
abbrev mX9_init (d kc ks : Nat) : gM := (RX9, cX9_init, 1, none, [], "<init>", d, kc, ks)
abbrev kX9_init (d kc ks : Nat) (as : List Value) (G : gG) (Q : Option Value → gG → Prop) (X : String → gG → Prop) : Prop := Ctr yX9_init cX9_init 1 none d kc ks as G Q X
theorem oX9_init {d kc ks : Nat} {as : List Value} {G : gG} {Q : Option Value → gG → Prop} {X : String → gG → Prop} {L : List (Option Value)} (hL : gEnt as = L) (hlen : (lg_sl as).length ≤ 1) (g : GW (mX9_init d kc ks) Q X G 0 0 0 L []) : kX9_init d kc ks as G Q X := Ctr.of (by decide +kernel) rfl rfl hL hlen g
theorem c_iWalk (h14 : mc 14 = some (.inl (9, [.int 0, .null, .null, .null, .null]))) (ha : ad 14 = a) (h15 : mc 15 = none) (h16 : mc 16 = none) (h17 : mc 17 = none) (h18 : mc 18 = none) :
    kX9_init 1 4 200 [.ref a] (im, ad, mc) (fun v G' => v = none ∧ ∃ ad' mc', (im, ad', mc') = G' ∧ (∀ q, q < 15 ∨ 18 < q → ad' q = ad q) ∧ (∀ q, q < 14 ∨ 18 < q → mc' q = mc q) ∧ wkAny ad' mc') noX := by
  refine oX9_init (L := [some (.ref a), none, none, none, none, none, none, none, none, none, none, none]) rfl (Nat.le_of_ble_eq_true rfl) ?_
  refine GW.aload0 dX9_init_0 (g := ?_)
  refine GW.objInit oi_X9_3 oi_i oi_c dX9_init_1 (by first | exact Nat.le_of_ble_eq_true rfl | omega) (Nat.le_of_ble_eq_true rfl) ?_
  refine GW.aload0 dX9_init_4 (g := ?_)
  refine GW.bipush (v := 50) dX9_init_5 (by decide) ?_
  refine GW.newq (kd := 1) nw_X9_9 15 dX9_init_7 (by first | rfl | assumption) (sz50).1 (sz50).2.1 (sz50).2.2 (fun _ => rfl) (by decide) (by first | (dsimp only [mX9_init, gM.dp, gM.kc, gM.ks]; omega) | exact Nat.le_of_ble_eq_true rfl) (by first | (dsimp only [mX9_init, gM.dp, gM.kc, gM.ks]; omega) | exact Nat.le_of_ble_eq_true rfl) (fun q7 => ?_)
  refine GW.nm fun ad1 mc1 e1 e2 e3 e4 => ?_
  have k4 : mc1 14 = some (.inl (9, [.int 0, .null, .null, .null, .null])) := (e4 14 (by decide)).trans h14
  have ka : ad1 14 = a := (e2 14 (by decide)).trans ha
  refine GW.putf (r := 14) fl_X9_11 dX9_init_10 (by first | rfl | assumption) (Nat.le_of_ble_eq_true rfl) (by first | exact ⟨rfl, rfl⟩ | exact fitq _ _ rfl) (by first | exact Or.inl rfl | exact Or.inr ⟨rfl, rfl⟩) (by first | rfl | assumption) ?_
  refine GW.sm fun mc2 f1 f2 => ?_
  have k6 : mc2 16 = none := (f2 16 (by decide)).trans ((e4 16 (by decide)).trans h16)
  refine GW.aload0 dX9_init_13 (g := ?_)
  refine GW.bipush (v := 50) dX9_init_14 (by decide) ?_
  refine GW.newi 16 dX9_init_16 (by first | rfl | assumption) (sz50).1 (sz50).2.1 (sz50).2.2 aw_int (by first | (dsimp only [mX9_init, gM.dp, gM.kc, gM.ks]; omega) | exact Nat.le_of_ble_eq_true rfl) (by first | (dsimp only [mX9_init, gM.dp, gM.kc, gM.ks]; omega) | exact Nat.le_of_ble_eq_true rfl) (fun q16 => ?_)
  refine GW.nm fun ad3 mc3 i1 i2 i3 i4 => ?_
  have k43 : mc3 14 = some (.inl (9, [.int 0, .ref q7, .null, .null, .null])) := (i4 14 (by decide)).trans f1
  have ka3 : ad3 14 = a := (i2 14 (by decide)).trans ka
  refine GW.putf (r := 14) fl_X9_17 dX9_init_18 (by first | rfl | assumption) (Nat.le_of_ble_eq_true rfl) (by first | exact ⟨rfl, rfl⟩ | exact fitq _ _ rfl) (by first | exact Or.inl rfl | exact Or.inr ⟨rfl, rfl⟩) (by first | rfl | assumption) ?_
  refine GW.sm fun mc4 j1 j2 => ?_
  have k7 : mc4 17 = none := (j2 17 (by decide)).trans ((i4 17 (by decide)).trans ((f2 17 (by decide)).trans ((e4 17 (by decide)).trans h17)))
  refine GW.aload0 dX9_init_21 (g := ?_)
  refine GW.bipush (v := 50) dX9_init_22 (by decide) ?_
  refine GW.newi 17 dX9_init_24 (by first | rfl | assumption) (sz50).1 (sz50).2.1 (sz50).2.2 aw_int (by first | (dsimp only [mX9_init, gM.dp, gM.kc, gM.ks]; omega) | exact Nat.le_of_ble_eq_true rfl) (by first | (dsimp only [mX9_init, gM.dp, gM.kc, gM.ks]; omega) | exact Nat.le_of_ble_eq_true rfl) (fun q24 => ?_)
  refine GW.nm fun ad5 mc5 m1 m2 m3 m4 => ?_
  have k45 : mc5 14 = some (.inl (9, [.int 0, .ref q7, .ref q16, .null, .null])) := (m4 14 (by decide)).trans j1
  have ka5 : ad5 14 = a := (m2 14 (by decide)).trans ka3
  refine GW.putf (r := 14) fl_X9_21 dX9_init_26 (by first | rfl | assumption) (Nat.le_of_ble_eq_true rfl) (by first | exact ⟨rfl, rfl⟩ | exact fitq _ _ rfl) (by first | exact Or.inl rfl | exact Or.inr ⟨rfl, rfl⟩) (by first | rfl | assumption) ?_
  refine GW.sm fun mc6 l1 l2 => ?_
  have k8 : mc6 18 = none := (l2 18 (by decide)).trans ((m4 18 (by decide)).trans ((j2 18 (by decide)).trans ((i4 18 (by decide)).trans ((f2 18 (by decide)).trans ((e4 18 (by decide)).trans h18)))))
  refine GW.aload0 dX9_init_29 (g := ?_)
  refine GW.bipush (v := 50) dX9_init_30 (by decide) ?_
  refine GW.newi 18 dX9_init_32 (by first | rfl | assumption) (sz50).1 (sz50).2.1 (sz50).2.2 aw_int (by first | (dsimp only [mX9_init, gM.dp, gM.kc, gM.ks]; omega) | exact Nat.le_of_ble_eq_true rfl) (by first | (dsimp only [mX9_init, gM.dp, gM.kc, gM.ks]; omega) | exact Nat.le_of_ble_eq_true rfl) (fun q32 => ?_)
  refine GW.nm fun ad7 mc7 n1 n2 n3 n4 => ?_
  have k47 : mc7 14 = some (.inl (9, [.int 0, .ref q7, .ref q16, .ref q24, .null])) := (n4 14 (by decide)).trans l1
  have ka7 : ad7 14 = a := (n2 14 (by decide)).trans ka5
  refine GW.putf (r := 14) fl_X9_24 dX9_init_34 (by first | rfl | assumption) (Nat.le_of_ble_eq_true rfl) (by first | exact ⟨rfl, rfl⟩ | exact fitq _ _ rfl) (by first | exact Or.inl rfl | exact Or.inr ⟨rfl, rfl⟩) (by first | rfl | assumption) ?_
  refine GW.sm fun mc8 o1 o2 => ?_
  refine GW.vreturn dX9_init_37 rfl (by first | (dsimp only [mX9_init, gM.dp, gM.kc, gM.ks]; omega) | exact Nat.le_of_ble_eq_true rfl | exact Nat.le_refl _ | omega) (by first | (dsimp only [mX9_init, gM.dp, gM.kc, gM.ks]; omega) | exact Nat.le_of_ble_eq_true rfl | exact Nat.le_refl _ | omega) ?_
  refine ⟨rfl, ad7, mc8, rfl, fun q h => (n2 q (by omega)).trans ((m2 q (by omega)).trans ((i2 q (by omega)).trans (e2 q (by omega)))), fun q h => (o2 q (by omega)).trans ((n4 q (by omega)).trans ((l2 q (by omega)).trans ((m4 q (by omega)).trans ((j2 q (by omega)).trans ((i4 q (by omega)).trans ((f2 q (by omega)).trans (e4 q (by omega)))))))), 0, fun _ => none, fun _ => 0, fun _ => 0, fun _ => 0, ?_, ?_, ?_, ?_, ?_⟩
  · rw [o1, n1, n2 17 (by decide), m1, n2 16 (by decide), m2 16 (by decide), i1, n2 15 (by decide), m2 15 (by decide), i2 15 (by decide), e1]; rfl
  · exact (o2 15 (by decide)).trans ((n4 15 (by decide)).trans ((l2 15 (by decide)).trans ((m4 15 (by decide)).trans ((j2 15 (by decide)).trans ((i4 15 (by decide)).trans ((f2 15 (by decide)).trans e3))))))
  · exact (o2 16 (by decide)).trans ((n4 16 (by decide)).trans ((l2 16 (by decide)).trans ((m4 16 (by decide)).trans ((j2 16 (by decide)).trans i3))))
  · exact (o2 17 (by decide)).trans ((n4 17 (by decide)).trans ((l2 17 (by decide)).trans m3))
  · exact (o2 18 (by decide)).trans n3
abbrev mX6_init (d kc ks : Nat) : gM := (RX6, cX6_init, 1, none, [], "<init>", d, kc, ks)
abbrev kX6_init (d kc ks : Nat) (as : List Value) (G : gG) (Q : Option Value → gG → Prop) (X : String → gG → Prop) : Prop := Ctr yX6_init cX6_init 1 none d kc ks as G Q X
theorem oX6_init {d kc ks : Nat} {as : List Value} {G : gG} {Q : Option Value → gG → Prop} {X : String → gG → Prop} {L : List (Option Value)} (hL : gEnt as = L) (hlen : (lg_sl as).length ≤ 1) (g : GW (mX6_init d kc ks) Q X G 0 0 0 L []) : kX6_init d kc ks as G Q X := Ctr.of (by decide +kernel) rfl rfl hL hlen g
theorem c_iQuery {i : Nat} (h3 : mc (50 + i) = some (.inl (6, [.int 0, .null, .null]))) (ha : ad (50 + i) = a) (h6 : mc (60 + i) = none) (h7 : mc (70 + i) = none) :
    kX6_init 1 2 10 [.ref a] (im, ad, mc) (fun v G' => v = none ∧ ∃ ad' mc', (im, ad', mc') = G' ∧ (∀ q, q ≠ 60 + i → q ≠ 70 + i → ad' q = ad q) ∧ (∀ q, q ≠ 50 + i → q ≠ 60 + i → q ≠ 70 + i → mc' q = mc q) ∧ qyAt ad' mc' i []) noX := by
  refine oX6_init (L := [some (.ref a), none, none, none, none, none, none, none, none, none, none, none]) rfl (Nat.le_of_ble_eq_true rfl) ?_
  refine GW.aload0 dX6_init_0 (g := ?_)
  refine GW.objInit oi_X6_3 oi_i oi_c dX6_init_1 (by first | exact Nat.le_of_ble_eq_true rfl | omega) (Nat.le_of_ble_eq_true rfl) ?_
  refine GW.aload0 dX6_init_4 (g := ?_)
  refine GW.iconst (v := 5) dX6_init_5 (by decide) ?_
  refine GW.newi (60+i) dX6_init_6 (by first | rfl | assumption) (sz5).1 (sz5).2.1 (sz5).2.2 aw_int (by first | (dsimp only [mX6_init, gM.dp, gM.kc, gM.ks]; omega) | exact Nat.le_of_ble_eq_true rfl) (by first | (dsimp only [mX6_init, gM.dp, gM.kc, gM.ks]; omega) | exact Nat.le_of_ble_eq_true rfl) (fun q6 => ?_)
  refine GW.nm fun ad1 mc1 e1 e2 e3 e4 => ?_
  have k3 : mc1 (50 + i) = some (.inl (6, [.int 0, .null, .null])) := (e4 _ (by omega)).trans h3
  have ka : ad1 (50 + i) = a := (e2 _ (by omega)).trans ha
  refine GW.putf (r := (50+i)) fl_X6_9 dX6_init_8 (by first | rfl | assumption) (Nat.le_of_ble_eq_true rfl) (by first | exact ⟨rfl, rfl⟩ | exact fitq _ _ rfl) (by first | exact Or.inl rfl | exact Or.inr ⟨rfl, rfl⟩) (by first | rfl | assumption) ?_
  refine GW.sm fun mc2 f1 f2 => ?_
  have k7 : mc2 (70 + i) = none := (f2 _ (by omega)).trans ((e4 _ (by omega)).trans h7)
  refine GW.aload0 dX6_init_11 (g := ?_)
  refine GW.iconst (v := 5) dX6_init_12 (by decide) ?_
  refine GW.newi (70+i) dX6_init_13 (by first | rfl | assumption) (sz5).1 (sz5).2.1 (sz5).2.2 aw_int (by first | (dsimp only [mX6_init, gM.dp, gM.kc, gM.ks]; omega) | exact Nat.le_of_ble_eq_true rfl) (by first | (dsimp only [mX6_init, gM.dp, gM.kc, gM.ks]; omega) | exact Nat.le_of_ble_eq_true rfl) (fun q13 => ?_)
  refine GW.nm fun ad3 mc3 i1 i2 i3 i4 => ?_
  have k33 : mc3 (50 + i) = some (.inl (6, [.int 0, .ref q6, .null])) := (i4 _ (by omega)).trans f1
  have ka3 : ad3 (50 + i) = a := (i2 _ (by omega)).trans ka
  refine GW.putf (r := (50+i)) fl_X6_15 dX6_init_15 (by first | rfl | assumption) (Nat.le_of_ble_eq_true rfl) (by first | exact ⟨rfl, rfl⟩ | exact fitq _ _ rfl) (by first | exact Or.inl rfl | exact Or.inr ⟨rfl, rfl⟩) (by first | rfl | assumption) ?_
  refine GW.sm fun mc4 j1 j2 => ?_
  refine GW.vreturn dX6_init_18 rfl (by first | (dsimp only [mX6_init, gM.dp, gM.kc, gM.ks]; omega) | exact Nat.le_of_ble_eq_true rfl | exact Nat.le_refl _ | omega) (by first | (dsimp only [mX6_init, gM.dp, gM.kc, gM.ks]; omega) | exact Nat.le_of_ble_eq_true rfl | exact Nat.le_refl _ | omega) ?_
  refine ⟨rfl, ad3, mc4, rfl, fun q h h' => (i2 q h').trans (e2 q h), fun q h h' h'' => (j2 q h).trans ((i4 q h'').trans ((f2 q h).trans (e4 q h'))), by decide, ?_, fun _ => 0, fun _ => 0, ?_, ?_, fun j x h => by simp at h⟩
  · rw [j1, i1, i2 (60 + i) (by omega), e1]; rfl
  · exact (j2 _ (by omega)).trans ((i4 _ (by omega)).trans ((f2 _ (by omega)).trans e3))
  · exact (j2 _ (by omega)).trans i3
abbrev mX0_init (d kc ks : Nat) : gM := (RX0, cX0_init, 3, none, [], "<init>", d, kc, ks)
abbrev kX0_init (d kc ks : Nat) (as : List Value) (G : gG) (Q : Option Value → gG → Prop) (X : String → gG → Prop) : Prop := Ctr yX0_init cX0_init 3 none d kc ks as G Q X
theorem oX0_init {d kc ks : Nat} {as : List Value} {G : gG} {Q : Option Value → gG → Prop} {X : String → gG → Prop} {L : List (Option Value)} (hL : gEnt as = L) (hlen : (lg_sl as).length ≤ 3) (g : GW (mX0_init d kc ks) Q X G 0 0 0 L []) : kX0_init d kc ks as G Q X := Ctr.of (by decide +kernel) rfl rfl hL hlen g
theorem c_iChecker {w s : Nat} (h19 : mc 19 = some (.inl (0, [.int 0, .int 0, .int 0, .int 0, .null, .null, .null]))) (ha : ad 19 = a) (h20 : mc 20 = none) :
    kX0_init 1 1 50 [.ref a, .ref w, .ref s] (im, ad, mc) (fun v G' => v = none ∧ ∃ ad' mc', (im, ad', mc') = G' ∧ (∀ q, q ≠ 20 → ad' q = ad q) ∧ (∀ q, q ≠ 19 → q ≠ 20 → mc' q = mc q) ∧ ∃ fs, mc' 19 = some (.inl (0, fs))) noX := by
  refine oX0_init (L := [some (.ref a), some (.ref w), some (.ref s), none, none, none, none, none, none, none, none, none]) rfl (Nat.le_of_ble_eq_true rfl) ?_
  refine GW.aload0 dX0_init_0 (g := ?_)
  refine GW.objInit oi_X0_3 oi_i oi_c dX0_init_1 (by first | exact Nat.le_of_ble_eq_true rfl | omega) (Nat.le_of_ble_eq_true rfl) ?_
  refine GW.aload0 dX0_init_4 (g := ?_)
  refine GW.bipush (v := 50) dX0_init_5 (by decide) ?_
  refine GW.newi 20 dX0_init_7 (by first | rfl | assumption) (sz50).1 (sz50).2.1 (sz50).2.2 aw_int (by first | (dsimp only [mX0_init, gM.dp, gM.kc, gM.ks]; omega) | exact Nat.le_of_ble_eq_true rfl) (by first | (dsimp only [mX0_init, gM.dp, gM.kc, gM.ks]; omega) | exact Nat.le_of_ble_eq_true rfl) (fun q7 => ?_)
  refine GW.nm fun ad1 mc1 e1 e2 e3 e4 => ?_
  have k4 : mc1 19 = some (.inl (0, [.int 0, .int 0, .int 0, .int 0, .null, .null, .null])) := (e4 19 (by decide)).trans h19
  have ka : ad1 19 = a := (e2 19 (by decide)).trans ha
  refine GW.putf (r := 19) fl_X0_9 dX0_init_9 (by first | rfl | assumption) (Nat.le_of_ble_eq_true rfl) (by first | exact ⟨rfl, rfl⟩ | exact fitq _ _ rfl) (by first | exact Or.inl rfl | exact Or.inr ⟨rfl, rfl⟩) (by first | rfl | assumption) ?_
  refine GW.sm fun mc2 f1 f2 => ?_
  have f1 : mc2 19 = some (.inl (0, [.int 0, .int 0, .int 0, .int 0, .null, .null, .ref q7])) := f1
  refine GW.aload0 dX0_init_12 (g := ?_)
  refine GW.aload1 dX0_init_13 (g := ?_)
  refine GW.putf (r := 19) fl_X0_15 dX0_init_14 (by first | rfl | assumption) (Nat.le_of_ble_eq_true rfl) (by first | exact ⟨rfl, rfl⟩ | exact fitq _ _ rfl) (by first | exact Or.inl rfl | exact Or.inr ⟨rfl, rfl⟩) (by first | rfl | assumption) ?_
  refine GW.sm fun mc3 g1 g2 => ?_
  have g1 : mc3 19 = some (.inl (0, [.int 0, .int 0, .int 0, .int 0, .ref w, .null, .ref q7])) := g1
  refine GW.aload0 dX0_init_17 (g := ?_)
  refine GW.aload2 dX0_init_18 (g := ?_)
  refine GW.putf (r := 19) fl_X0_19 dX0_init_19 (by first | rfl | assumption) (Nat.le_of_ble_eq_true rfl) (by first | exact ⟨rfl, rfl⟩ | exact fitq _ _ rfl) (by first | exact Or.inl rfl | exact Or.inr ⟨rfl, rfl⟩) (by first | rfl | assumption) ?_
  refine GW.sm fun mc4 l1 l2 => ?_
  refine GW.vreturn dX0_init_22 rfl (by first | (dsimp only [mX0_init, gM.dp, gM.kc, gM.ks]; omega) | exact Nat.le_of_ble_eq_true rfl | exact Nat.le_refl _ | omega) (by first | (dsimp only [mX0_init, gM.dp, gM.kc, gM.ks]; omega) | exact Nat.le_of_ble_eq_true rfl | exact Nat.le_refl _ | omega) ?_
  exact ⟨rfl, ad1, mc4, rfl, e2, fun q h h' => (l2 q h).trans ((g2 q h).trans ((f2 q h).trans (e4 q h'))), _, l1⟩
abbrev mX7_init (d kc ks : Nat) : gM := (RX7, cX7_init, 1, none, [], "<init>", d, kc, ks)
abbrev kX7_init (d kc ks : Nat) (as : List Value) (G : gG) (Q : Option Value → gG → Prop) (X : String → gG → Prop) : Prop := Ctr yX7_init cX7_init 1 none d kc ks as G Q X
theorem oX7_init {d kc ks : Nat} {as : List Value} {G : gG} {Q : Option Value → gG → Prop} {X : String → gG → Prop} {L : List (Option Value)} (hL : gEnt as = L) (hlen : (lg_sl as).length ≤ 1) (g : GW (mX7_init d kc ks) Q X G 0 0 0 L []) : kX7_init d kc ks as G Q X := Ctr.of (by decide +kernel) rfl rfl hL hlen g
theorem c_iSchema (h0 : mc 900 = some (.inl (7, [.int 0, .int 0, .int 0, .int 0, .int 0, .int 0, .int 0, .int 0, .null, .null, .null]))) (ha : ad 900 = a) (h1 : mc 901 = none) (h2 : mc 902 = none) (h3 : mc 903 = none) :
    kX7_init 1 3 12 [.ref a] (im, ad, mc) (fun v G' => v = none ∧ ∃ ad' mc', (im, ad', mc') = G' ∧ (∀ q, q < 901 → ad' q = ad q) ∧ (∀ q, q < 900 → mc' q = mc q) ∧ ∃ fs, mc' 900 = some (.inl (7, fs))) noX := by
  refine oX7_init (L := [some (.ref a), none, none, none, none, none, none, none, none, none, none, none]) rfl (Nat.le_of_ble_eq_true rfl) ?_
  refine GW.aload0 dX7_init_0 (g := ?_)
  refine GW.objInit oi_X7_3 oi_i oi_c dX7_init_1 (by first | exact Nat.le_of_ble_eq_true rfl | omega) (Nat.le_of_ble_eq_true rfl) ?_
  refine GW.aload0 dX7_init_4 (g := ?_)
  refine GW.bipush (v := 31) dX7_init_5 (by decide) ?_
  refine GW.putf (r := 900) fl_X7_9 dX7_init_7 (by first | rfl | assumption) (Nat.le_of_ble_eq_true rfl) (by first | exact ⟨rfl, rfl⟩ | exact fitq _ _ rfl) (by first | exact Or.inl rfl | exact Or.inr ⟨rfl, rfl⟩) (by first | rfl | assumption) ?_
  refine GW.sm fun mc1 a1 a2 => ?_
  have a1 : mc1 900 = some (.inl (7, [.int 31, .int 0, .int 0, .int 0, .int 0, .int 0, .int 0, .int 0, .null, .null, .null])) := a1
  refine GW.aload0 dX7_init_10 (g := ?_)
  refine GW.sipush (v := -9999) dX7_init_11 (by decide) ?_
  refine GW.putf (r := 900) fl_X7_15 dX7_init_14 (by first | rfl | assumption) (Nat.le_of_ble_eq_true rfl) (by first | exact ⟨rfl, rfl⟩ | exact fitq _ _ rfl) (by first | exact Or.inl rfl | exact Or.inr ⟨rfl, rfl⟩) (by first | rfl | assumption) ?_
  refine GW.sm fun mc2 b1 b2 => ?_
  refine GW.aload0 dX7_init_17 (g := ?_)
  refine GW.sipush (v := 9999) dX7_init_18 (by decide) ?_
  refine GW.putf (r := 900) fl_X7_18 dX7_init_21 (by first | rfl | assumption) (Nat.le_of_ble_eq_true rfl) (by first | exact ⟨rfl, rfl⟩ | exact fitq _ _ rfl) (by first | exact Or.inl rfl | exact Or.inr ⟨rfl, rfl⟩) (by first | rfl | assumption) ?_
  refine GW.sm fun mc3 c1 c2 => ?_
  refine GW.aload0 dX7_init_24 (g := ?_)
  refine GW.bipush (v := 50) dX7_init_25 (by decide) ?_
  refine GW.putf (r := 900) fl_X7_21 dX7_init_27 (by first | rfl | assumption) (Nat.le_of_ble_eq_true rfl) (by first | exact ⟨rfl, rfl⟩ | exact fitq _ _ rfl) (by first | exact Or.inl rfl | exact Or.inr ⟨rfl, rfl⟩) (by first | rfl | assumption) ?_
  refine GW.sm fun mc4 d1 d2 => ?_
  refine GW.aload0 dX7_init_30 (g := ?_)
  refine GW.iconst (v := -1) dX7_init_31 (by decide) ?_
  refine GW.putf (r := 900) fl_X7_24 dX7_init_32 (by first | rfl | assumption) (Nat.le_of_ble_eq_true rfl) (by first | exact ⟨rfl, rfl⟩ | exact fitq _ _ rfl) (by first | exact Or.inl rfl | exact Or.inr ⟨rfl, rfl⟩) (by first | rfl | assumption) ?_
  refine GW.sm fun mc5 e1 e2 => ?_
  refine GW.aload0 dX7_init_35 (g := ?_)
  refine GW.iconst (v := -1) dX7_init_36 (by decide) ?_
  refine GW.putf (r := 900) fl_X7_27 dX7_init_37 (by first | rfl | assumption) (Nat.le_of_ble_eq_true rfl) (by first | exact ⟨rfl, rfl⟩ | exact fitq _ _ rfl) (by first | exact Or.inl rfl | exact Or.inr ⟨rfl, rfl⟩) (by first | rfl | assumption) ?_
  refine GW.sm fun mc6 f1 f2 => ?_
  have k901 : mc6 901 = none := (f2 901 (by decide)).trans ((e2 901 (by decide)).trans ((d2 901 (by decide)).trans ((c2 901 (by decide)).trans ((b2 901 (by decide)).trans ((a2 901 (by decide)).trans h1)))))
  have k902 : mc6 902 = none := (f2 902 (by decide)).trans ((e2 902 (by decide)).trans ((d2 902 (by decide)).trans ((c2 902 (by decide)).trans ((b2 902 (by decide)).trans ((a2 902 (by decide)).trans h2)))))
  have k903 : mc6 903 = none := (f2 903 (by decide)).trans ((e2 903 (by decide)).trans ((d2 903 (by decide)).trans ((c2 903 (by decide)).trans ((b2 903 (by decide)).trans ((a2 903 (by decide)).trans h3)))))
  have fr6 : ∀ q, q < 900 → mc6 q = mc q := fun q hq => (f2 q (by omega)).trans ((e2 q (by omega)).trans ((d2 q (by omega)).trans ((c2 q (by omega)).trans ((b2 q (by omega)).trans (a2 q (by omega))))))
  refine GW.aload0 dX7_init_40 (g := ?_)
  refine GW.iconst (v := 4) dX7_init_41 (by decide) ?_
  refine GW.newi 901 dX7_init_42 (by first | rfl | assumption) (sz4).1 (sz4).2.1 (sz4).2.2 aw_int (by first | (dsimp only [mX7_init, gM.dp, gM.kc, gM.ks]; omega) | exact Nat.le_of_ble_eq_true rfl) (by first | (dsimp only [mX7_init, gM.dp, gM.kc, gM.ks]; omega) | exact Nat.le_of_ble_eq_true rfl) (fun q42 => ?_)
  refine GW.nm fun ad7 mc7 i1 i2 i3 i4 => ?_
  have k7 := (i4 900 (by decide)).trans f1
  have ka7 : ad7 900 = a := (i2 900 (by decide)).trans ha
  refine GW.putf (r := 900) fl_X7_30 dX7_init_44 (by first | rfl | assumption) (Nat.le_of_ble_eq_true rfl) (by first | exact ⟨rfl, rfl⟩ | exact fitq _ _ rfl) (by first | exact Or.inl rfl | exact Or.inr ⟨rfl, rfl⟩) (by first | rfl | assumption) ?_
  refine GW.sm fun mc8 j1 j2 => ?_
  have k8 : mc8 902 = none := (j2 902 (by decide)).trans ((i4 902 (by decide)).trans k902)
  refine GW.aload0 dX7_init_47 (g := ?_)
  refine GW.iconst (v := 4) dX7_init_48 (by decide) ?_
  refine GW.newi 902 dX7_init_49 (by first | rfl | assumption) (sz4).1 (sz4).2.1 (sz4).2.2 aw_int (by first | (dsimp only [mX7_init, gM.dp, gM.kc, gM.ks]; omega) | exact Nat.le_of_ble_eq_true rfl) (by first | (dsimp only [mX7_init, gM.dp, gM.kc, gM.ks]; omega) | exact Nat.le_of_ble_eq_true rfl) (fun q49 => ?_)
  refine GW.nm fun ad9 mc9 l1 l2 l3 l4 => ?_
  have k9 := (l4 900 (by decide)).trans j1
  have ka9 : ad9 900 = a := (l2 900 (by decide)).trans ka7
  refine GW.putf (r := 900) fl_X7_34 dX7_init_51 (by first | rfl | assumption) (Nat.le_of_ble_eq_true rfl) (by first | exact ⟨rfl, rfl⟩ | exact fitq _ _ rfl) (by first | exact Or.inl rfl | exact Or.inr ⟨rfl, rfl⟩) (by first | rfl | assumption) ?_
  refine GW.sm fun mc10 m1 m2 => ?_
  have k10 : mc10 903 = none := (m2 903 (by decide)).trans ((l4 903 (by decide)).trans ((j2 903 (by decide)).trans ((i4 903 (by decide)).trans k903)))
  refine GW.aload0 dX7_init_54 (g := ?_)
  refine GW.iconst (v := 4) dX7_init_55 (by decide) ?_
  refine GW.newz 903 dX7_init_56 (by first | rfl | assumption) (sz4).1 (sz4).2.1 (sz4).2.2 aw_bool (by first | (dsimp only [mX7_init, gM.dp, gM.kc, gM.ks]; omega) | exact Nat.le_of_ble_eq_true rfl) (by first | (dsimp only [mX7_init, gM.dp, gM.kc, gM.ks]; omega) | exact Nat.le_of_ble_eq_true rfl) (fun q56 => ?_)
  refine GW.nm fun ad11 mc11 n1 n2 n3 n4 => ?_
  have k11 := (n4 900 (by decide)).trans m1
  have ka11 : ad11 900 = a := (n2 900 (by decide)).trans ka9
  refine GW.putf (r := 900) fl_X7_37 dX7_init_58 (by first | rfl | assumption) (Nat.le_of_ble_eq_true rfl) (by first | exact ⟨rfl, rfl⟩ | exact fitq _ _ rfl) (by first | exact Or.inl rfl | exact Or.inr ⟨rfl, rfl⟩) (by first | rfl | assumption) ?_
  refine GW.sm fun mc12 o1 o2 => ?_
  refine GW.vreturn dX7_init_61 rfl (by first | (dsimp only [mX7_init, gM.dp, gM.kc, gM.ks]; omega) | exact Nat.le_of_ble_eq_true rfl | exact Nat.le_refl _ | omega) (by first | (dsimp only [mX7_init, gM.dp, gM.kc, gM.ks]; omega) | exact Nat.le_of_ble_eq_true rfl | exact Nat.le_refl _ | omega) ?_
  exact ⟨rfl, ad11, mc12, rfl, fun q hq => (n2 q (by omega)).trans ((l2 q (by omega)).trans (i2 q (by omega))), fun q hq => (o2 q (by omega)).trans ((n4 q (by omega)).trans ((m2 q (by omega)).trans ((l4 q (by omega)).trans ((j2 q (by omega)).trans ((i4 q (by omega)).trans (fr6 q hq)))))), _, o1⟩
end CTOR
theorem nn_X10_24 : Cond.methodLinkNest RX10 24 yX5_init RX10 ∈ gNk := List.mem_filter.mpr ⟨List.mem_of_getElem? (i := 112) (by decide +kernel), rfl⟩
theorem im_X5 : Cond.instanceMethod yX5_init ∈ gW := gW_in 113 (by decide +kernel) (by decide +kernel)
theorem nn_X10_44 : Cond.methodLinkNest RX10 44 yX4_init RX10 ∈ gNk := List.mem_filter.mpr ⟨List.mem_of_getElem? (i := 158) (by decide +kernel), rfl⟩
theorem im_X4 : Cond.instanceMethod yX4_init ∈ gW := gW_in 159 (by decide +kernel) (by decide +kernel)
theorem nn_X10_50 : Cond.methodLinkNest RX10 50 yX1_init RX10 ∈ gNk := List.mem_filter.mpr ⟨List.mem_of_getElem? (i := 174) (by decide +kernel), rfl⟩
theorem im_X1 : Cond.instanceMethod yX1_init ∈ gW := gW_in 175 (by decide +kernel) (by decide +kernel)
theorem nn_X10_61 : Cond.methodLinkNest RX10 61 yX7_init RX10 ∈ gNk := List.mem_filter.mpr ⟨List.mem_of_getElem? (i := 195) (by decide +kernel), rfl⟩
theorem im_X7 : Cond.instanceMethod yX7_init ∈ gW := gW_in 196 (by decide +kernel) (by decide +kernel)
theorem nn_X10_64 : Cond.methodLinkNest RX10 64 yX9_init RX10 ∈ gNk := List.mem_filter.mpr ⟨List.mem_of_getElem? (i := 240) (by decide +kernel), rfl⟩
theorem im_X9 : Cond.instanceMethod yX9_init ∈ gW := gW_in 241 (by decide +kernel) (by decide +kernel)
theorem nn_X10_84 : Cond.methodLinkNest RX10 84 yX6_init RX10 ∈ gNk := List.mem_filter.mpr ⟨List.mem_of_getElem? (i := 294) (by decide +kernel), rfl⟩
theorem im_X6 : Cond.instanceMethod yX6_init ∈ gW := gW_in 295 (by decide +kernel) (by decide +kernel)
