/-! what a right tree is; one address, one tree; areSame, isSameAs -/
/-- the keys of an OBJECT rise, and lie from 0 to 99 -/
def keysOk (xs : List (Int32 × Tr)) : Prop := xs.Pairwise (fun x y => x.1 < y.1) ∧ ∀ x ∈ xs, 0 ≤ x.1 ∧ x.1 ≤ 99
def okN (kind num : Int32) (ch : Fo) : Prop :=
  (kind = 0 ∨ kind = 1 ∨ kind = 2 ∨ kind = 3 ∨ kind = 4) ∧ (num = -10000 ↔ (kind ≠ 1 ∧ kind ≠ 2)) ∧ (kids ch ≠ [] → kind = 3 ∨ kind = 4) ∧ (kind ≠ 4 → ∀ x ∈ kids ch, x.1 = 0) ∧ (kind = 4 → keysOk (kids ch))
def wfF : Fo → Prop
  | .leaf => True
  | .inner z k _ ch rest => z = 0 ∧ okN k.2.1 k.2.2 ch ∧ wfF ch ∧ wfF rest
def wfT (t : Tr) : Prop := okN t.1 t.2.1 t.2.2 ∧ wfF t.2.2
theorem wfF.pl : ∀ f : Fo, wfF f → plF f
  | .leaf, _ => trivial
  | .inner z k _ ch rest, h => ⟨h.1, wfF.pl ch h.2.2.1, wfF.pl rest h.2.2.2⟩
theorem wfF_iff : ∀ xs : List (Int32 × Tr), wfF (ofKids xs) ↔ ∀ x ∈ xs, wfT x.2
  | [] => by simp [ofKids, wfF]
  | x :: xs => by
    rw [ofKids, wfF, wfF_iff xs]
    simp only [List.mem_cons, forall_eq_or_imp, true_and, wfT]
    exact and_assoc.symm
theorem wfF.kid {f : Fo} (h : wfF f) (x : Int32 × Tr) (hx : x ∈ kids f) : wfT x.2 := by
  have h1 := of_kids f (wfF.pl f h)
  rw [← h1] at h
  exact (wfF_iff _).mp h x hx
theorem wfT.kid {t u : Tr} {j : Nat} (h : wfT t) (hk : kid t j = some u) : wfT u := by
  unfold _root_.Jvm.Pilot.CMarlStoreLaw_law_r1597_55c78a.kid at hk
  cases hx : (kids t.2.2)[j]? with
  | none => rw [hx] at hk; cases hk
  | some x =>
    rw [hx] at hk
    cases hk
    exact h.2.kid x (List.mem_of_getElem? hx)
theorem va_rf_inj {r q : Option Nat} (h : va_rf r = va_rf q) : r = q := by
  cases r <;> cases q <;> simp_all [va_rf]
theorem szT_pos (t : Tr) : 1 ≤ szT t := by unfold szT; omega
theorem kid_sz {t : Tr} {x : Int32 × Tr} (hx : x ∈ kids t.2.2) : szT x.2 < szT t := by
  have := kids_lt t.2.2 x hx
  unfold szT at *; omega
theorem kid_dp {t : Tr} {x : Int32 × Tr} (hx : x ∈ kids t.2.2) : dpT x.2 < dpT t := by
  have := kids_dp t.2.2 x hx
  unfold dpT at *; omega
theorem tr_ext {t u : Tr} (ht : wfT t) (hu : wfT u) (h1 : t.1 = u.1) (h2 : t.2.1 = u.2.1) (h3 : kids t.2.2 = kids u.2.2) : t = u := by
  obtain ⟨a, b, c⟩ := t
  obtain ⟨d, e, f⟩ := u
  dsimp only at h1 h2 h3
  have hcf : c = f := kids_inj (wfF.pl c ht.2) (wfF.pl f hu.2) h3
  subst h1 h2 hcf
  rfl
theorem isV_inj {im : gIm} : ∀ (n : Nat) (t u : Tr) (a : Nat), szT t ≤ n → wfT t → wfT u → isV im a t → isV im a u → t = u := by
  intro n
  induction n with
  | zero =>
    intro t u a hn
    have := szT_pos t
    omega
  | succ n ih =>
    intro t u a hn ht hu h1 h2
    obtain ⟨kr, pr, hc, hk, hp⟩ := h1.node
    obtain ⟨kr', pr', hc', hk', hp'⟩ := h2.node
    have he := hc.symm.trans hc'
    simp only [Option.some.injEq, Sum.inl.injEq, Prod.mk.injEq, List.cons.injEq, Value.int.injEq, true_and, and_true] at he
    obtain ⟨e1, e2, e3, e4, e5, e6⟩ := he
    have e3 := va_rf_inj e3
    have e4 := va_rf_inj e4
    subst e3 e4
    refine tr_ext ht hu e1 e2 ?_
    cases pr with
    | none =>
      have q1 : kids t.2.2 = [] := hp
      have q2 : kids u.2.2 = [] := hp'
      rw [q1, q2]
    | some pa =>
      obtain ⟨r, g1, g2⟩ := hp
      obtain ⟨r', g1', g2'⟩ := hp'
      have hz := g1.symm.trans g1'
      simp only [Option.some.injEq, Sum.inr.injEq, Prod.mk.injEq, true_and] at hz
      obtain ⟨hlen, hr⟩ := hz
      subst hr
      apply List.ext_getElem? 
      intro j
      rcases Nat.lt_or_ge j (kids t.2.2).length with hj | hj
      · obtain ⟨x, hx⟩ : ∃ x, (kids t.2.2)[j]? = some x := ⟨_, List.getElem?_eq_getElem hj⟩
        obtain ⟨y, hy⟩ : ∃ y, (kids u.2.2)[j]? = some y := ⟨_, List.getElem?_eq_getElem (by omega)⟩
        obtain ⟨b, k1, k2⟩ := g2 j x hx
        obtain ⟨b', k1', k2'⟩ := g2' j y hy
        have hb : b = b' := Option.some.inj (k1.symm.trans k1')
        subst hb
        have hmx := List.mem_of_getElem? hx
        have hmy := List.mem_of_getElem? hy
        have hsub := ih x.2 y.2 b (by have := kid_sz hmx; omega) (ht.2.kid x hmx) (hu.2.kid y hmy) k2 k2'
        have hkey : x.1 = y.1 := by
          by_cases h4 : t.1 = 4
          · cases kr with
            | none =>
              rcases hk with hk | hk
              · exact absurd h4 hk
              · rw [hk] at hx; simp at hx
            | some ka =>
              obtain ⟨-, f, w1, w2⟩ := hk
              obtain ⟨-, f', w1', w2'⟩ := hk'
              have hz := w1.symm.trans w1'
              simp only [Option.some.injEq, Sum.inr.injEq, Prod.mk.injEq, Sum.inl.injEq, true_and] at hz
              rw [← w2 j x hx, ← w2' j y hy, hz.2]
          · rw [ht.1.2.2.2.1 h4 x hmx, hu.1.2.2.2.1 (by rw [← e1]; exact h4) y hmy]
        rw [hx, hy]
        exact congrArg some (Prod.ext hkey hsub)
      · rw [List.getElem?_eq_none hj, List.getElem?_eq_none (by omega)]
/-- 1 or 0 -/
noncomputable def bI (p : Prop) : Int32 := @ite _ p (Classical.propDecidable p) 1 0
theorem bI_t {p : Prop} (h : p) : bI p = 1 := by unfold bI; exact if_pos h
theorem bI_f {p : Prop} (h : ¬ p) : bI p = 0 := by unfold bI; exact if_neg h
theorem bI_01 (p : Prop) : bI p = 0 ∨ bI p = 1 := by
  by_cases h : p
  · exact Or.inr (bI_t h)
  · exact Or.inl (bI_f h)
theorem partT_mI {t : Tr} {j : Nat} (hj : j < 2 ^ 31) : partT t (nI j) = kid t j := by unfold partT; rw [pIx_mI hj]; rfl
theorem stepT_mI {t : Tr} {j : Nat} {x : Int32 × Tr} (hj : j < 2 ^ 31) (hx : (kids t.2.2)[j]? = some x) : stepT t (nI j) = if t.1 = 4 then x.1 else nI j := by
  unfold stepT; rw [pIx_mI hj]; simp only [hx]
abbrev mX8_areSame (d kc ks : Nat) : gM := (RX8, cX8_areSame, 4, (some .boolean), [], "areSame", d, kc, ks)
abbrev kX8_areSame (d kc ks : Nat) (as : List Value) (G : gG) (Q : Option Value → gG → Prop) (X : String → gG → Prop) : Prop := Ctr yX8_areSame cX8_areSame 4 (some .boolean) d kc ks as G Q X
theorem oX8_areSame {d kc ks : Nat} {as : List Value} {G : gG} {Q : Option Value → gG → Prop} {X : String → gG → Prop} {L : List (Option Value)} (hL : gEnt as = L) (hlen : (lg_sl as).length ≤ 4) (g : GW (mX8_areSame d kc ks) Q X G 0 0 0 L []) : kX8_areSame d kc ks as G Q X := Ctr.of (by decide +kernel) rfl rfl hL hlen g
theorem c_areSame : ∀ (N : Nat) {G : gG} {a b : Nat} {t u : Tr} {l : Nat}, isV G.1 a t → isV G.1 b u → wfT t → wfT u → sml t → sml u → dpT t ≤ N → l + N ≤ 41 →
    kX8_areSame (N + 1) 0 0 [va_rf (some a), va_rf (some b), .int (nI l)] G (ans G (fun w => w = .int (bI (t = u)))) noX := by
  intro N
  induction N with
  | zero =>
    intro G a b t u l _ _ _ _ _ _ h
    unfold dpT at h
    omega
  | succ N ih =>
    intro G a b t u l ha hb ht hu hst hsu hd hl
    have hwt := hst.wd
    have hwu := hsu.wd
    obtain ⟨kr, pr, hn, hk, hp⟩ := ha.node
    have hn : gL G a (.inl (8, _)) := Or.inl hn
    obtain ⟨kr', pr', hn', hk', hp'⟩ := hb.node
    have hn' : gL G b (.inl (8, _)) := Or.inl hn'
    refine oX8_areSame (L := [some (va_rf (some a)), some (va_rf (some b)), some (.int (nI l)), none, none, none, none, none, none, none, none, none]) rfl (Nat.le_of_ble_eq_true rfl) ?_
    generalize hQ : ans G _ = Q
    have no : t ≠ u → GW (mX8_areSame (N + 1 + 1) 0 0) Q noX G 0 0 65 [some (va_rf (some a)), some (va_rf (some b)), some (.int (nI l)), none, none, none, none, none, none, none, none, none] [] := by
      intro h
      refine GW.iconst (v := 0) dX8_areSame_65 (by decide) ?_
      refine GW.ireturn dX8_areSame_66 (Or.inr ⟨rfl, by first | exact Or.inl rfl | exact Or.inr rfl | assumption⟩) (by first | (dsimp only [mX8_areSame, gM.dp, gM.kc, gM.ks]; omega) | exact Nat.le_of_ble_eq_true rfl | exact Nat.le_refl _ | omega) (by first | (dsimp only [mX8_areSame, gM.dp, gM.kc, gM.ks]; omega) | exact Nat.le_of_ble_eq_true rfl | exact Nat.le_refl _ | omega) ?_
      subst hQ
      exact ⟨_, rfl, rfl, by rw [bI_f h]⟩
    refine GW.aload0 dX8_areSame_0 (g := ?_)
    refine GW.aload1 dX8_areSame_1 (g := ?_)
    refine GW.acmp_ne (tgt := 7) dX8_areSame_2 (by decide) (fun h2 => ?_) (fun h2 => ?_)
    · refine GW.aload0 dX8_areSame_7 (g := ?_)
      refine GW.ifnull (tgt := 65) dX8_areSame_8 (by decide) (fun h8 => ?_) (fun r8 h8 => ?_)
      · cases h8
      · refine GW.aload1 dX8_areSame_11 (g := ?_)
        refine GW.ifnull (tgt := 65) dX8_areSame_12 (by decide) (fun h12 => ?_) (fun r12 h12 => ?_)
        · cases h12
        · refine GW.iload2 dX8_areSame_15 ?_
          refine GW.bipush (v := 40) dX8_areSame_16 (by decide) ?_
          refine GW.icmp_gt (tgt := 65) dX8_areSame_18 (by decide) (fun h18 => ?_) (fun h18 => ?_)
          · exact absurd ((mI_lt (a := 40) (by omega) (by omega)).mp h18) (by omega)
          · refine GW.aload0 dX8_areSame_21 (g := ?_)
            refine GW.getf fl_X8_9 dX8_areSame_22 (by assumption) (by rfl) ?_
            refine GW.aload1 dX8_areSame_25 (g := ?_)
            refine GW.getf fl_X8_9 dX8_areSame_26 (by assumption) (by rfl) ?_
            refine GW.icmp_ne (tgt := 65) dX8_areSame_29 (by decide) (fun h29 => ?_) (fun h29 => ?_)
            · exact no fun h => h29 (by rw [h])
            · refine GW.aload0 dX8_areSame_32 (g := ?_)
              refine GW.getf fl_X8_15 dX8_areSame_33 (by assumption) (by rfl) ?_
              refine GW.aload1 dX8_areSame_36 (g := ?_)
              refine GW.getf fl_X8_15 dX8_areSame_37 (by assumption) (by rfl) ?_
              refine GW.icmp_ne (tgt := 65) dX8_areSame_40 (by decide) (fun h40 => ?_) (fun h40 => ?_)
              · exact no fun h => h40 (by rw [h])
              · refine GW.aload0 dX8_areSame_43 (g := ?_)
                refine GW.getf fl_X8_26 dX8_areSame_44 (by assumption) (by rfl) ?_
                refine GW.aload1 dX8_areSame_47 (g := ?_)
                refine GW.getf fl_X8_26 dX8_areSame_48 (by assumption) (by rfl) ?_
                refine GW.icmp_ne (tgt := 65) dX8_areSame_51 (by decide) (fun h51 => ?_) (fun h51 => ?_)
                · exact no fun h => h51 (by rw [h])
                · refine GW.aload0 dX8_areSame_54 (g := ?_)
                  refine GW.callV0 cv_X8_38 mt_X8_width (c_width ha) dX8_areSame_55 (by assumption) rfl rfl rfl rfl (by first | (dsimp only [mX8_areSame, gM.dp, gM.kc, gM.ks]; omega) | exact Nat.le_of_ble_eq_true rfl | exact Nat.le_refl _ | omega) (by decide) (by first | (dsimp only [mX8_areSame, gM.dp, gM.kc, gM.ks]; omega) | exact Nat.le_of_ble_eq_true rfl | exact Nat.le_refl _ | omega) (by first | (dsimp only [mX8_areSame, gM.dp, gM.kc, gM.ks]; omega) | exact Nat.le_of_ble_eq_true rfl | exact Nat.le_refl _ | omega) (by first | exact Nat.le_of_ble_eq_true rfl | (simp [va_rf_cat]; done) | (simp [va_rf_cat, Value.category]; done)) rfl (fun _ _ h => h.elim) (fun v55 G55 hq => ?_)
                  obtain ⟨w, rfl, rfl, rfl⟩ := hq
                  refine GW.aload1 dX8_areSame_58 (g := ?_)
                  refine GW.callV0 cv_X8_38 mt_X8_width (c_width hb) dX8_areSame_59 (by assumption) rfl rfl rfl rfl (by first | (dsimp only [mX8_areSame, gM.dp, gM.kc, gM.ks]; omega) | exact Nat.le_of_ble_eq_true rfl | exact Nat.le_refl _ | omega) (by decide) (by first | (dsimp only [mX8_areSame, gM.dp, gM.kc, gM.ks]; omega) | exact Nat.le_of_ble_eq_true rfl | exact Nat.le_refl _ | omega) (by first | (dsimp only [mX8_areSame, gM.dp, gM.kc, gM.ks]; omega) | exact Nat.le_of_ble_eq_true rfl | exact Nat.le_refl _ | omega) (by first | exact Nat.le_of_ble_eq_true rfl | (simp [va_rf_cat]; done) | (simp [va_rf_cat, Value.category]; done)) rfl (fun _ _ h => h.elim) (fun v59 G59 hq => ?_)
                  obtain ⟨w, rfl, rfl, rfl⟩ := hq
                  refine GW.icmp_eq (tgt := 67) dX8_areSame_62 (by decide) (fun h62 => ?_) (fun h62 => ?_)
                  · have hw : wd t = wd u := (mI_eq (by omega) (by omega)).mp h62
                    refine GW.iconst (v := 0) dX8_areSame_67 (by decide) ?_
                    refine GW.istore3 dX8_areSame_68 (g := ?_)
                    have key : ∀ (m j : Nat), j + m = wd t → (∀ i, i < j → (kids t.2.2)[i]? = (kids u.2.2)[i]?) → GW (mX8_areSame (N + 1 + 1) 0 0) Q noX G 0 0 69 [some (va_rf (some a)), some (va_rf (some b)), some (.int (nI l)), some (.int (nI j)), none, none, none, none, none, none, none, none] [] := by
                      have no2 : ∀ j, t ≠ u → GW (mX8_areSame (N + 1 + 1) 0 0) Q noX G 0 0 109 [some (va_rf (some a)), some (va_rf (some b)), some (.int (nI l)), some (.int (nI j)), none, none, none, none, none, none, none, none] [] := by
                        intro j h
                        refine GW.iconst (v := 0) dX8_areSame_109 (by decide) ?_
                        refine GW.ireturn dX8_areSame_110 (Or.inr ⟨rfl, by first | exact Or.inl rfl | exact Or.inr rfl | assumption⟩) (by first | (dsimp only [mX8_areSame, gM.dp, gM.kc, gM.ks]; omega) | exact Nat.le_of_ble_eq_true rfl | exact Nat.le_refl _ | omega) (by first | (dsimp only [mX8_areSame, gM.dp, gM.kc, gM.ks]; omega) | exact Nat.le_of_ble_eq_true rfl | exact Nat.le_refl _ | omega) ?_
                        subst hQ
                        exact ⟨_, rfl, rfl, by rw [bI_f h]⟩
                      intro m
                      induction m with
                      | zero =>
                        intro j hj hall
                        refine GW.iload3 dX8_areSame_69 ?_
                        refine GW.aload0 dX8_areSame_70 (g := ?_)
                        refine GW.callV0 cv_X8_38 mt_X8_width (c_width ha) dX8_areSame_71 (by assumption) rfl rfl rfl rfl (by first | (dsimp only [mX8_areSame, gM.dp, gM.kc, gM.ks]; omega) | exact Nat.le_of_ble_eq_true rfl | exact Nat.le_refl _ | omega) (by decide) (by first | (dsimp only [mX8_areSame, gM.dp, gM.kc, gM.ks]; omega) | exact Nat.le_of_ble_eq_true rfl | exact Nat.le_refl _ | omega) (by first | (dsimp only [mX8_areSame, gM.dp, gM.kc, gM.ks]; omega) | exact Nat.le_of_ble_eq_true rfl | exact Nat.le_refl _ | omega) (by first | exact Nat.le_of_ble_eq_true rfl | (simp [va_rf_cat]; done) | (simp [va_rf_cat, Value.category]; done)) rfl (fun _ _ h => h.elim) (fun v71 G71 hq => ?_)
                        obtain ⟨w, rfl, rfl, rfl⟩ := hq
                        refine GW.icmp_ge (tgt := 117) dX8_areSame_74 (by decide) (fun h74 => ?_) (fun h74 => ?_)
                        · refine GW.iconst (v := 1) dX8_areSame_117 (by decide) ?_
                          refine GW.ireturn dX8_areSame_118 (Or.inr ⟨rfl, by first | exact Or.inl rfl | exact Or.inr rfl | assumption⟩) (by first | (dsimp only [mX8_areSame, gM.dp, gM.kc, gM.ks]; omega) | exact Nat.le_of_ble_eq_true rfl | exact Nat.le_refl _ | omega) (by first | (dsimp only [mX8_areSame, gM.dp, gM.kc, gM.ks]; omega) | exact Nat.le_of_ble_eq_true rfl | exact Nat.le_refl _ | omega) ?_
                          subst hQ
                          refine ⟨_, rfl, rfl, ?_⟩
                          rw [bI_t]
                          refine tr_ext ht hu h29 h40 (List.ext_getElem? fun i => ?_)
                          rcases Nat.lt_or_ge i j with q | q
                          · exact hall i q
                          · unfold wd at hj hw
                            rw [List.getElem?_eq_none (by omega), List.getElem?_eq_none (by omega)]
                        · exact absurd ((mI_le (by omega) (by omega)).mpr (by omega)) h74
                      | succ m ihm =>
                        intro j hj hall
                        refine GW.iload3 dX8_areSame_69 ?_
                        refine GW.aload0 dX8_areSame_70 (g := ?_)
                        refine GW.callV0 cv_X8_38 mt_X8_width (c_width ha) dX8_areSame_71 (by assumption) rfl rfl rfl rfl (by first | (dsimp only [mX8_areSame, gM.dp, gM.kc, gM.ks]; omega) | exact Nat.le_of_ble_eq_true rfl | exact Nat.le_refl _ | omega) (by decide) (by first | (dsimp only [mX8_areSame, gM.dp, gM.kc, gM.ks]; omega) | exact Nat.le_of_ble_eq_true rfl | exact Nat.le_refl _ | omega) (by first | (dsimp only [mX8_areSame, gM.dp, gM.kc, gM.ks]; omega) | exact Nat.le_of_ble_eq_true rfl | exact Nat.le_refl _ | omega) (by first | exact Nat.le_of_ble_eq_true rfl | (simp [va_rf_cat]; done) | (simp [va_rf_cat, Value.category]; done)) rfl (fun _ _ h => h.elim) (fun v71 G71 hq => ?_)
                        obtain ⟨w, rfl, rfl, rfl⟩ := hq
                        refine GW.icmp_ge (tgt := 117) dX8_areSame_74 (by decide) (fun h74 => ?_) (fun h74 => ?_)
                        · exact absurd ((mI_le (by omega) (by omega)).mp h74) (by omega)
                        · obtain ⟨x, hx⟩ : ∃ x, (kids t.2.2)[j]? = some x := ⟨_, List.getElem?_eq_getElem (by unfold wd at hj; omega)⟩
                          obtain ⟨y, hy⟩ : ∃ y, (kids u.2.2)[j]? = some y := ⟨_, List.getElem?_eq_getElem (by unfold wd at hj hw; omega)⟩
                          refine GW.aload0 dX8_areSame_77 (g := ?_)
                          refine GW.iload3 dX8_areSame_78 ?_
                          refine GW.callV0 cv_X8_53 mt_X8_stepOf (c_stepOf ha hst (nI j)) dX8_areSame_79 (by assumption) rfl rfl rfl rfl (by first | (dsimp only [mX8_areSame, gM.dp, gM.kc, gM.ks]; omega) | exact Nat.le_of_ble_eq_true rfl | exact Nat.le_refl _ | omega) (by decide) (by first | (dsimp only [mX8_areSame, gM.dp, gM.kc, gM.ks]; omega) | exact Nat.le_of_ble_eq_true rfl | exact Nat.le_refl _ | omega) (by first | (dsimp only [mX8_areSame, gM.dp, gM.kc, gM.ks]; omega) | exact Nat.le_of_ble_eq_true rfl | exact Nat.le_refl _ | omega) (by first | exact Nat.le_of_ble_eq_true rfl | (simp [va_rf_cat]; done) | (simp [va_rf_cat, Value.category]; done)) rfl (fun _ _ h => h.elim) (fun v79 G79 hq => ?_)
                          obtain ⟨w, rfl, rfl, rfl⟩ := hq
                          refine GW.aload1 dX8_areSame_82 (g := ?_)
                          refine GW.iload3 dX8_areSame_83 ?_
                          refine GW.callV0 cv_X8_53 mt_X8_stepOf (c_stepOf hb hsu (nI j)) dX8_areSame_84 (by assumption) rfl rfl rfl rfl (by first | (dsimp only [mX8_areSame, gM.dp, gM.kc, gM.ks]; omega) | exact Nat.le_of_ble_eq_true rfl | exact Nat.le_refl _ | omega) (by decide) (by first | (dsimp only [mX8_areSame, gM.dp, gM.kc, gM.ks]; omega) | exact Nat.le_of_ble_eq_true rfl | exact Nat.le_refl _ | omega) (by first | (dsimp only [mX8_areSame, gM.dp, gM.kc, gM.ks]; omega) | exact Nat.le_of_ble_eq_true rfl | exact Nat.le_refl _ | omega) (by first | exact Nat.le_of_ble_eq_true rfl | (simp [va_rf_cat]; done) | (simp [va_rf_cat, Value.category]; done)) rfl (fun _ _ h => h.elim) (fun v84 G84 hq => ?_)
                          obtain ⟨w, rfl, rfl, rfl⟩ := hq
                          rw [stepT_mI (by omega) hx, stepT_mI (by omega) hy]
                          have hmx := List.mem_of_getElem? hx
                          have hmy := List.mem_of_getElem? hy
                          refine GW.icmp_ne (tgt := 109) dX8_areSame_87 (by decide) (fun h87 => ?_) (fun h87 => ?_)
                          · refine no2 j fun h => h87 ?_
                            subst h
                            rw [hx] at hy
                            cases hy
                            rfl
                          · have hkey : x.1 = y.1 := by
                              by_cases h4 : t.1 = 4
                              · rw [if_pos h4, if_pos (by rw [← h29]; exact h4)] at h87
                                exact h87
                              · rw [ht.1.2.2.2.1 h4 x hmx, hu.1.2.2.2.1 (by rw [← h29]; exact h4) y hmy]
                            refine GW.aload0 dX8_areSame_90 (g := ?_)
                            refine GW.iload3 dX8_areSame_91 ?_
                            refine GW.callV0 cv_X8_46 mt_X8_partAt (c_partAt ha hst (nI j)) dX8_areSame_92 (by assumption) rfl rfl rfl rfl (by first | (dsimp only [mX8_areSame, gM.dp, gM.kc, gM.ks]; omega) | exact Nat.le_of_ble_eq_true rfl | exact Nat.le_refl _ | omega) (by decide) (by first | (dsimp only [mX8_areSame, gM.dp, gM.kc, gM.ks]; omega) | exact Nat.le_of_ble_eq_true rfl | exact Nat.le_refl _ | omega) (by first | (dsimp only [mX8_areSame, gM.dp, gM.kc, gM.ks]; omega) | exact Nat.le_of_ble_eq_true rfl | exact Nat.le_refl _ | omega) (by first | exact Nat.le_of_ble_eq_true rfl | (simp [va_rf_cat]; done) | (simp [va_rf_cat, Value.category]; done)) rfl (fun _ _ h => h.elim) (fun v92 G92 hq => ?_)
                            obtain ⟨r1, rfl, rfl, hq1⟩ := hq
                            rw [partT_mI (by omega), kid_some hx] at hq1
                            refine GW.aload1 dX8_areSame_95 (g := ?_)
                            refine GW.iload3 dX8_areSame_96 ?_
                            refine GW.callV0 cv_X8_46 mt_X8_partAt (c_partAt hb hsu (nI j)) dX8_areSame_97 (by assumption) rfl rfl rfl rfl (by first | (dsimp only [mX8_areSame, gM.dp, gM.kc, gM.ks]; omega) | exact Nat.le_of_ble_eq_true rfl | exact Nat.le_refl _ | omega) (by decide) (by first | (dsimp only [mX8_areSame, gM.dp, gM.kc, gM.ks]; omega) | exact Nat.le_of_ble_eq_true rfl | exact Nat.le_refl _ | omega) (by first | (dsimp only [mX8_areSame, gM.dp, gM.kc, gM.ks]; omega) | exact Nat.le_of_ble_eq_true rfl | exact Nat.le_refl _ | omega) (by first | exact Nat.le_of_ble_eq_true rfl | (simp [va_rf_cat]; done) | (simp [va_rf_cat, Value.category]; done)) rfl (fun _ _ h => h.elim) (fun v97 G97 hq => ?_)
                            obtain ⟨r2, rfl, rfl, hq2⟩ := hq
                            rw [partT_mI (by omega), kid_some hy] at hq2
                            cases r1 with
                            | none => exact hq1.elim
                            | some b1 =>
                              cases r2 with
                              | none => exact hq2.elim
                              | some b2 =>
                                have hq1 : isV G.1 b1 x.2 := hq1
                                have hq2 : isV G.1 b2 y.2 := hq2
                                refine GW.iload2 dX8_areSame_100 ?_
                                refine GW.iconst (v := 1) dX8_areSame_101 (by decide) ?_
                                refine GW.iadd dX8_areSame_102 ?_
                                rw [mI_succ]
                                refine GW.callS0 cs_X8_56 mt_X8_areSame (ih (l := l + 1) hq1 hq2 (ht.2.kid x hmx) (hu.2.kid y hmy) (hst.kid (kid_some hx)) (hsu.kid (kid_some hy)) (by have := kid_dp hmx; omega) (by omega)) dX8_areSame_103 rfl rfl (by first | (dsimp only [mX8_areSame, gM.dp, gM.kc, gM.ks]; omega) | exact Nat.le_of_ble_eq_true rfl | exact Nat.le_refl _ | omega) (by decide) (by first | (dsimp only [mX8_areSame, gM.dp, gM.kc, gM.ks]; omega) | exact Nat.le_of_ble_eq_true rfl | exact Nat.le_refl _ | omega) (by first | (dsimp only [mX8_areSame, gM.dp, gM.kc, gM.ks]; omega) | exact Nat.le_of_ble_eq_true rfl | exact Nat.le_refl _ | omega) (by first | exact Nat.le_of_ble_eq_true rfl | (simp [va_rf_cat]; done) | (simp [va_rf_cat, Value.category]; done)) rfl (fun _ _ h => h.elim) (fun v103 G103 hq => ?_)
                                obtain ⟨w, rfl, rfl, rfl⟩ := hq
                                refine GW.if_ne (tgt := 111) dX8_areSame_106 (by decide) (fun h106 => ?_) (fun h106 => ?_)
                                · have hxy : x.2 = y.2 := by
                                    by_cases h : x.2 = y.2
                                    · exact h
                                    · exact absurd (bI_f h) h106
                                  refine GW.inc3 dX8_areSame_111 (g := ?_)
                                  refine GW.goto (tgt := 69) dX8_areSame_114 (by decide) ?_
                                  rw [mI_succ]
                                  refine ihm (j + 1) (by omega) fun i hi => ?_
                                  rcases Nat.lt_or_ge i j with q | q
                                  · exact hall i q
                                  · have : i = j := by omega
                                    subst this
                                    rw [hx, hy]
                                    exact congrArg some (Prod.ext hkey hxy)
                                · refine no2 j fun h => ?_
                                  subst h
                                  rw [hx] at hy
                                  cases hy
                                  have h1 := bI_t (p := x.2 = x.2) rfl
                                  have h106 : bI (x.2 = x.2) = 0 := h106
                                  rw [h1] at h106
                                  exact absurd h106 (by decide)
                    exact key (wd t) 0 (by omega) (fun i hi => absurd hi (Nat.not_lt_zero _))
                  · refine no fun h => h62 (by rw [h])
    · cases h2
      refine GW.iconst (v := 1) dX8_areSame_5 (by decide) ?_
      refine GW.ireturn dX8_areSame_6 (Or.inr ⟨rfl, by first | exact Or.inl rfl | exact Or.inr rfl | assumption⟩) (by first | (dsimp only [mX8_areSame, gM.dp, gM.kc, gM.ks]; omega) | exact Nat.le_of_ble_eq_true rfl | exact Nat.le_refl _ | omega) (by first | (dsimp only [mX8_areSame, gM.dp, gM.kc, gM.ks]; omega) | exact Nat.le_of_ble_eq_true rfl | exact Nat.le_refl _ | omega) ?_
      subst hQ
      exact ⟨_, rfl, rfl, by rw [bI_t (isV_inj _ t u _ (Nat.le_refl _) ht hu ha hb)]⟩
abbrev mX8_isSameAs (d kc ks : Nat) : gM := (RX8, cX8_isSameAs, 2, (some .boolean), [], "isSameAs", d, kc, ks)
abbrev kX8_isSameAs (d kc ks : Nat) (as : List Value) (G : gG) (Q : Option Value → gG → Prop) (X : String → gG → Prop) : Prop := Ctr yX8_isSameAs cX8_isSameAs 2 (some .boolean) d kc ks as G Q X
theorem oX8_isSameAs {d kc ks : Nat} {as : List Value} {G : gG} {Q : Option Value → gG → Prop} {X : String → gG → Prop} {L : List (Option Value)} (hL : gEnt as = L) (hlen : (lg_sl as).length ≤ 2) (g : GW (mX8_isSameAs d kc ks) Q X G 0 0 0 L []) : kX8_isSameAs d kc ks as G Q X := Ctr.of (by decide +kernel) rfl rfl hL hlen g
theorem c_isSameAs {G : gG} {a b : Nat} {t u : Tr} (ha : isV G.1 a t) (hb : isV G.1 b u) (ht : wfT t) (hu : wfT u) (hst : sml t) (hsu : sml u) (hd : dpT t ≤ 20) : kX8_isSameAs 22 0 0 [.ref a, .ref b] G (ans G (fun w => w = .int (bI (t = u)))) noX := by
  refine oX8_isSameAs (L := [some (.ref a), some (.ref b), none, none, none, none, none, none, none, none, none, none]) rfl (Nat.le_of_ble_eq_true rfl) ?_
  refine GW.aload0 dX8_isSameAs_0 (g := ?_)
  refine GW.aload1 dX8_isSameAs_1 (g := ?_)
  refine GW.iconst (v := 0) dX8_isSameAs_2 (by decide) ?_
  refine GW.callS0 cs_X8_56 mt_X8_areSame (c_areSame 20 (l := 0) ha hb ht hu hst hsu hd (by omega)) dX8_isSameAs_3 rfl rfl (by first | (dsimp only [mX8_isSameAs, gM.dp, gM.kc, gM.ks]; omega) | exact Nat.le_of_ble_eq_true rfl | exact Nat.le_refl _ | omega) (by decide) (by first | (dsimp only [mX8_isSameAs, gM.dp, gM.kc, gM.ks]; omega) | exact Nat.le_of_ble_eq_true rfl | exact Nat.le_refl _ | omega) (by first | (dsimp only [mX8_isSameAs, gM.dp, gM.kc, gM.ks]; omega) | exact Nat.le_of_ble_eq_true rfl | exact Nat.le_refl _ | omega) (by first | exact Nat.le_of_ble_eq_true rfl | (simp [va_rf_cat]; done) | (simp [va_rf_cat, Value.category]; done)) rfl (fun _ _ h => h.elim) (fun v3 G3 hq => ?_)
  obtain ⟨w, rfl, rfl, rfl⟩ := hq
  have h01 := bI_01 (t = u)
  refine GW.ireturn dX8_isSameAs_6 (Or.inr ⟨rfl, by first | exact Or.inl rfl | exact Or.inr rfl | assumption⟩) (by first | (dsimp only [mX8_isSameAs, gM.dp, gM.kc, gM.ks]; omega) | exact Nat.le_of_ble_eq_true rfl | exact Nat.le_refl _ | omega) (by first | (dsimp only [mX8_isSameAs, gM.dp, gM.kc, gM.ks]; omega) | exact Nat.le_of_ble_eq_true rfl | exact Nat.le_refl _ | omega) ?_
  exact ⟨_, rfl, rfl, rfl⟩
