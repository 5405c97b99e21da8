/-! making VALUES: rows for what is being made (roles 900: children, 901: keys, 902: the object), the constructor -/
theorem fitq (ty : FieldType) (r : Option Nat) (h : ty.isReference = true) : narrow ty (va_rf r) = va_rf r ∧ fits ty (va_rf r) = true := by
  cases ty <;> cases r <;> first | (cases h; done) | exact ⟨rfl, rfl⟩
theorem mI_sz {n : Nat} (h : n ≤ 2097152) : ¬ nI n < 0 ∧ (nI n).toNatClampNeg = n ∧ n ≤ 2097152 := ⟨mI_nonneg (by omega), mI_clamp (by omega), h⟩
theorem gS_gS (G : gG) (r : Nat) (c c' : gC) : gS (gS G r c) r c' = gS G r c' := by
  unfold gS
  refine Prod.ext rfl (Prod.ext rfl (funext fun q => ?_))
  by_cases h : q = r <;> simp [h]
/-- a look that a write to the role r doesn't reach -/
def gLx (G : gG) (r : Nat) (a : Nat) (c : gC) : Prop := G.1 a = some c ∨ ∃ q, q ≠ r ∧ G.2.1 q = a ∧ G.2.2 q = some c
theorem gLx.l {G : gG} {r a : Nat} {c : gC} (h : gLx G r a c) : gL G a c := by
  rcases h with h | ⟨q, -, h1, h2⟩
  · exact Or.inl h
  · exact Or.inr ⟨q, h1, h2⟩
theorem gLx.s {G : gG} {r a : Nat} {c c' : gC} (h : gLx G r a c) : gL (gS G r c') a c := by
  rcases h with h | ⟨q, h0, h1, h2⟩
  · exact Or.inl h
  · exact Or.inr ⟨q, h1, by simpa [gS, h0] using h2⟩
section GWN
variable {M : gM} {Q : Option Value → gG → Prop} {X : String → gG → Prop} {k n pc : Nat} {L : List (Option Value)} {st : List Value}
/-- what is finished never changes any more -/
theorem GW.frz {G : gG} {c : gC} (r : Nat) (hr : G.2.2 r = some c) (g : ∀ im', gLe G.1 im' → im' (G.2.1 r) = some c → GW M Q X (im', G.2.1, fun q => if q = r then none else G.2.2 q) k n pc L st) : GW M Q X G k n pc L st := by
  intro p l e R s m args below meth c' D dA b0 hX H locs ls hG hS hL
  have h0 := hG.2.1 r c hr
  refine g (gF G r).1 (fun a ca ha => ?_) ?_ p l e R s m args below meth c' D dA b0 hX H locs ls (hG.freeze hr) hS hL
  · show (if a = G.2.1 r then G.2.2 r else G.1 a) = some ca
    rw [if_neg]
    · exact ha
    · intro e
      rw [e, h0] at ha
      cases ha
  · show (if G.2.1 r = G.2.1 r then G.2.2 r else _) = some c
    rw [if_pos rfl]
    exact hr
/-- the roles as they were -/
theorem GW.back {G : gG} (ad : Nat → Nat) (mc : Nat → Option gC) (hm : ∀ q, G.2.2 q = mc q) (ha : ∀ q c, mc q = some c → ad q = G.2.1 q) (g : GW M Q X (G.1, ad, mc) k n pc L st) : GW M Q X G k n pc L st := by
  refine g.ghost fun D dA b0 H h => ?_
  have hmc : mc = G.2.2 := funext fun q => (hm q).symm
  subst hmc
  exact h.readdr ha
end GWN
def szL (xs : List (Int32 × Tr)) : Nat := (xs.map (fun x => szT x.2)).sum
def dpL : List (Int32 × Tr) → Nat
  | [] => 0
  | x :: xs => max (dpT x.2) (dpL xs)
theorem szF_of (xs : List (Int32 × Tr)) : szF (ofKids xs) = szL xs := by rw [szF_kids, kids_of]; rfl
theorem dpF_of : ∀ xs : List (Int32 × Tr), dpF (ofKids xs) = dpL xs
  | [] => rfl
  | x :: xs => by rw [ofKids, dpF, dpF_of xs, dpL]; rfl
theorem szL_drop {xs : List (Int32 × Tr)} {j : Nat} {x : Int32 × Tr} (h : xs[j]? = some x) : szL (xs.drop j) = szT x.2 + szL (xs.drop (j + 1)) := by
  have hl : j < xs.length := (List.getElem?_eq_some_iff.mp h).1
  rw [List.drop_eq_getElem_cons hl, (List.getElem?_eq_some_iff.mp h).2]
  simp [szL]
theorem dpL_drop {xs : List (Int32 × Tr)} {j : Nat} {x : Int32 × Tr} (h : xs[j]? = some x) : dpL (xs.drop j) = max (dpT x.2) (dpL (xs.drop (j + 1))) := by
  have hl : j < xs.length := (List.getElem?_eq_some_iff.mp h).1
  rw [List.drop_eq_getElem_cons hl, (List.getElem?_eq_some_iff.mp h).2]
  rfl
theorem dp_le_sz : ∀ f : Fo, dpF f ≤ szF f
  | .leaf => Nat.le_refl _
  | .inner z k _ ch rest => by
    have h1 := dp_le_sz ch
    have h2 := dp_le_sz rest
    simp only [dpF, szF]
    omega
theorem dpT_le (t : Tr) : dpT t ≤ szT t := by
  have := dp_le_sz t.2.2
  unfold dpT szT; omega
theorem szL_mem {xs : List (Int32 × Tr)} {x : Int32 × Tr} (h : x ∈ xs) : szT x.2 ≤ szL xs := by
  have := kids_lt (ofKids xs) x (by rw [kids_of]; exact h)
  rw [szF_of] at this
  exact this
theorem dpL_le (xs : List (Int32 × Tr)) : dpL xs ≤ szL xs := by rw [← dpF_of, ← szF_of]; exact dp_le_sz _
theorem len_szL (xs : List (Int32 × Tr)) : xs.length ≤ szL xs := by
  have := kids_len (ofKids xs)
  rwa [kids_of, szF_of] at this
theorem ofNat_nI (n : Nat) : Int32.ofNat n = nI n := rfl
abbrev mX8_init (d kc ks : Nat) : gM := (RX8, cX8_init, 11, none, [], "<init>", d, kc, ks)
abbrev kX8_init (d kc ks : Nat) (as : List Value) (G : gG) (Q : Option Value → gG → Prop) (X : String → gG → Prop) : Prop := Ctr yX8_init cX8_init 11 none d kc ks as G Q X
theorem oX8_init {d kc ks : Nat} {as : List Value} {G : gG} {Q : Option Value → gG → Prop} {X : String → gG → Prop} {L : List (Option Value)} (hL : gEnt as = L) (hlen : (lg_sl as).length ≤ 11) (g : GW (mX8_init d kc ks) Q X G 0 0 0 L []) : kX8_init d kc ks as G Q X := Ctr.of (by decide +kernel) rfl rfl hL hlen g
/-- the parts of a VALUE that is being made -/
def partsX (G : gG) (pr : Option Nat) (xs : List (Int32 × Tr)) : Prop := match pr with
  | none => xs = []
  | some pa => ∃ r', gLx G 902 pa (.inr (1, xs.length, .inr r')) ∧ ∀ (j : Nat) (x : Int32 × Tr), xs[j]? = some x → ∃ b, r' j = some b ∧ isV G.1 b x.2
theorem c_Value {G : gG} {a : Nat} {fs : List Value} {kind num : Int32} {kr pr : Option Nat} {xs : List (Int32 × Tr)} (hr : G.2.2 902 = some (.inl (8, [.int 0, .int 0, .null, .null, .int 0, .int 0]))) (ha : G.2.1 902 = a) (hp : partsX G pr xs) (hsz : szL xs < 2 ^ 20) :
    kX8_init 1 0 0 [.ref a, .int kind, .int num, va_rf kr, va_rf pr] G (fun v G' => v = none ∧ gS G 902 (.inl (8, [.int kind, .int num, va_rf kr, va_rf pr, .int (nI (1 + szL xs)), .int (nI (1 + dpL xs))])) = G') noX := by
  refine oX8_init (L := [some (.ref a), some (.int kind), some (.int num), some (va_rf kr), some (va_rf pr), none, none, none, none, none, none, none]) (by cases kr <;> cases pr <;> rfl) (by cases kr <;> cases pr <;> exact Nat.le_of_ble_eq_true rfl) ?_
  generalize hQ : (fun (v : Option Value) (G' : gG) => v = none ∧ gS G 902 (.inl (8, [.int kind, .int num, va_rf kr, va_rf pr, .int (nI (1 + szL xs)), .int (nI (1 + dpL xs))])) = G') = Q
  refine GW.aload0 dX8_init_0 (g := ?_)
  refine GW.objInit oi_X8_3 oi_i oi_c dX8_init_1 (by first | exact Nat.le_of_ble_eq_true rfl | omega) (Nat.le_of_ble_eq_true rfl) ?_
  refine GW.aload0 dX8_init_4 (g := ?_)
  refine GW.iload1 dX8_init_5 ?_
  refine GW.putf (r := 902) fl_X8_9 dX8_init_6 (by first | rfl | assumption) (Nat.le_of_ble_eq_true rfl) (by first | exact ⟨rfl, rfl⟩ | exact fitq _ _ rfl) (by first | exact Or.inl rfl | exact Or.inr ⟨rfl, rfl⟩) (by first | rfl | assumption) ?_
  refine GW.aload0 dX8_init_9 (g := ?_)
  refine GW.iload2 dX8_init_10 ?_
  refine GW.putf (r := 902) fl_X8_15 dX8_init_11 (by first | rfl | assumption) (Nat.le_of_ble_eq_true rfl) (by first | exact ⟨rfl, rfl⟩ | exact fitq _ _ rfl) (by first | exact Or.inl rfl | exact Or.inr ⟨rfl, rfl⟩) (by first | rfl | assumption) ?_
  refine GW.aload0 dX8_init_14 (g := ?_)
  refine GW.aload3 dX8_init_15 (g := ?_)
  refine GW.putf (r := 902) fl_X8_18 dX8_init_16 (by first | rfl | assumption) (Nat.le_of_ble_eq_true rfl) (by first | exact ⟨rfl, rfl⟩ | exact fitq _ _ rfl) (by first | exact Or.inl rfl | exact Or.inr ⟨rfl, rfl⟩) (by first | rfl | assumption) ?_
  refine GW.aload0 dX8_init_19 (g := ?_)
  refine GW.aload4 dX8_init_20 (g := ?_)
  refine GW.putf (r := 902) fl_X8_22 dX8_init_22 (by first | rfl | assumption) (Nat.le_of_ble_eq_true rfl) (by first | exact ⟨rfl, rfl⟩ | exact fitq _ _ rfl) (by first | exact Or.inl rfl | exact Or.inr ⟨rfl, rfl⟩) (by first | rfl | assumption) ?_
  simp only [gS_gS]
  have hG1 : ∀ c, gS G 902 c = gS G 902 c := fun _ => rfl
  generalize hgc : gS G 902 _ = G1
  have hgc : gS G 902 (.inl (8, [.int kind, .int num, va_rf kr, va_rf pr, .int 0, .int 0])) = G1 := hgc
  have hr1 : G1.2.2 902 = some (.inl (8, [.int kind, .int num, va_rf kr, va_rf pr, .int 0, .int 0])) := by rw [← hgc]; rfl
  have ha1 : G1.2.1 902 = a := by rw [← hgc]; exact ha
  have hi1 : G1.1 = G.1 := by rw [← hgc]; rfl
  refine GW.iconst (v := 1) dX8_init_25 (by decide) ?_
  refine GW.istore5 dX8_init_26 (g := ?_)
  refine GW.iconst (v := 0) dX8_init_28 (by decide) ?_
  refine GW.istore6 dX8_init_29 (g := ?_)
  refine GW.aload4 dX8_init_31 (g := ?_)
  have fin : ∀ (s m : Nat) (l7 l8 l9 l10 : Option Value), s = 1 + szL xs → m = dpL xs → GW (mX8_init 1 0 0) Q noX G1 0 0 95 [some (.ref a), some (.int kind), some (.int num), some (va_rf kr), some (va_rf pr), some (.int (nI s)), some (.int (nI m)), l7, l8, l9, l10, none] [] := by
    intro s m l7 l8 l9 l10 hs hm
    refine GW.aload0 dX8_init_95 (g := ?_)
    refine GW.iload5 dX8_init_96 ?_
    refine GW.putf (r := 902) fl_X8_26 dX8_init_98 (by first | rfl | assumption) (Nat.le_of_ble_eq_true rfl) (by first | exact ⟨rfl, rfl⟩ | exact fitq _ _ rfl) (by first | exact Or.inl rfl | exact Or.inr ⟨rfl, rfl⟩) (by first | rfl | assumption) ?_
    refine GW.aload0 dX8_init_101 (g := ?_)
    refine GW.iload6 dX8_init_102 ?_
    refine GW.iconst (v := 1) dX8_init_104 (by decide) ?_
    refine GW.iadd dX8_init_105 ?_
    refine GW.putf (r := 902) fl_X8_29 dX8_init_106 (by first | rfl | assumption) (Nat.le_of_ble_eq_true rfl) (by first | exact ⟨rfl, rfl⟩ | exact fitq _ _ rfl) (by first | exact Or.inl rfl | exact Or.inr ⟨rfl, rfl⟩) (by first | rfl | assumption) ?_
    rw [gS_gS, ← hgc, gS_gS]
    refine GW.vreturn dX8_init_109 rfl (by first | (dsimp only [mX8_init, gM.dp, gM.kc, gM.ks]; omega) | exact Nat.le_of_ble_eq_true rfl | exact Nat.le_refl _ | omega) (by first | (dsimp only [mX8_init, gM.dp, gM.kc, gM.ks]; omega) | exact Nat.le_of_ble_eq_true rfl | exact Nat.le_refl _ | omega) ?_
    subst hQ hs hm
    refine ⟨rfl, ?_⟩
    rw [Nat.add_comm 1 (dpL xs), ← mI_succ]
    rfl
  refine GW.ifnull (tgt := 95) dX8_init_33 (by decide) (fun h33 => ?_) (fun r33 h33 => ?_)
  · subst h33
    have hx : xs = [] := hp
    subst hx
    exact fin 1 0 none none none none rfl rfl
  · subst h33
    obtain ⟨r', hx, hk⟩ := hp
    have hpa : gL G1 r33 (.inr (1, xs.length, .inr r')) := by rw [← hgc]; exact hx.s
    have hlen := len_szL xs
    refine GW.aload4 dX8_init_36 (g := ?_)
    refine GW.astore7 dX8_init_38 (g := ?_)
    refine GW.aload7 dX8_init_40 (g := ?_)
    refine GW.alen dX8_init_42 (by assumption) (by decide) rfl ?_
    refine GW.istore8 dX8_init_43 (g := ?_)
    refine GW.iconst (v := 0) dX8_init_45 (by decide) ?_
    refine GW.istore9 dX8_init_46 (g := ?_)
    have key : ∀ (mm j s m : Nat) (l10 : Option Value), (∀ w, l10 = some w → w.category ≠ 2) → j + mm = xs.length → s + szL (xs.drop j) = 1 + szL xs → max m (dpL (xs.drop j)) = dpL xs → GW (mX8_init 1 0 0) Q noX G1 0 0 48 [some (.ref a), some (.int kind), some (.int num), some (va_rf kr), some (va_rf (some r33)), some (.int (nI s)), some (.int (nI m)), some (.ref r33), some (.int (nI xs.length)), some (.int (nI j)), l10, none] [] := by
      intro mm
      induction mm with
      | zero =>
        intro j s m l10 h10 hj hs hm
        have hd : xs.drop j = [] := List.drop_eq_nil_of_le (by omega)
        rw [hd] at hs hm
        refine GW.iload9 dX8_init_48 ?_
        refine GW.iload8 dX8_init_50 ?_
        refine GW.icmp_ge (tgt := 95) dX8_init_52 (by decide) (fun h52 => ?_) (fun h52 => ?_)
        · exact fin s m _ _ _ _ (by simpa [szL] using hs) (by simpa [dpL] using hm)
        · exact absurd ((mI_le (by omega) (by omega)).mpr (by omega)) h52
      | succ mm ih =>
        intro j s m l10 h10 hj hs hm
        obtain ⟨x, hx2⟩ : ∃ x, xs[j]? = some x := ⟨_, List.getElem?_eq_getElem (by omega)⟩
        rw [szL_drop hx2] at hs
        rw [dpL_drop hx2] at hm
        obtain ⟨b, hb1, hb2⟩ := hk j x hx2
        have hix : gIx (nI j) j xs.length := mI_ix (by omega) (by omega)
        refine GW.iload9 dX8_init_48 ?_
        refine GW.iload8 dX8_init_50 ?_
        refine GW.icmp_ge (tgt := 95) dX8_init_52 (by decide) (fun h52 => ?_) (fun h52 => ?_)
        · exact absurd ((mI_le (by omega) (by omega)).mp h52) (by omega)
        · refine GW.aload7 dX8_init_55 (g := ?_)
          refine GW.iload9 dX8_init_57 ?_
          refine GW.aald dX8_init_59 (by assumption) (by assumption) (by decide) ?_
          refine GW.astore10 dX8_init_60 (g := ?_)
          refine GW.aload10 dX8_init_62 (g := ?_)
          rw [hb1]
          obtain ⟨kr', pr', hn, -, -⟩ := hb2.node
          have hn : gL G1 b (.inl (8, _)) := Or.inl (by rw [hi1]; exact hn)
          refine GW.ifnull (tgt := 89) dX8_init_64 (by decide) (fun h64 => ?_) (fun r64 h64 => ?_)
          · cases h64
          · cases h64
            refine GW.iload5 dX8_init_67 ?_
            refine GW.aload10 dX8_init_69 (g := ?_)
            refine GW.getf fl_X8_26 dX8_init_71 (by assumption) (by rfl) ?_
            refine GW.iadd dX8_init_74 ?_
            refine GW.istore5 dX8_init_75 (g := ?_)
            refine GW.iload6 dX8_init_77 ?_
            refine GW.aload10 dX8_init_79 (g := ?_)
            refine GW.getf fl_X8_29 dX8_init_81 (by assumption) (by rfl) ?_
            refine GW.mmax cs_X8_32 dX8_init_84 max_w m_ini (by first | exact Nat.le_of_ble_eq_true rfl | omega) (by first | (dsimp only [mX8_init, gM.dp, gM.kc, gM.ks]; omega) | exact Nat.le_of_ble_eq_true rfl | omega) (by first | (dsimp only [mX8_init, gM.dp, gM.kc, gM.ks]; omega) | exact Nat.le_of_ble_eq_true rfl | omega) (by first | exact Nat.le_of_ble_eq_true rfl | (simp [va_rf_cat]; done)) ?_
            refine GW.istore6 dX8_init_87 (g := ?_)
            refine GW.inc9 dX8_init_89 (g := ?_)
            refine GW.goto (tgt := 48) dX8_init_92 (by decide) ?_
            rw [mI_succ, mI_add]
            have hmx : (if nI m < nI (dpT x.2) then nI (dpT x.2) else nI m) = nI (max m (dpT x.2)) := by
              have h1 := dpT_le x.2
              have h2 := szL_mem (List.mem_of_getElem? hx2)
              have h3 := dpL_le xs
              by_cases hc : m < dpT x.2
              · rw [if_pos ((mI_lt (by omega) (by omega)).mpr hc)]; congr 1; omega
              · rw [if_neg fun q => hc ((mI_lt (by omega) (by omega)).mp q)]; congr 1; omega
            rw [hmx]
            exact ih (j + 1) (s + szT x.2) (max m (dpT x.2)) _ (fun w hw => by cases hw; rw [show (va_rf (some b)).category = 1 from rfl]; decide) (by omega) (by omega) (by omega)
    exact key xs.length 0 1 0 none (fun w hw => by cases hw) (by omega) (by rw [List.drop_zero]) (by rw [List.drop_zero]; omega)
