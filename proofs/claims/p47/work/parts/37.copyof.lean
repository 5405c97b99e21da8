/-! THE JDK: Arrays.copyOf over ints; Long.bitCount -/
theorem w_865 : Cond.methodLink RJ7 316 ⟨"[I", "clone", "()Ljava/lang/Object;"⟩ ∈ gW := gW_in 865 (by decide +kernel) (by decide +kernel)
theorem w_866 : Cond.sameMethod "[I" "java/lang/Object" "clone" "()Ljava/lang/Object;" ∈ gW := gW_in 866 (by decide +kernel) (by decide +kernel)
theorem w_867 : Cond.native ⟨"java/lang/Object", "clone", "()Ljava/lang/Object;"⟩ ∈ gW := gW_in 867 (by decide +kernel) (by decide +kernel)
theorem w_868 : Cond.instanceMethod ⟨"java/lang/Object", "clone", "()Ljava/lang/Object;"⟩ ∈ gW := gW_in 868 (by decide +kernel) (by decide +kernel)
theorem w_869 : Cond.selects "[I" ⟨"[I", "clone", "()Ljava/lang/Object;"⟩ ⟨"java/lang/Object", "clone", "()Ljava/lang/Object;"⟩ ∈ gW := gW_in 869 (by decide +kernel) (by decide +kernel)
theorem w_870 : Cond.castable "[I" "java/lang/Cloneable" ∈ gNk := List.mem_filter.mpr ⟨List.mem_of_getElem? (i := 870) (by decide +kernel), rfl⟩
theorem w_871 : Cond.classLink RJ7 317 "[I" ∈ gW := gW_in 871 (by decide +kernel) (by decide +kernel)
theorem w_872 : Cond.methodLink RJ7 304 Lib.Math.min.name ∈ gW := gW_in 872 (by decide +kernel) (by decide +kernel)
theorem w_min : Cond.static Lib.Math.min.name ∈ gW := cs_X9_31.2
theorem w_873 : Cond.methodLink RJ7 150 arraycopyName ∈ gW := gW_in 873 (by decide +kernel) (by decide +kernel)
theorem w_874 : Cond.static arraycopyName ∈ gW := gW_in 874 (by decide +kernel) (by decide +kernel)
theorem w_875 : Cond.native arraycopyName ∈ gW := gW_in 875 (by decide +kernel) (by decide +kernel)
theorem w_56 : Cond.initialized "java/lang/System" ∈ gW := gW_in 56 (by decide +kernel) (by decide +kernel)
section GWJ
variable {M : gM} {Q : Option Value → gG → Prop} {X : String → gG → Prop} {G : gG} {k n pc : Nat} {L : List (Option Value)} {st : List Value}
theorem GW.clone {N : Nat} {f : Nat → Int32} {a : Nat} (r : Nat) (hownM : M.own = RJ7) (hd : decode M.cc pc = .ok (.invokevirtual 316, 3)) (hl : gL G a (.inr (0, N, .inl f))) (hr : G.2.2 r = none) (hdp : 1 ≤ M.dp) (hk : k + 1 ≤ M.kc) (hn : n + N ≤ M.ks) (hc : (st.map fun v => v.category).sum ≤ 8)
    (g : ∀ q, GW M Q X (gN G r q (.inr (0, N, .inl f))) (k + 1) (n + N) (pc + 3) L (.ref q :: st)) : GW M Q X G k n pc L (.ref a :: st) := by
  intro p l e R s m args below meth c D dA b0 hX H locs ls hG hS hL
  obtain ⟨hx, hb, hml, hown, hts, hA, -, -, -, hR, -, -, hb0⟩ := id hX
  have hK := hA.1
  rw [hownM] at hown
  have hcell : H[a]? = some (vp_cell (dA 0) (N, .inl f)) := (hG.1 a _ hl).2
  have hnm : s.vm.findClass "[I" = some (dA 0) := va_nm_int (hK.2 0 (dA 0, .int) rfl).2
  have hsz : (vp_cell (dA 0) (N, .inl f)).slots.size = N := arrV_size _ _ _
  obtain ⟨c0, t0', f1, f2, f3⟩ := Cond.castable_spec (va_Nw.use (A := args) rfl (hA.2.2.2.1 _ w_870))
  cases hnm.symm.trans f1
  intro T hT XX
  have hcellT : T.heap[a]? = some (vp_cell (dA 0) (N, .inl f)) := by rw [hT]; exact hcell
  obtain ⟨-, kA, hkA, comp, hkind⟩ := State.isArrayOf_alike XX.warmed.alike ((hK.2 0 (dA 0, .int) rfl).1 0 (fun _ => .null))
  obtain ⟨-, kS, hkS, compS, hkindS⟩ := (hK.2 0 (dA 0, .int) rfl).1 0 (fun _ => .null)
  obtain ⟨vm', X', step⟩ := XX.cloneArray hx hown (hts _ w_865) (hts _ w_866) (hts _ w_867) (hts _ w_868) (hts _ w_869) (a := a) (cell := vp_cell (dA 0) (N, .inl f)) hcellT (fun k h => by cases h) (fun h => by cases h) hnm f2 f3
    (fun i v hv => by
      have hk' : T.vm.classes[dA 0]? = some kA := hkA
      have hv : (arrV (dA 0) N (fun j => Value.int (f j))).slots[i]? = some v := hv
      have hi : i < N := by
        have := (Array.getElem?_eq_some_iff.mp hv).1
        rw [arrV_size] at this
        exact this
      rw [arrV_read _ _ hi] at hv
      cases hv
      have hk2 : T.vm.classes[(vp_cell (dA 0) (N, .inl f)).cls]? = some kA := hk'
      simp [State.fitsSlot, State.slotType?, hk2, hkind, fits])
    (g := F0 m pc ls (.ref a :: st)) rfl (by rw [hml, hL.1]) rfl (by rw [hb]; exact hd) (by rw [hR]; exact hdp) (by rw [hR]; show 2 * 0 + _ + 14 ≤ 100 * M.dp; omega) (by rw [hR]; exact hk) (by rw [hsz, hR]; exact hn) (hloader := Vm.clonesLoader_of_array hkS hkindS)
  have hcellE : ({ cls := (vp_cell (dA 0) (N, .inl f)).cls, slots := (vp_cell (dA 0) (N, .inl f)).slots } : Cell) = vp_cell (dA 0) (N, .inl f) := rfl
  rw [hcellE, hsz] at X'
  generalize hH1 : H.push (vp_cell (dA 0) (N, .inl f)) = H1
  have z1 : H1.size = H.size + 1 := by rw [← hH1, Array.size_push]
  have e1 : H1[H.size]? = some (vp_cell (dA 0) (N, .inl f)) := by rw [← hH1, Array.getElem?_push_size]
  have o1 : ∀ q : Nat, q < H.size → H1[q]? = H[q]? := fun q hq => by rw [← hH1, Array.getElem?_push, if_neg (Nat.ne_of_lt hq)]
  obtain ⟨t, b1, b2⟩ := g H.size p l e R s m args below meth c D dA b0 hX H1 locs ls (hG.new hr (Nat.le_trans hb0 hS.1) e1 o1) ⟨Nat.le_trans hS.1 (by omega), fun x h1 h2 => (o1 x (Nat.lt_of_lt_of_le h1 hS.1)).trans (hS.2.1 x h1 h2), hS.2.2⟩ hL
    ((T.setVm vm').pushCell (vp_cell (dA 0) (N, .inl f))) (by rw [← hH1, ← hT]; rfl) X'
  refine ⟨t, step t ?_, b2⟩
  rw [hcellE, hT]
  exact b1
theorem GW.castI {N : Nat} {f : Nat → Int32} {a : Nat} (hownM : M.own = RJ7) (hd : decode M.cc pc = .ok (.checkcast 317, 3)) (hl : gL G a (.inr (0, N, .inl f))) (g : GW M Q X G k n (pc + 3) L (.ref a :: st)) : GW M Q X G k n pc L (.ref a :: st) := by
  intro p l e R s m args below meth c D dA b0 hX H locs ls hG hS hL
  obtain ⟨hx, hb, hml, hown, hts, hA, -, -, -, hR, -, -, hb0⟩ := id hX
  rw [hownM] at hown
  exact va_castA hx hb hown (hts _ w_871) (hG.one hl) 0 (cA := dA 0) (x := (N, .inl f)) rfl (va_nm_int (hA.1.2 0 (dA 0, .int) rfl).2) hd (g p l e R s m args below meth c D dA b0 hX H locs ls hG hS hL)
theorem GW.mminJ {x y : Int32} (hownM : M.own = RJ7) (hd : decode M.cc pc = .ok (.invokestatic 304, 3)) (hdp : 1 ≤ M.dp) (hk : k ≤ M.kc) (hn : n ≤ M.ks) (hc : (st.map fun v => v.category).sum ≤ 8) (g : GW M Q X G k n (pc + 3) L (.int (if y < x then y else x) :: st)) : GW M Q X G k n pc L (.int y :: .int x :: st) := GW.mmin ⟨by rw [hownM]; exact w_872, w_min⟩ hd min_w m_ini hdp hk hn hc g
theorem GW.acopy {N N1 j : Nat} {f h : Nat → Int32} {a b : Nat} {r : Nat} (hownM : M.own = RJ7) (hd : decode M.cc pc = .ok (.invokestatic 150, 3)) (hl : gL G a (.inr (0, N, .inl f))) (hr : G.2.2 r = some (.inr (0, N1, .inl h))) (hb1 : G.2.1 r = b) (hj : j ≤ N) (hj1 : j ≤ N1) (hj2 : j < 2 ^ 31) (hdp : 1 ≤ M.dp) (hc : (st.map fun v => v.category).sum ≤ 8)
    (g : GW M Q X (gS G r (.inr (0, N1, .inl (va_cpy f h 0 0 j)))) k n (pc + 3) L st) : GW M Q X G k n pc L (.int (nI j) :: .int 0 :: .ref b :: .int 0 :: .ref a :: st) := by
  subst hb1
  intro p l e R s m args below meth c D dA b0 hX H locs ls hG hS hL
  obtain ⟨hx, hb, hml, hown, hts, hA, -, -, -, hR, -, -, hb0⟩ := id hX
  have hK := hA.1
  rw [hownM] at hown
  intro T hT XX
  have hc0 : H[a]? = some (vp_cell (dA 0) (N, .inl f)) := (hG.1 a _ hl).2
  have hlr : gL G (G.2.1 r) (.inr (0, N1, .inl h)) := Or.inr ⟨r, rfl, hr⟩
  have hc1 : H[G.2.1 r]? = some (vp_cell (dA 0) (N1, .inl h)) := (hG.1 _ _ hlr).2
  have hbr : b0 ≤ G.2.1 r := (hG.1 _ _ hlr).1
  obtain ⟨-, k0, hk0, cm0, hkk0⟩ := (hK.2 0 (dA 0, .int) rfl).1 N (fun j => .int (f j))
  obtain ⟨-, k1, hk1, cm1, hkk1⟩ := (hK.2 0 (dA 0, .int) rfl).1 N1 (fun j => .int (h j))
  have hcl := mI_clamp hj2
  have hti := mI_toInt hj2
  have hz : (0 : Int32).toNatClampNeg = 0 := rfl
  have hzi : (0 : Int32).toInt = 0 := rfl
  have hnw : nativeFrameWords "java/lang/System" "arraycopy" 5 ≤ 40 := by decide
  obtain ⟨vm', X', step⟩ := XX.arraycopy hx hown (hts _ w_873) (hts _ w_875) (hts _ w_874) (hts _ w_56) (src := a) (dst := G.2.1 r) (cs := vp_cell (dA 0) (N, .inl f)) (cd := vp_cell (dA 0) (N1, .inl h)) (srcPos := 0) (destPos := 0) (n := nI j) (by rw [hT]; exact hc0) (by rw [hT]; exact hc1)
    (fun _ h => by cases h) (fun _ h => by cases h) (fun h => by cases h) (fun h => by cases h) hk0 hk1 hkk0 hkk1 (by simp [refKind]) (by decide) (by decide) (mI_nonneg hj2)
    (by rw [hzi, hti]; show ¬ _ > ((arrV (dA 0) N (fun j => .int (f j))).slots.size : Int); rw [arrV_size]; omega)
    (by rw [hzi, hti]; show ¬ _ > ((arrV (dA 0) N1 (fun j => .int (h j))).slots.size : Int); rw [arrV_size]; omega)
    (fun vm₁ _ i hi => by
      rw [hcl] at hi
      have e : (vp_cell (dA 0) (N, .inl f)).slots.getD ((0 : Int32).toNatClampNeg + i) .null = .int (f ((0 : Int32).toNatClampNeg + i)) := by
        show (arrV (dA 0) N (fun j => .int (f j))).slots.getD _ _ = _
        rw [Array.getD_eq_getD_getElem?, arrV_read _ _ (by rw [hz]; omega)]
        rfl
      refine ⟨?_, ?_⟩
      · rw [e]; rfl
      · rw [e]
        exact trivial)
    (g := F0 m pc ls (.int (nI j) :: .int 0 :: .ref (G.2.1 r) :: .int 0 :: .ref a :: st)) rfl (by rw [hml, hL.1]) (rest := st) rfl (by rw [hb]; exact hd) (by rw [hR]; exact hdp) (by rw [hR]; show 2 * 0 + _ + _ ≤ 100 * M.dp; omega)
  have e1 : copied (vp_cell (dA 0) (N, .inl f)) (vp_cell (dA 0) (N1, .inl h)) 0 0 (nI j) = vp_cell (dA 0) (N1, .inl (va_cpy f h 0 0 j)) := by
    exact (va_copied (fun z => Value.int z) (dA 0) (dA 0) (n0 := N) (n1 := N1) (sp := (0 : Int32).toNatClampNeg) (dp := (0 : Int32).toNatClampNeg) (n := (nI j).toNatClampNeg) f h (by rw [hcl, hz]; omega)).trans (by rw [hcl]; rfl)
  rw [e1] at X' step
  have hll : G.2.1 r < H.size := (Array.getElem?_eq_some_iff.mp hc1).1
  have hheap : ((T.setVm vm').setCell (G.2.1 r) (vp_cell (dA 0) (N1, .inl (va_cpy f h 0 0 j)))).heap = H.setIfInBounds (G.2.1 r) (vp_cell (dA 0) (N1, .inl (va_cpy f h 0 0 j))) := by rw [← hT]; rfl
  have oq : ∀ q : Nat, q ≠ G.2.1 r → (H.setIfInBounds (G.2.1 r) (vp_cell (dA 0) (N1, .inl (va_cpy f h 0 0 j))))[q]? = H[q]? := fun q hq => by simp [Array.getElem?_setIfInBounds, Ne.symm hq]
  obtain ⟨t, a1, b1⟩ := g p l e R s m args below meth c D dA b0 hX _ _ ls (hG.set hr (show (H.setIfInBounds (G.2.1 r) _)[G.2.1 r]? = some _ by simp [Array.getElem?_setIfInBounds, hll]) oq) ⟨by simp; exact hS.1, fun q g1 g2 => by
      rw [oq q (fun e => g2 (by rw [e]; exact hbr))]
      exact hS.2.1 q g1 g2, fun q hq => by
      rcases List.mem_append.mp hq with h | h
      · exact hS.2.2 q h
      · obtain ⟨z, -, hz⟩ := List.mem_map.mp h
        rw [← hz]
        exact hbr⟩ hL _ hheap X'
  exact ⟨t, step t a1, b1⟩
end GWJ
abbrev mJ7_copyOf_59c91 (d kc ks : Nat) : gM := (RJ7, cJ7_copyOf_59c91, 3, (some (.array .int)), [], "copyOf", d, kc, ks)
abbrev kJ7_copyOf_59c91 (d kc ks : Nat) (as : List Value) (G : gG) (Q : Option Value → gG → Prop) (X : String → gG → Prop) : Prop := Ctr yJ7_copyOf_59c91 cJ7_copyOf_59c91 3 (some (.array .int)) d kc ks as G Q X
theorem oJ7_copyOf_59c91 {d kc ks : Nat} {as : List Value} {G : gG} {Q : Option Value → gG → Prop} {X : String → gG → Prop} {L : List (Option Value)} (hL : gEnt as = L) (hlen : (lg_sl as).length ≤ 3) (g : GW (mJ7_copyOf_59c91 d kc ks) Q X G 0 0 0 L []) : kJ7_copyOf_59c91 d kc ks as G Q X := Ctr.of (by decide +kernel) rfl rfl hL hlen g
/-- the first n of a row of ints, or all, in a row of its own -/
theorem c_copyOf {G : gG} {a n N : Nat} {f : Nat → Int32} (hr : G.2.2 901 = none) (hl : gL G a (.inr (0, N, .inl f))) (hn : n ≤ N) (hN : N < 2 ^ 20) :
    kJ7_copyOf_59c91 1 1 n [.ref a, .int (nI n)] G (fun v G' => ∃ q h, v = some (.ref q) ∧ G' = gN G 901 q (.inr (0, n, .inl h)) ∧ stps h 0 n = stps f 0 n) noX := by
  refine oJ7_copyOf_59c91 (L := [some (.ref a), some (.int (nI n)), none, none, none, none, none, none, none, none, none, none]) rfl (Nat.le_of_ble_eq_true rfl) ?_
  refine GW.iload1 dJ7_copyOf_59c91_0 (g := ?_)
  refine GW.aload0 dJ7_copyOf_59c91_1 (g := ?_)
  refine GW.alen dJ7_copyOf_59c91_2 hl (by decide) rfl ?_
  refine GW.icmp_ne (tgt := 14) dJ7_copyOf_59c91_3 (by decide) (fun h3 => ?_) (fun h3 => ?_)
  · refine GW.iload1 dJ7_copyOf_59c91_14 (g := ?_)
    refine GW.newi 901 dJ7_copyOf_59c91_15 hr (mI_nonneg (by omega)) (mI_clamp (by omega)) (by omega) aw_int (Nat.le_refl _) (by show 0 + n ≤ n; omega) fun q => ?_
    refine GW.astore2 dJ7_copyOf_59c91_17 (g := ?_)
    refine GW.aload0 dJ7_copyOf_59c91_18 (g := ?_)
    refine GW.iconst (v := 0) dJ7_copyOf_59c91_19 (by decide) ?_
    refine GW.aload2 dJ7_copyOf_59c91_20 (g := ?_)
    refine GW.iconst (v := 0) dJ7_copyOf_59c91_21 (by decide) ?_
    refine GW.aload0 dJ7_copyOf_59c91_22 (g := ?_)
    have hl2 : gL (gN G 901 q (.inr (0, n, .inl (fun _ => 0)))) a (.inr (0, N, .inl f)) := by
      rcases hl with h | ⟨r, h1, h2⟩
      · exact Or.inl h
      · have hne : r ≠ 901 := fun e => by rw [e, hr] at h2; cases h2
        refine Or.inr ⟨r, ?_, ?_⟩
        · show (if r = 901 then q else G.2.1 r) = a
          rw [if_neg hne]; exact h1
        · show (if r = 901 then _ else G.2.2 r) = _
          rw [if_neg hne]; exact h2
    refine GW.alen dJ7_copyOf_59c91_23 hl2 (by decide) rfl ?_
    refine GW.iload1 dJ7_copyOf_59c91_24 (g := ?_)
    refine GW.mminJ rfl dJ7_copyOf_59c91_25 (Nat.le_refl _) (Nat.le_refl _) (by show 0 + n ≤ n; omega) (Nat.le_of_ble_eq_true rfl) ?_
    rw [show (if nI n < Int32.ofNat N then nI n else Int32.ofNat N) = nI n from by
      rw [ofNat_nI, mI_min (by omega) (by omega)]
      congr 1
      omega]
    refine GW.acopy (j := n) (r := 901) rfl dJ7_copyOf_59c91_28 hl2 (by simp [gN]; rfl) (by simp [gN]) hn (Nat.le_refl _) (by omega) (Nat.le_refl _) (Nat.le_of_ble_eq_true rfl) ?_
    refine GW.aload2 dJ7_copyOf_59c91_31 (g := ?_)
    refine GW.areturn dJ7_copyOf_59c91_32 (Or.inr ⟨_, rfl⟩) (Nat.le_refl _) (by show 0 + n ≤ n; omega) ?_
    refine ⟨q, va_cpy f (fun _ => 0) 0 0 n, rfl, ?_, ?_⟩
    · unfold gS gN
      dsimp only
      refine Prod.ext rfl (Prod.ext rfl (funext fun r => ?_))
      dsimp only
      by_cases h : r = 901 <;> simp [h]
    · refine stps_congr fun i hi => ?_
      simp [va_cpy, hi]
  · have hnN : n = N := (mI_eq (by omega) (by omega)).mp h3
    subst hnN
    refine GW.aload0 dJ7_copyOf_59c91_6 (g := ?_)
    refine GW.clone 901 rfl dJ7_copyOf_59c91_7 hl hr (Nat.le_refl _) (Nat.le_refl _) (by show 0 + n ≤ n; omega) (Nat.le_of_ble_eq_true rfl) fun q => ?_
    refine GW.castI rfl dJ7_copyOf_59c91_10 (N := n) (f := f) (Or.inr ⟨901, by simp [gN], by simp [gN]⟩) ?_
    refine GW.areturn dJ7_copyOf_59c91_13 (Or.inr ⟨_, rfl⟩) (Nat.le_refl _) (by show 0 + n ≤ n; omega) ?_
    exact ⟨q, f, rfl, rfl, rfl⟩
