/-! calls into a class of the same nest: static ones, constructors; isIn -/
section GWNN
variable {M : gM} {Q : Option Value → gG → Prop} {X : String → gG → Prop} {G : gG} {k n pc : Nat} {L : List (Option Value)} {st : List Value}
variable {y : MethodName} {cc : ByteArray} {mL N : Nat} {ret : Option FieldType} {d kc ks : Nat} {As rest : List Value} {Qc : Option Value → gG → Prop} {idx b : Nat} {host : String}
theorem GW.callSN (hs : Cond.methodLinkNest M.own idx y host ∈ gNk) (hsy : Cond.static y ∈ gW) (hm : gMt y cc mL ret N) (hc : Ctr y cc mL ret d kc ks As G Qc noX) (hd : decode M.cc pc = .ok (.invokestatic idx, 3)) (hst : st = As.reverse ++ rest) (hN : As.length = N) (hdp : d + 1 ≤ M.dp) (hmL : mL ≤ 60) (hk : k + kc ≤ M.kc) (hn : n + ks ≤ M.ks) (hcat : (rest.map fun v => v.category).sum ≤ 8)
    (kk : ∀ v G', Qc v G' → GW M Q X G' (k + kc) (n + ks) (pc + 3) L (v.toList ++ rest)) : GW M Q X G k n pc L st := by
  subst hst
  intro p l e R s m args below meth c D dA b0 hX H locs ls hG hS hL
  obtain ⟨hx, hb, hml, hown, hts, hA, hret, hlk, hfl, hR, htb, hnm, hb0⟩ := id hX
  have hcw := va_cnB (R := R) (own := M.own) (index := idx) (y := y) (bytes := cc) (maxL := mL) (ret := ret) (ws := gWs y cc mL ret) (rm := gRm d kc ks) (mc := kc) (ms := ks) (host := host) N hts (gW_good fun w hw => by
      rcases List.mem_cons.mp hw with rfl | h
      · exact hm.1
      · exact h) rfl rfl rfl (hA.2.2.2.1 _ hs) (hts _ hm.2.1) ⟨hm.2.2.1.1, hm.2.2.1.2, hm.2.2.2⟩ ⟨by rw [hR]; exact hdp, by rw [hR]; show 8 + (mL + 11) + 100 * d ≤ 100 * M.dp; omega⟩
  exact gRunM (va_runSN (g := F0 m pc ls (As.reverse ++ rest)) (rest := rest) ⟨hx, hb, hml, hown, hts⟩ (hc.met (fun _ _ h => h) l D dA b0 hfl) ⟨hcw, hts _ hsy, trivial⟩ ⟨Ctr.blind, gPre hX hG hS⟩ rfl hN hL.1 rfl (lv_room hcat) hd ⟨by rw [hR]; exact hk, by rw [hR]; exact hn⟩) hS (fun v G' H1 locs1 hq hG1 hS1 => kk v G' hq p l e R s m args below meth c D dA b0 hX H1 locs1 ls hG1 hS1 hL)
theorem GW.callIN (hs : Cond.methodLinkNest M.own idx y host ∈ gNk) (hin : Cond.instanceMethod y ∈ gW) (hnm0 : y.name = "<init>") (hm : gMt y cc mL none N) (hc : Ctr y cc mL none d kc ks (.ref b :: As) G Qc noX) (hd : decode M.cc pc = .ok (.invokespecial idx, 3)) (hst : st = As.reverse ++ .ref b :: rest) (hN : As.length = N) (hdp : d + 1 ≤ M.dp) (hmL : mL ≤ 60) (hk : k + kc ≤ M.kc) (hn : n + ks ≤ M.ks) (hcat : (rest.map fun v => v.category).sum ≤ 8)
    (kk : ∀ v G', Qc v G' → GW M Q X G' (k + kc) (n + ks) (pc + 3) L (v.toList ++ rest)) : GW M Q X G k n pc L st := by
  subst hst
  intro p l e R s m args below meth c D dA b0 hX H locs ls hG hS hL
  obtain ⟨hx, hb, hml, hown, hts, hA, hret, hlk, hfl, hR, htb, hnm, hb0⟩ := id hX
  have hcw := va_cnB (R := R) (own := M.own) (index := idx) (y := y) (bytes := cc) (maxL := mL) (ret := none) (ws := gWs y cc mL none) (rm := gRm d kc ks) (mc := kc) (ms := ks) (host := host) N hts (gW_good fun w hw => by
      rcases List.mem_cons.mp hw with rfl | h
      · exact hm.1
      · exact h) rfl rfl rfl (hA.2.2.2.1 _ hs) (hts _ hm.2.1) ⟨hm.2.2.1.1, hm.2.2.1.2, hm.2.2.2⟩ ⟨by rw [hR]; exact hdp, by rw [hR]; show 8 + (mL + 11) + 100 * d ≤ 100 * M.dp; omega⟩
  exact gRunM (va_runIN (g := F0 m pc ls (As.reverse ++ .ref b :: rest)) (rest := rest) (b := b) ⟨hx, hb, hml, hown, hts⟩ (hc.met (fun _ _ h => h) l D dA b0 hfl) ⟨hcw, hnm0, hts _ hin⟩ ⟨Ctr.blind, gPre hX hG hS⟩ rfl hN hL.1 rfl (lv_room hcat) hd ⟨by rw [hR]; exact hk, by rw [hR]; exact hn⟩) hS (fun v G' H1 locs1 hq hG1 hS1 => kk v G' hq p l e R s m args below meth c D dA b0 hX H1 locs1 ls hG1 hS1 hL)
end GWNN
theorem nn_X9_63 : Cond.methodLinkNest RX9 63 yX10_isIn RX10 ∈ gNk := List.mem_filter.mpr ⟨List.mem_of_getElem? (i := 636) (by decide +kernel), rfl⟩
theorem st_isIn : Cond.static yX10_isIn ∈ gW := by
  first | exact gW_in 637 (by decide +kernel) (by decide +kernel) | exact gW_in 635 (by decide +kernel) (by decide +kernel) | exact gW_in 638 (by decide +kernel) (by decide +kernel)
/-- is the place in the set: 1 or 0 -/
def inI (w : Int64) (i : Int32) : Int32 := if lg_cmp ((w >>> (i.toInt64 &&& 63)) &&& 1) 0 = 0 then 0 else 1
theorem inI_01 (w : Int64) (i : Int32) : inI w i = 0 ∨ inI w i = 1 := by unfold inI; split <;> simp
abbrev mX10_isIn (d kc ks : Nat) : gM := (RX10, cX10_isIn, 3, (some .boolean), [], "isIn", d, kc, ks)
abbrev kX10_isIn (d kc ks : Nat) (as : List Value) (G : gG) (Q : Option Value → gG → Prop) (X : String → gG → Prop) : Prop := Ctr yX10_isIn cX10_isIn 3 (some .boolean) d kc ks as G Q X
theorem oX10_isIn {d kc ks : Nat} {as : List Value} {G : gG} {Q : Option Value → gG → Prop} {X : String → gG → Prop} {L : List (Option Value)} (hL : gEnt as = L) (hlen : (lg_sl as).length ≤ 3) (g : GW (mX10_isIn d kc ks) Q X G 0 0 0 L []) : kX10_isIn d kc ks as G Q X := Ctr.of (by decide +kernel) rfl rfl hL hlen g
theorem c_isIn {G : gG} {w : Int64} {i : Int32} : kX10_isIn 0 0 0 [.long w, .int i] G (ans G (fun v => v = .int (inI w i))) noX := by
  refine oX10_isIn (L := [some (.long w), none, some (.int i), none, none, none, none, none, none, none, none, none]) rfl (Nat.le_of_ble_eq_true rfl) ?_
  refine GW.lload0 dX10_isIn_0 ?_
  refine GW.iload2 dX10_isIn_1 ?_
  refine GW.lshr dX10_isIn_2 rfl ?_
  refine GW.lconst (v := 1) dX10_isIn_3 (by decide) ?_
  refine GW.land dX10_isIn_4 ?_
  refine GW.lconst (v := 0) dX10_isIn_5 (by decide) ?_
  refine GW.lcmp dX10_isIn_6 ?_
  refine GW.if_eq (tgt := 14) dX10_isIn_7 (by decide) (fun h7 => ?_) (fun h7 => ?_)
  · refine GW.iconst (v := 0) dX10_isIn_14 (by decide) ?_
    refine GW.ireturn dX10_isIn_15 (Or.inr ⟨rfl, by first | exact Or.inl rfl | exact Or.inr rfl | assumption⟩) (by first | (dsimp only [mX10_isIn, gM.dp, gM.kc, gM.ks]; omega) | exact Nat.le_of_ble_eq_true rfl | exact Nat.le_refl _ | omega) (by first | (dsimp only [mX10_isIn, gM.dp, gM.kc, gM.ks]; omega) | exact Nat.le_of_ble_eq_true rfl | exact Nat.le_refl _ | omega) ?_
    exact ⟨_, rfl, rfl, by unfold inI; rw [if_pos h7]⟩
  · refine GW.iconst (v := 1) dX10_isIn_10 (by decide) ?_
    refine GW.goto (tgt := 15) dX10_isIn_11 (by decide) ?_
    refine GW.ireturn dX10_isIn_15 (Or.inr ⟨rfl, by first | exact Or.inl rfl | exact Or.inr rfl | assumption⟩) (by first | (dsimp only [mX10_isIn, gM.dp, gM.kc, gM.ks]; omega) | exact Nat.le_of_ble_eq_true rfl | exact Nat.le_refl _ | omega) (by first | (dsimp only [mX10_isIn, gM.dp, gM.kc, gM.ks]; omega) | exact Nat.le_of_ble_eq_true rfl | exact Nat.le_refl _ | omega) ?_
    exact ⟨_, rfl, rfl, by unfold inI; rw [if_neg h7]⟩
/-- how many are in the set -/
def bcI (w : Int64) : Int32 :=
  let us (x : Int64) (n : Int32) : Int64 := (x.toUInt64 >>> (n.toInt64.toUInt64 &&& Int64.toUInt64 63)).toInt64
  let a := w - (us w 1 &&& 6148914691236517205)
  let b := (a &&& 3689348814741910323) + (us a 2 &&& 3689348814741910323)
  let c := (b + us b 4) &&& 1085102592571150095
  let d := c + us c 8
  let e := d + us d 16
  let f := e + us e 32
  f.toInt32 &&& 127
theorem kcJ_314 : Cond.constantLong RJ13 314 6148914691236517205 ∈ gW := by
  first | exact gW_in 649 (by decide +kernel) (by decide +kernel) | exact gW_in 650 (by decide +kernel) (by decide +kernel) | exact gW_in 651 (by decide +kernel) (by decide +kernel)
theorem kcJ_316 : Cond.constantLong RJ13 316 3689348814741910323 ∈ gW := by
  first | exact gW_in 650 (by decide +kernel) (by decide +kernel) | exact gW_in 649 (by decide +kernel) (by decide +kernel) | exact gW_in 651 (by decide +kernel) (by decide +kernel)
theorem kcJ_318 : Cond.constantLong RJ13 318 1085102592571150095 ∈ gW := by
  first | exact gW_in 651 (by decide +kernel) (by decide +kernel) | exact gW_in 649 (by decide +kernel) (by decide +kernel) | exact gW_in 650 (by decide +kernel) (by decide +kernel)
abbrev mJ13_bitCount_95d88 (d kc ks : Nat) : gM := (RJ13, cJ13_bitCount_95d88, 2, (some .int), [], "bitCount", d, kc, ks)
abbrev kJ13_bitCount_95d88 (d kc ks : Nat) (as : List Value) (G : gG) (Q : Option Value → gG → Prop) (X : String → gG → Prop) : Prop := Ctr yJ13_bitCount_95d88 cJ13_bitCount_95d88 2 (some .int) d kc ks as G Q X
theorem oJ13_bitCount_95d88 {d kc ks : Nat} {as : List Value} {G : gG} {Q : Option Value → gG → Prop} {X : String → gG → Prop} {L : List (Option Value)} (hL : gEnt as = L) (hlen : (lg_sl as).length ≤ 2) (g : GW (mJ13_bitCount_95d88 d kc ks) Q X G 0 0 0 L []) : kJ13_bitCount_95d88 d kc ks as G Q X := Ctr.of (by decide +kernel) rfl rfl hL hlen g
theorem c_bitCount {G : gG} {w : Int64} : kJ13_bitCount_95d88 0 0 0 [.long w] G (ans G (fun v => v = .int (bcI w))) noX := by
  refine oJ13_bitCount_95d88 (L := [some (.long w), none, none, none, none, none, none, none, none, none, none, none]) rfl (Nat.le_of_ble_eq_true rfl) ?_
  refine GW.lload0 dJ13_bitCount_95d88_0 ?_
  refine GW.lload0 dJ13_bitCount_95d88_1 ?_
  refine GW.iconst (v := 1) dJ13_bitCount_95d88_2 (by decide) ?_
  refine GW.lushr dJ13_bitCount_95d88_3 rfl ?_
  refine GW.ldc2 kcJ_314 dJ13_bitCount_95d88_4 ?_
  refine GW.land dJ13_bitCount_95d88_7 ?_
  refine GW.lsub dJ13_bitCount_95d88_8 ?_
  refine GW.lstore0 dJ13_bitCount_95d88_9 (g := ?_)
  refine GW.lload0 dJ13_bitCount_95d88_10 ?_
  refine GW.ldc2 kcJ_316 dJ13_bitCount_95d88_11 ?_
  refine GW.land dJ13_bitCount_95d88_14 ?_
  refine GW.lload0 dJ13_bitCount_95d88_15 ?_
  refine GW.iconst (v := 2) dJ13_bitCount_95d88_16 (by decide) ?_
  refine GW.lushr dJ13_bitCount_95d88_17 rfl ?_
  refine GW.ldc2 kcJ_316 dJ13_bitCount_95d88_18 ?_
  refine GW.land dJ13_bitCount_95d88_21 ?_
  refine GW.ladd dJ13_bitCount_95d88_22 ?_
  refine GW.lstore0 dJ13_bitCount_95d88_23 (g := ?_)
  refine GW.lload0 dJ13_bitCount_95d88_24 ?_
  refine GW.lload0 dJ13_bitCount_95d88_25 ?_
  refine GW.iconst (v := 4) dJ13_bitCount_95d88_26 (by decide) ?_
  refine GW.lushr dJ13_bitCount_95d88_27 rfl ?_
  refine GW.ladd dJ13_bitCount_95d88_28 ?_
  refine GW.ldc2 kcJ_318 dJ13_bitCount_95d88_29 ?_
  refine GW.land dJ13_bitCount_95d88_32 ?_
  refine GW.lstore0 dJ13_bitCount_95d88_33 (g := ?_)
  refine GW.lload0 dJ13_bitCount_95d88_34 ?_
  refine GW.lload0 dJ13_bitCount_95d88_35 ?_
  refine GW.bipush (v := 8) dJ13_bitCount_95d88_36 (by decide) ?_
  refine GW.lushr dJ13_bitCount_95d88_38 rfl ?_
  refine GW.ladd dJ13_bitCount_95d88_39 ?_
  refine GW.lstore0 dJ13_bitCount_95d88_40 (g := ?_)
  refine GW.lload0 dJ13_bitCount_95d88_41 ?_
  refine GW.lload0 dJ13_bitCount_95d88_42 ?_
  refine GW.bipush (v := 16) dJ13_bitCount_95d88_43 (by decide) ?_
  refine GW.lushr dJ13_bitCount_95d88_45 rfl ?_
  refine GW.ladd dJ13_bitCount_95d88_46 ?_
  refine GW.lstore0 dJ13_bitCount_95d88_47 (g := ?_)
  refine GW.lload0 dJ13_bitCount_95d88_48 ?_
  refine GW.lload0 dJ13_bitCount_95d88_49 ?_
  refine GW.bipush (v := 32) dJ13_bitCount_95d88_50 (by decide) ?_
  refine GW.lushr dJ13_bitCount_95d88_52 rfl ?_
  refine GW.ladd dJ13_bitCount_95d88_53 ?_
  refine GW.lstore0 dJ13_bitCount_95d88_54 (g := ?_)
  refine GW.lload0 dJ13_bitCount_95d88_55 ?_
  refine GW.l2i dJ13_bitCount_95d88_56 ?_
  refine GW.bipush (v := 127) dJ13_bitCount_95d88_57 (by decide) ?_
  refine GW.iand dJ13_bitCount_95d88_59 ?_
  refine GW.ireturn dJ13_bitCount_95d88_60 (Or.inl rfl) (Nat.le_refl _) (Nat.le_refl _) ?_
  exact ⟨_, rfl, rfl, rfl⟩
