/-! a body WITH A TABLE: what is thrown out of a call comes to its handler; a contract out of such a body -/
/-- an exception of class E thrown at pc comes to the handler at hp -/
def gCat (M : gM) (E : String) (pc hp : Nat) : Prop := ∃ (pre : List ExceptionTableEntry) (x : ExceptionTableEntry) (suf : List ExceptionTableEntry) (nm : String), M.tab = pre ++ x :: suf ∧
  (∀ z ∈ pre, covers z pc = false ∨ (z.catchType ≠ 0 ∧ Cond.classLink M.own z.catchType xI ∈ gW ∧ E = xS)) ∧ covers x pc = true ∧ x.catchType ≠ 0 ∧ x.handlerPc = hp ∧ Cond.classLink M.own x.catchType nm ∈ gW ∧ Cond.castable E nm ∈ gNk
section GWH
variable {M : gM} {Q : Option Value → gG → Prop} {X : String → gG → Prop} {G : gG} {k n pc : Nat} {L : List (Option Value)} {st : List Value}
variable {y : MethodName} {cc : ByteArray} {mL N : Nat} {ret : Option FieldType} {d kc ks : Nat} {As rest : List Value} {Qc : Option Value → gG → Prop} {Xc : String → gG → Prop} {idx : Nat}
theorem gHan {p : Program} {l : Launch} {e : Env} {R : Room} {s : State} {m : MethodId} {args : Array Value} {below : List Frame} {meth : Method} {c : Code} {D : va_G} {dA : Nat → ClassId} {b0 : Nat} {H : Heap} {locs : List Loc} {ls : Array Slot} {E : String} {q hp : Nat} {ce : Cell} {QQ : State → Prop}
    (hX : gX M D dA b0 p l R s m args meth c) (hc : gCat M E pc hp) (h1 : H[q]? = some ce) (h2 : ce.vm = .none) (h3 : s.vm.findClass E = some ce.cls) (kk : W p l e R s m args below meth c H locs k n QQ (F0 m hp ls [.ref q])) :
    vx_W p l e R s m args below meth c H locs k n QQ (F0 m pc ls rest) q := by
  obtain ⟨hx1, hb, hml, hown, hts, hA, hret, hlk, hfl, hR, htb, hnm, hb0⟩ := id hX
  obtain ⟨pre, x, suf, nm, e1, e2, e3, e4, e5, e6, e7⟩ := hc
  subst e5
  exact vx_catch hown pre x suf (htb.trans e1) (fun z hz => (e2 z hz).imp id fun w => ⟨w.1, xI, hts _ w.2.1, by rw [w.2.2]; exact hA.2.2.2.2.2.2⟩) e3 e4 (hts _ e6) (va_Nw.use (A := args) rfl (hA.2.2.2.1 _ e7)) h1 h2 h3 kk
theorem GW.callVh {b ci : Nat} {fs : List Value} {C : String} {T : u_T} {NN : Nat} (hs : gCv M.own idx y) (hm : gMt y cc mL ret N) (hc : Ctr y cc mL ret d kc ks (.ref b :: As) G Qc Xc) (hd : decode M.cc pc = .ok (.invokevirtual idx, 3)) (hr : gL G b (.inl (ci, fs))) (hcl : vwCl[ci]? = some (C, T, NN)) (hC : y.cls = C) (hst : st = As.reverse ++ .ref b :: rest) (hN : As.length = N) (hdp : d + 1 ≤ M.dp) (hmL : mL ≤ 60) (hk : k + kc ≤ M.kc) (hn : n + ks ≤ M.ks) (hcat : (rest.map fun v => v.category).sum ≤ 8) (kx : ∀ E G', Xc E G' → ∃ hp, gCat M E pc hp ∧ ∀ q, GW M Q X G' (k + kc) (n + ks) hp L [.ref q])
    (kk : ∀ v G', Qc v G' → GW M Q X G' (k + kc) (n + ks) (pc + 3) L (v.toList ++ rest)) : GW M Q X G k n pc L st := by
  subst hst
  intro p l e R s m args below meth c D dA b0 hX H locs ls hG hS hL
  obtain ⟨hx, hb, hml, hown, hts, hA, hret, hlk, hfl, hR, htb, hnm, hb0⟩ := id hX
  have hrecv : ∃ cellB : Cell, H[b]? = some cellB ∧ cellB.vm.isStatics = false ∧ s.vm.findClass y.cls = some cellB.cls := by
    have := va_recv (q := (C, T, NN)) hA.1 (hG.one hr) hcl (q0 := 0) rfl
    rw [hC]; exact this
  have hcw : CallW R s args M.own y.cls idx y cc mL ret (gWs y cc mL ret) (gRm d kc ks) kc ks N :=
    cwV (C := y.cls) N hts (gW_good fun w hw => by
      rcases List.mem_append.mp hw with h | h
      · simp only [List.mem_cons, List.not_mem_nil, or_false] at h
        rcases h with rfl | rfl | rfl | rfl
        · exact hs.1
        · exact hs.2.1
        · exact hs.2.2
        · exact hm.2.1
      · rcases List.mem_cons.mp h with rfl | h
        · exact hm.1
        · exact h) rfl rfl rfl ⟨rfl, hm.2.2.1.1, hm.2.2.1.2, hm.2.2.2⟩ ⟨by rw [hR]; exact hdp, by rw [hR]; show 8 + (mL + 11) + 100 * d ≤ 100 * M.dp; omega⟩
  refine gRun (vx_runV (g := F0 m pc ls (As.reverse ++ .ref b :: rest)) (rest := rest) ⟨hx, hb, hml, hown, hts⟩ (hc l D dA b0 hfl) hcw ⟨Ctr.blind, hrecv, gPre hX hG hS⟩ rfl hN hL.1 rfl (lv_room hcat) hd ⟨by rw [hR]; exact hk, by rw [hR]; exact hn⟩) hS (fun v G' H1 locs1 hq hG1 hS1 => kk v G' hq p l e R s m args below meth c D dA b0 hX H1 locs1 ls hG1 hS1 hL) (fun E G' H1 locs1 q ce hq hG1 hS1 h1 h2 h3 => ?_)
  obtain ⟨hp, g1, g2⟩ := kx E G' hq
  exact gHan hX g1 h1 h2 h3 (g2 q p l e R s m args below meth c D dA b0 hX H1 locs1 ls hG1 hS1 hL)
theorem GW.callSh (hs : gCs M.own idx y) (hm : gMt y cc mL ret N) (hc : Ctr y cc mL ret d kc ks As G Qc Xc) (hd : decode M.cc pc = .ok (.invokestatic idx, 3)) (hst : st = As.reverse ++ rest) (hN : As.length = N) (hdp : d + 1 ≤ M.dp) (hmL : mL ≤ 60) (hk : k + kc ≤ M.kc) (hn : n + ks ≤ M.ks) (hcat : (rest.map fun v => v.category).sum ≤ 8) (kx : ∀ E G', Xc E G' → ∃ hp, gCat M E pc hp ∧ ∀ q, GW M Q X G' (k + kc) (n + ks) hp L [.ref q])
    (kk : ∀ v G', Qc v G' → GW M Q X G' (k + kc) (n + ks) (pc + 3) L (v.toList ++ rest)) : GW M Q X G k n pc L st := by
  subst hst
  intro p l e R s m args below meth c D dA b0 hX H locs ls hG hS hL
  obtain ⟨hx, hb, hml, hown, hts, hA, hret, hlk, hfl, hR, htb, hnm, hb0⟩ := id hX
  have hcw : CallB R s args M.own idx y cc mL ret (gWs y cc mL ret) (gRm d kc ks) kc ks N ∧ (Cond.static y).before args s = true :=
    va_cwS N hts (gW_good fun w hw => by
      rcases List.mem_append.mp hw with h | h
      · simp only [List.mem_cons, List.not_mem_nil, or_false] at h
        rcases h with rfl | rfl | rfl
        · exact hs.1
        · exact hs.2
        · exact hm.2.1
      · rcases List.mem_cons.mp h with rfl | h
        · exact hm.1
        · exact h) rfl rfl rfl ⟨hm.2.2.1.1, hm.2.2.1.2, hm.2.2.2⟩ ⟨by rw [hR]; exact hdp, by rw [hR]; show 8 + (mL + 11) + 100 * d ≤ 100 * M.dp; omega⟩
  refine gRun (vx_runS (g := F0 m pc ls (As.reverse ++ rest)) (rest := rest) ⟨hx, hb, hml, hown, hts⟩ (hc l D dA b0 hfl) hcw ⟨Ctr.blind, gPre hX hG hS⟩ rfl hN hL.1 rfl (lv_room hcat) hd ⟨by rw [hR]; exact hk, by rw [hR]; exact hn⟩) hS (fun v G' H1 locs1 hq hG1 hS1 => kk v G' hq p l e R s m args below meth c D dA b0 hX H1 locs1 ls hG1 hS1 hL) (fun E G' H1 locs1 q ce hq hG1 hS1 h1 h2 h3 => ?_)
  obtain ⟨hp, g1, g2⟩ := kx E G' hq
  exact gHan hX g1 h1 h2 h3 (g2 q p l e R s m args below meth c D dA b0 hX H1 locs1 ls hG1 hS1 hL)
end GWH
/-- a contract of a body with a table -/
def CtrH (y : MethodName) (cc : ByteArray) (mL : Nat) (ret : Option FieldType) (hh : List (Nat × Nat × Nat × Nat)) (d kc ks : Nat) (as : List Value) (G : gG) (Q : Option Value → gG → Prop) (X : String → gG → Prop) : Prop :=
  ∀ (l : Launch) (D : va_G) (dA : Nat → ClassId) (b0 : Nat), l.flags = flags0 →
    vx_Met l y (Cond.codeWith y cc mL ret hh :: gW) (gRm d kc ks) (va_Pc as (fun U => gA D dA b0 U U.heap ∧ gH D dA b0 G U.heap ∧ b0 ≤ U.heap.size)) (gQ D dA b0 Q) (gXC D dA b0 X) kc ks (gB b0)
theorem CtrH.of {y : MethodName} {cc : ByteArray} {mL : Nat} {ret : Option FieldType} {hh : List (Nat × Nat × Nat × Nat)} {d kc ks : Nat} {as : List Value} {G : gG} {Q : Option Value → gG → Prop} {X : String → gG → Prop} {own nm : String} {L : List (Option Value)}
    (hy : plainName y.cls = true) (hown : y.cls = own) (hnm : y.name = nm) (hL : gEnt as = L) (hlen : (lg_sl as).length ≤ mL) (g : GW (own, cc, mL, ret, tableOf hh, nm, d, kc, ks) Q X G 0 0 0 L []) : CtrH y cc mL ret hh d kc ks as G Q X := by
  subst hown hnm hL
  intro l D dA b0 hfl
  refine vx_ofWH (cc := cc) (maxL := mL) (ret := ret) (hh := hh) hy rfl ?_
  intro p e s m args below meth c s₁ B hml hv
  obtain ⟨rfl, hA, hG, hb0⟩ := hv
  have hts := atoms_spec (ws := Cond.codeWith y cc mL ret hh :: gW) B.pre
  have hl := lv_entry as (n := mL) hlen
  rw [lg_entry_eq]
  generalize (lg_sl as ++ List.replicate (mL - (lg_sl as).length) Slot.unset).toArray = ls at hl ⊢
  have hg : gHas ls mL (gEnt as) := ⟨hl.1, hl.2.1, fun i v h => hl.2.2 (i, v) (gEnt_mem h)⟩
  exact g p l e _ s m _ below meth c D dA b0 ⟨B.exec, B.bytes, hml, findClass_of_methodNamed B.named, fun w hw => hts w (List.mem_cons_of_mem _ hw), hA, B.returns, B.notSynchronized, hfl, rfl, vx_table (x := y) B (hts _ List.mem_cons_self), (name_of_methodNamed B.named B.method).1, hb0⟩ s.heap [] ls hG va_S.rf hg
/-- act's table -/
def actT : List (Nat × Nat × Nat × Nat) := [(11, 185, 493, 121), (186, 234, 493, 121), (235, 306, 493, 121), (307, 328, 493, 121), (329, 392, 493, 121), (393, 434, 493, 121), (435, 490, 493, 121), (11, 185, 510, 123), (186, 234, 510, 123), (235, 306, 510, 123), (307, 328, 510, 123), (329, 392, 510, 123), (393, 434, 510, 123), (435, 490, 510, 123)]
abbrev mL_act (d kc ks : Nat) : gM := (RL, cL_act, 12, some .boolean, tableOf actT, "act", d, kc, ks)
abbrev kL_act (d kc ks : Nat) (as : List Value) (G : gG) (Q : Option Value → gG → Prop) (X : String → gG → Prop) : Prop := CtrH yL_act cL_act 12 (some .boolean) actT d kc ks as G Q X
theorem oL_act {d kc ks : Nat} {as : List Value} {G : gG} {Q : Option Value → gG → Prop} {X : String → gG → Prop} {L : List (Option Value)} (hL : gEnt as = L) (hlen : (lg_sl as).length ≤ 12) (g : GW (mL_act d kc ks) Q X G 0 0 0 L []) : kL_act d kc ks as G Q X := CtrH.of (by decide +kernel) rfl rfl hL hlen g
theorem aw_121 : Cond.classLink RL 121 xI ∈ gW := gW_in 659 (by decide +kernel) (by decide +kernel)
theorem aw_123 : Cond.classLink RL 123 xS ∈ gW := gW_in 660 (by decide +kernel) (by decide +kernel)
theorem aw_II : Cond.castable xI xI ∈ gNk := List.mem_filter.mpr ⟨List.mem_of_getElem? (i := 364) (by decide +kernel), rfl⟩
theorem aw_SS : Cond.castable xS xS ∈ gNk := List.mem_filter.mpr ⟨List.mem_of_getElem? (i := 731) (by decide +kernel), rfl⟩
theorem aw_act : Cond.codeWith yL_act cL_act 12 (some .boolean) actT ∈ lw_tbl := List.mem_of_getElem? (i := 658) (by decide +kernel)
def actCov (pc j : Nat) : Bool := ((tableOf actT).take j).all (fun z => !covers z pc) && (match (tableOf actT)[j]? with
  | some x => covers x pc && x.catchType == 121 && x.handlerPc == 493
  | none => false)
theorem catI {d kc ks pc j : Nat} (h : actCov pc j = true) : gCat (mL_act d kc ks) xI pc 493 := by
  unfold actCov at h
  rw [Bool.and_eq_true] at h
  obtain ⟨h1, h2⟩ := h
  cases hx : (tableOf actT)[j]? with
  | none => rw [hx] at h2; cases h2
  | some x =>
    rw [hx] at h2
    simp only [Bool.and_eq_true, beq_iff_eq] at h2
    obtain ⟨⟨c1, c2⟩, c3⟩ := h2
    refine ⟨(tableOf actT).take j, x, (tableOf actT).drop (j + 1), xI, ?_, fun z hz => Or.inl ?_, Bool.and_eq_true_iff.mpr c1, by rw [c2]; decide, c3, by rw [c2]; exact aw_121, aw_II⟩
    · obtain ⟨hl, hx⟩ := List.getElem?_eq_some_iff.mp hx
      rw [← hx, ← List.drop_eq_getElem_cons hl, List.take_append_drop]
    · have w : (!covers z pc) = true := List.all_eq_true.mp h1 z hz
      cases hc : covers z pc with
      | false => rfl
      | true => rw [hc] at w; cases w
def actCovS (pc j : Nat) : Bool := ((tableOf actT).take j).all (fun z => !covers z pc || z.catchType == 121) && (match (tableOf actT)[j]? with
  | some x => covers x pc && x.catchType == 123 && x.handlerPc == 510
  | none => false)
theorem catS {d kc ks pc j : Nat} (h : actCovS pc j = true) : gCat (mL_act d kc ks) xS pc 510 := by
  unfold actCovS at h
  rw [Bool.and_eq_true] at h
  obtain ⟨h1, h2⟩ := h
  cases hx : (tableOf actT)[j]? with
  | none => rw [hx] at h2; cases h2
  | some x =>
    rw [hx] at h2
    simp only [Bool.and_eq_true, beq_iff_eq] at h2
    obtain ⟨⟨c1, c2⟩, c3⟩ := h2
    refine ⟨(tableOf actT).take j, x, (tableOf actT).drop (j + 1), xS, ?_, fun z hz => ?_, Bool.and_eq_true_iff.mpr c1, by rw [c2]; decide, c3, by rw [c2]; exact aw_123, aw_SS⟩
    · obtain ⟨hl, hx⟩ := List.getElem?_eq_some_iff.mp hx
      rw [← hx, ← List.drop_eq_getElem_cons hl, List.take_append_drop]
    · have w : (!covers z pc || z.catchType == 121) = true := List.all_eq_true.mp h1 z hz
      cases hc : covers z pc with
      | false => exact Or.inl rfl
      | true =>
        rw [hc] at w
        have h : z.catchType = 121 := beq_iff_eq.mp w
        exact Or.inr ⟨by rw [h]; decide, by rw [h]; exact aw_121, rfl⟩
theorem cov134 : actCov 134 0 = true := by decide +kernel
theorem cov486 : actCov 486 6 = true := by decide +kernel
theorem cov187 : actCovS 187 8 = true := by decide +kernel
theorem cov353 : actCovS 353 11 = true := by decide +kernel
theorem cov436 : actCovS 436 13 = true := by decide +kernel
theorem cov455 : actCovS 455 13 = true := by decide +kernel
