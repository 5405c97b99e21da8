/-! THE GHOST LAYER, third part: contracts out of bodies, calls by contract, throws -/
def gArg : List Value → List (Option Value)
  | [] => []
  | v :: vs => some v :: (if v.category = 2 then none :: gArg vs else gArg vs)
def gEnt (as : List Value) : List (Option Value) := (gArg as ++ List.replicate 12 none).take 12
theorem gArg_mem : ∀ (as : List Value) (o i : Nat) (v : Value), (gArg as)[i]? = some (some v) → (o + i, v) ∈ lv_args o as := by
  intro as
  induction as with
  | nil => intro o i v h; simp [gArg] at h
  | cons a as ih =>
    intro o i v h
    by_cases hc : a.category = 2
    · simp only [gArg, hc, if_true] at h
      simp only [lv_args, hc, if_true]
      cases i with
      | zero => simp at h; subst h; exact List.mem_cons_self
      | succ i =>
        cases i with
        | zero => simp at h
        | succ i =>
          simp at h
          have := ih (o + 2) i v h
          rw [show o + (i + 1 + 1) = o + 2 + i by omega]
          exact List.mem_cons_of_mem _ this
    · simp only [gArg, hc, if_false] at h
      simp only [lv_args, hc, if_false]
      cases i with
      | zero => simp at h; subst h; exact List.mem_cons_self
      | succ i =>
        simp at h
        have := ih (o + 1) i v h
        rw [show o + (i + 1) = o + 1 + i by omega]
        exact List.mem_cons_of_mem _ this
theorem gEnt_mem {as : List Value} {i : Nat} {v : Value} (h : (gEnt as)[i]? = some (some v)) : (i, v) ∈ lv_args 0 as := by
  unfold gEnt at h
  rw [List.getElem?_take] at h
  split at h
  · by_cases hl : i < (gArg as).length
    · rw [List.getElem?_append_left hl] at h
      have := gArg_mem as 0 i v h
      simpa using this
    · rw [List.getElem?_append_right (by omega), List.getElem?_replicate] at h
      split at h <;> cases h
  · cases h
theorem gA.blind {D dA b0} {U : State} (g : JFrame) (mk : MethodId) (a : Array Value) (h : gA D dA b0 U U.heap) : gA D dA b0 (U.calling g mk a) (U.calling g mk a).heap :=
  gA.warm (s := U) (U := U.calling g mk a) (State.WarmedH.refl U) h
theorem Ctr.blind {D dA b0} {as : List Value} {G : gG} : FrameBlind (va_Pc as (fun U => gA D dA b0 U U.heap ∧ gH D dA b0 G U.heap ∧ b0 ≤ U.heap.size)) :=
  fun a U g mk h => ⟨h.1, gA.blind g mk a h.2.1, h.2.2.1, h.2.2.2⟩
/-- a contract out of the walk of the body -/
theorem Ctr.of {y : MethodName} {cc : ByteArray} {mL : Nat} {ret : Option FieldType} {d kc ks : Nat} {as : List Value} {G : gG} {Q : Option Value → gG → Prop} {X : String → gG → Prop} {own nm : String} {L : List (Option Value)}
    (hy : plainName y.cls = true) (hown : y.cls = own) (hnm : y.name = nm) (hL : gEnt as = L) (hlen : (lg_sl as).length ≤ mL) (g : GW (own, cc, mL, ret, [], nm, d, kc, ks) Q X G 0 0 0 L []) : Ctr y cc mL ret d kc ks as G Q X := by
  subst hown hnm hL
  intro l D dA b0 hfl
  refine vx_ofW (cc := cc) (maxL := mL) (ret := ret) hy rfl ?_
  intro p e s m args below meth c s₁ B hml hno hv
  obtain ⟨rfl, hA, hG, hb0⟩ := hv
  have hts := atoms_spec (ws := gWs y cc mL ret) B.pre
  have hl := lv_entry as (n := mL) hlen
  rw [lg_entry_eq]
  generalize (lg_sl as ++ List.replicate (mL - (lg_sl as).length) Slot.unset).toArray = ls at hl ⊢
  have hh : gHas ls mL (gEnt as) := ⟨hl.1, hl.2.1, fun i v h => hl.2.2 (i, v) (gEnt_mem h)⟩
  refine g p l e _ s m _ below meth c D dA b0 ⟨B.exec, B.bytes, hml, findClass_of_methodNamed B.named, fun w hw => hts w (List.mem_cons_of_mem _ hw), hA, B.returns, B.notSynchronized, hfl, rfl, ?_, (name_of_methodNamed B.named B.method).1, hb0⟩ s.heap [] ls hG va_S.rf hh
  cases hx : c.exceptionTable.toList with
  | nil => rfl
  | cons x xs => exact (hno x (by rw [hx]; exact List.mem_cons_self)).elim
/-- .. of a body with a table -/
theorem Ctr.post {y : MethodName} {cc : ByteArray} {mL : Nat} {ret : Option FieldType} {d kc ks : Nat} {as : List Value} {G : gG} {Q Q' : Option Value → gG → Prop} {X X' : String → gG → Prop} (h : Ctr y cc mL ret d kc ks as G Q X) (hQ : ∀ v G', Q v G' → Q' v G') (hX : ∀ E G', X E G' → X' E G') : Ctr y cc mL ret d kc ks as G Q' X' := by
  intro l D dA b0 hfl p e ha hc hk s m args below hf happ hP hK
  obtain ⟨t, o, h1, h2, h3, h4⟩ := h l D dA b0 hfl p e ha hc hk s m args below hf happ hP hK
  refine ⟨t, o, h1, h2, h3, ?_⟩
  rcases h4 with ⟨⟨⟨v, G', e1, q1, q2⟩, f⟩, r⟩ | ⟨q, e1, E, ce, L1, ⟨⟨G', q1, q2⟩, f⟩, r⟩
  · exact Or.inl ⟨⟨⟨v, G', e1, hQ _ _ q1, q2⟩, f⟩, r⟩
  · exact Or.inr ⟨q, e1, E, ce, L1, ⟨⟨G', hX _ _ q1, q2⟩, f⟩, r⟩
section GWC
variable {M : gM} {Q : Option Value → gG → Prop} {X : String → gG → Prop} {G : gG} {k n pc : Nat} {L : List (Option Value)} {st : List Value}
variable {y : MethodName} {cc : ByteArray} {mL N : Nat} {ret : Option FieldType} {d kc ks : Nat} {As rest : List Value} {Qc : Option Value → gG → Prop} {Xc : String → gG → Prop} {idx : Nat}
/-- behind a call: it came back, or it threw -/
theorem gRun {p : Program} {l : Launch} {e : Env} {R : Room} {s : State} {m : MethodId} {args : Array Value} {below : List Frame} {meth : Method} {c : Code} {D : va_G} {dA : Nat → ClassId} {b0 : Nat} {H : Heap} {locs : List Loc} {ls : Array Slot} {ax : Array Value} {QQ : State → Prop} {st0 : List Value}
    (hr : vx_Run p l e R s m args below meth c H locs k n kc ks (F0 m pc ls st0) rest (gQ D dA b0 Qc ax) (gXC D dA b0 Xc) (gB b0)) (hS : va_S (gB b0) s.heap H locs)
    (kk : ∀ v G' (H1 : Heap) (locs1 : List Loc), Qc v G' → gH D dA b0 G' H1 → va_S (gB b0) s.heap H1 locs1 → W p l e R s m args below meth c H1 locs1 (k + kc) (n + ks) QQ (F0 m (pc + 3) ls (v.toList ++ rest)))
    (kx : ∀ E G' (H1 : Heap) (locs1 : List Loc) (q : Nat) (ce : Cell), Xc E G' → gH D dA b0 G' H1 → va_S (gB b0) s.heap H1 locs1 → H1[q]? = some ce → ce.vm = .none → s.vm.findClass E = some ce.cls → vx_W p l e R s m args below meth c H1 locs1 (k + kc) (n + ks) QQ (F0 m pc ls rest) q) :
    W p l e R s m args below meth c H locs k n QQ (F0 m pc ls st0) := by
  intro T hT XX
  rcases hr T hT XX with ⟨v, st₀, t, T', L, h0, X', hL, e1, e2, ⟨⟨v', G', hv, hq, hG'⟩, hF⟩, st⟩ | ⟨q, st₀, t, T', L, E, ce, h0, X', hL, e1, e2, ⟨⟨G', hq, hG'⟩, hF⟩, hce, hcv, hcl, st⟩
  · cases hv
    obtain ⟨-, -, k3⟩ := vx_keep h0 e1 hS (fun q _ h => h) (fun q h => h) hL hF
    obtain ⟨t2, a1, b1⟩ := kk v G' T'.heap (locs ++ L) hq (by rw [e1]; exact hG') k3 T' rfl X'
    exact ⟨t2, st t2 a1, b1⟩
  · obtain ⟨-, -, k3⟩ := vx_keep h0 e1 hS (fun q _ h => h) (fun q h => h) hL hF
    obtain ⟨t2, a1, b1⟩ := kx E G' T'.heap (locs ++ L) q ce hq (by rw [e1]; exact hG') k3 (by rw [e1]; exact hce) hcv hcl T' rfl X'
    exact ⟨t2, st.trans a1, b1⟩
theorem gOut {p : Program} {l : Launch} {e : Env} {R : Room} {s : State} {m : MethodId} {args : Array Value} {below : List Frame} {meth : Method} {c : Code} {D : va_G} {dA : Nat → ClassId} {b0 : Nat} {H : Heap} {locs : List Loc} {ls : Array Slot} {E : String} {G' : gG} {q : Nat} {ce : Cell}
    (hX : gX M D dA b0 p l R s m args meth c) (htab : M.tab = []) (hk : k ≤ M.kc) (hn : n ≤ M.ks) (hx : X E G') (hG : gH D dA b0 G' H) (hS : va_S (gB b0) s.heap H locs) (hc : H[q]? = some ce) (hv : ce.vm = .none) (hcl : s.vm.findClass E = some ce.cls) :
    vx_W p l e R s m args below meth c H locs k n (vx_MQ below (gQ D dA b0 Q) (gXC D dA b0 X) args s M.kc M.ks (gB b0)) (F0 m pc ls rest) q := by
  obtain ⟨hx1, hb, hml, hown, hts, ⟨hK, -⟩, hret, hlk, hfl, hR, htb, hnm, hb0⟩ := id hX
  exact vx_out (fun x h => by rw [htb, htab] at h; cases h) hlk hc hv hcl (fun t ht _ => ⟨⟨G', hx, by rw [ht]; exact hG⟩, hS.F ht⟩) hS.2.2 hk hn
theorem gPre {p : Program} {l : Launch} {R : Room} {s : State} {m : MethodId} {args : Array Value} {meth : Method} {c : Code} {D : va_G} {dA : Nat → ClassId} {b0 : Nat} {H : Heap} {locs : List Loc}
    (hX : gX M D dA b0 p l R s m args meth c) (hG : gH D dA b0 G H) (hS : va_S (gB b0) s.heap H locs) (U : State) (hU : U.heap = H) (hW : s.WarmedH U.vm) : va_Pc As (fun U => gA D dA b0 U U.heap ∧ gH D dA b0 G U.heap ∧ b0 ≤ U.heap.size) As.toArray U := by
  obtain ⟨hx1, hb, hml, hown, hts, hA, hret, hlk, hfl, hR, htb, hnm, hb0⟩ := id hX
  refine ⟨rfl, ?_, by rw [hU]; exact hG, by rw [hU]; exact Nat.le_trans hb0 hS.1⟩
  rw [hU]
  exact (hA.kept hS.2.1).warm hW
theorem GW.callV {b ci : Nat} {fs : List Value} {C : String} {T : u_T} {NN : Nat} (hs : gCv M.own idx y) (hm : gMt y cc mL ret N) (hc : Ctr y cc mL ret d kc ks (.ref b :: As) G Qc Xc) (hd : decode M.cc pc = .ok (.invokevirtual idx, 3)) (hr : gL G b (.inl (ci, fs))) (hcl : vwCl[ci]? = some (C, T, NN)) (hC : y.cls = C) (hst : st = As.reverse ++ .ref b :: rest) (hN : As.length = N) (hdp : d + 1 ≤ M.dp) (hmL : mL ≤ 60) (hk : k + kc ≤ M.kc) (hn : n + ks ≤ M.ks) (hcat : (rest.map fun v => v.category).sum ≤ 8) (htab : M.tab = []) (kx : ∀ E G', Xc E G' → X E G')
    (kk : ∀ v G', Qc v G' → GW M Q X G' (k + kc) (n + ks) (pc + 3) L (v.toList ++ rest)) : GW M Q X G k n pc L st := by
  subst hst
  intro p l e R s m args below meth c D dA b0 hX H locs ls hG hS hL
  obtain ⟨hx, hb, hml, hown, hts, hA, hret, hlk, hfl, hR, htb, hnm, hb0⟩ := id hX
  have hrecv : ∃ cellB : Cell, H[b]? = some cellB ∧ cellB.vm.isStatics = false ∧ s.vm.findClass y.cls = some cellB.cls := by
    have := va_recv (q := (C, T, NN)) hA.1 (hG.one hr) hcl (q0 := 0) rfl
    rw [hC]; exact this
  have hcw : CallW R s args M.own y.cls idx y cc mL ret (gWs y cc mL ret) (gRm d kc ks) kc ks N :=
    cwV (C := y.cls) N hts (gW_good fun w hw => by
      rcases List.mem_append.mp hw with h | h
      · simp only [List.mem_cons, List.not_mem_nil, or_false] at h
        rcases h with rfl | rfl | rfl | rfl
        · exact hs.1
        · exact hs.2.1
        · exact hs.2.2
        · exact hm.2.1
      · rcases List.mem_cons.mp h with rfl | h
        · exact hm.1
        · exact h) rfl rfl rfl ⟨rfl, hm.2.2.1.1, hm.2.2.1.2, hm.2.2.2⟩ ⟨by rw [hR]; exact hdp, by rw [hR]; show 8 + (mL + 11) + 100 * d ≤ 100 * M.dp; omega⟩
  refine gRun (vx_runV (g := F0 m pc ls (As.reverse ++ .ref b :: rest)) (rest := rest) ⟨hx, hb, hml, hown, hts⟩ (hc l D dA b0 hfl) hcw ⟨Ctr.blind, hrecv, gPre hX hG hS⟩ rfl hN hL.1 rfl (lv_room hcat) hd ⟨by rw [hR]; exact hk, by rw [hR]; exact hn⟩) hS (fun v G' H1 locs1 hq hG1 hS1 => kk v G' hq p l e R s m args below meth c D dA b0 hX H1 locs1 ls hG1 hS1 hL) (fun E G' H1 locs1 q ce hq hG1 hS1 h1 h2 h3 => gOut hX htab hk hn (kx E G' hq) hG1 hS1 h1 h2 h3)
theorem GW.callS (hs : gCs M.own idx y) (hm : gMt y cc mL ret N) (hc : Ctr y cc mL ret d kc ks As G Qc Xc) (hd : decode M.cc pc = .ok (.invokestatic idx, 3)) (hst : st = As.reverse ++ rest) (hN : As.length = N) (hdp : d + 1 ≤ M.dp) (hmL : mL ≤ 60) (hk : k + kc ≤ M.kc) (hn : n + ks ≤ M.ks) (hcat : (rest.map fun v => v.category).sum ≤ 8) (htab : M.tab = []) (kx : ∀ E G', Xc E G' → X E G')
    (kk : ∀ v G', Qc v G' → GW M Q X G' (k + kc) (n + ks) (pc + 3) L (v.toList ++ rest)) : GW M Q X G k n pc L st := by
  subst hst
  intro p l e R s m args below meth c D dA b0 hX H locs ls hG hS hL
  obtain ⟨hx, hb, hml, hown, hts, hA, hret, hlk, hfl, hR, htb, hnm, hb0⟩ := id hX
  have hcw : CallB R s args M.own idx y cc mL ret (gWs y cc mL ret) (gRm d kc ks) kc ks N ∧ (Cond.static y).before args s = true :=
    va_cwS N hts (gW_good fun w hw => by
      rcases List.mem_append.mp hw with h | h
      · simp only [List.mem_cons, List.not_mem_nil, or_false] at h
        rcases h with rfl | rfl | rfl
        · exact hs.1
        · exact hs.2
        · exact hm.2.1
      · rcases List.mem_cons.mp h with rfl | h
        · exact hm.1
        · exact h) rfl rfl rfl ⟨hm.2.2.1.1, hm.2.2.1.2, hm.2.2.2⟩ ⟨by rw [hR]; exact hdp, by rw [hR]; show 8 + (mL + 11) + 100 * d ≤ 100 * M.dp; omega⟩
  refine gRun (vx_runS (g := F0 m pc ls (As.reverse ++ rest)) (rest := rest) ⟨hx, hb, hml, hown, hts⟩ (hc l D dA b0 hfl) hcw ⟨Ctr.blind, gPre hX hG hS⟩ rfl hN hL.1 rfl (lv_room hcat) hd ⟨by rw [hR]; exact hk, by rw [hR]; exact hn⟩) hS (fun v G' H1 locs1 hq hG1 hS1 => kk v G' hq p l e R s m args below meth c D dA b0 hX H1 locs1 ls hG1 hS1 hL) (fun E G' H1 locs1 q ce hq hG1 hS1 h1 h2 h3 => gOut hX htab hk hn (kx E G' hq) hG1 hS1 h1 h2 h3)
end GWC
/-- a contract of what throws nothing, as the kit's constructors want it -/
theorem Ctr.met {y : MethodName} {cc : ByteArray} {mL : Nat} {ret : Option FieldType} {d kc ks : Nat} {as : List Value} {G : gG} {Q : Option Value → gG → Prop} {X : String → gG → Prop} (h : Ctr y cc mL ret d kc ks as G Q X) (hX : ∀ E G', ¬ X E G') (l : Launch) (D : va_G) (dA : Nat → ClassId) (b0 : Nat) (hfl : l.flags = flags0) :
    Met l y (gWs y cc mL ret) (gRm d kc ks) (va_Pc as (fun U => gA D dA b0 U U.heap ∧ gH D dA b0 G U.heap ∧ b0 ≤ U.heap.size)) (gQ D dA b0 Q) kc ks (gB b0) := by
  intro p e ha hc hk s m args below hf happ hP hK
  obtain ⟨t, o, h1, h2, h3, h4⟩ := h l D dA b0 hfl p e ha hc hk s m args below hf happ hP hK
  refine ⟨t, o, h1, h2, h3, ?_⟩
  rcases h4 with h4 | ⟨q, e1, E, ce, L1, ⟨⟨G', q1, q2⟩, f⟩, r⟩
  · exact h4
  · exact (hX _ _ q1).elim
section GWI
variable {M : gM} {Q : Option Value → gG → Prop} {X : String → gG → Prop} {G : gG} {k n pc : Nat} {L : List (Option Value)} {st : List Value}
variable {y : MethodName} {cc : ByteArray} {mL N : Nat} {d kc ks : Nat} {As rest : List Value} {Qc : Option Value → gG → Prop} {Xc : String → gG → Prop} {idx b : Nat}
theorem gRunM {p : Program} {l : Launch} {e : Env} {R : Room} {s : State} {m : MethodId} {args : Array Value} {below : List Frame} {meth : Method} {c : Code} {D : va_G} {dA : Nat → ClassId} {b0 : Nat} {H : Heap} {locs : List Loc} {ls : Array Slot} {ax : Array Value} {QQ : State → Prop} {st0 : List Value}
    (hr : va_Run p l e R s m args below meth c H locs k n kc ks (F0 m pc ls st0) rest (gQ D dA b0 Qc ax) (gB b0)) (hS : va_S (gB b0) s.heap H locs)
    (kk : ∀ v G' (H1 : Heap) (locs1 : List Loc), Qc v G' → gH D dA b0 G' H1 → va_S (gB b0) s.heap H1 locs1 → W p l e R s m args below meth c H1 locs1 (k + kc) (n + ks) QQ (F0 m (pc + 3) ls (v.toList ++ rest))) :
    W p l e R s m args below meth c H locs k n QQ (F0 m pc ls st0) := by
  intro T hT XX
  obtain ⟨v, st₀, t, T', L, h0, X', hL, e1, e2, ⟨⟨v', G', hv, hq, hG'⟩, hF⟩, st⟩ := hr T hT XX
  cases hv
  obtain ⟨-, -, k3⟩ := vx_keep h0 e1 hS (fun q _ h => h) (fun q h => h) hL hF
  obtain ⟨t2, a1, b1⟩ := kk v G' T'.heap (locs ++ L) hq (by rw [e1]; exact hG') k3 T' rfl X'
  exact ⟨t2, st t2 a1, b1⟩
theorem GW.callI (hs : gCi M.own idx y) (hm : gMt y cc mL none N) (hc : Ctr y cc mL none d kc ks (.ref b :: As) G Qc Xc) (hXc : ∀ E G', ¬ Xc E G') (hd : decode M.cc pc = .ok (.invokespecial idx, 3)) (hst : st = As.reverse ++ .ref b :: rest) (hN : As.length = N) (hdp : d + 1 ≤ M.dp) (hmL : mL ≤ 60) (hk : k + kc ≤ M.kc) (hn : n + ks ≤ M.ks) (hcat : (rest.map fun v => v.category).sum ≤ 8)
    (kk : ∀ v G', Qc v G' → GW M Q X G' (k + kc) (n + ks) (pc + 3) L (v.toList ++ rest)) : GW M Q X G k n pc L st := by
  subst hst
  intro p l e R s m args below meth c D dA b0 hX H locs ls hG hS hL
  obtain ⟨hx, hb, hml, hown, hts, hA, hret, hlk, hfl, hR, htb, hnm, hb0⟩ := id hX
  have hcw := cwI (R := R) (own := M.own) (index := idx) (y := y) (bytes := cc) (maxL := mL) (ws := gWs y cc mL none) (rm := gRm d kc ks) (mc := kc) (ms := ks) N hts (gW_good fun w hw => by
      rcases List.mem_cons.mp hw with rfl | h
      · exact hm.1
      · exact h) rfl rfl rfl (hts _ hm.2.1) (hts _ hs.1) (hts _ hs.2.1) hs.2.2 ⟨hm.2.2.1.1, hm.2.2.1.2, hm.2.2.2⟩ ⟨by rw [hR]; exact hdp, by rw [hR]; show 8 + (mL + 11) + 100 * d ≤ 100 * M.dp; omega⟩
  exact gRunM (va_runI (g := F0 m pc ls (As.reverse ++ .ref b :: rest)) (rest := rest) (b := b) ⟨hx, hb, hml, hown, hts⟩ (hc.met hXc l D dA b0 hfl) hcw ⟨Ctr.blind, gPre hX hG hS⟩ rfl hN hL.1 rfl (lv_room hcat) hd ⟨by rw [hR]; exact hk, by rw [hR]; exact hn⟩) hS (fun v G' H1 locs1 hq hG1 hS1 => kk v G' hq p l e R s m args below meth c D dA b0 hX H1 locs1 ls hG1 hS1 hL)
end GWI
