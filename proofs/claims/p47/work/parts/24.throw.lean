/-! 'throw new E("text")' in MarlStore -/
theorem nTr {l : Launch} (h : l.flags = flags0) : l.stackTraces = false := by
  unfold Launch.stackTraces
  rw [h]
  decide
def exN : List String := ["java/lang/RuntimeException", "java/lang/Exception"]
def exOk (w : Cond) : Bool := decide (w ∈ lw_tbl) && (goodWord w || gNkOk w) && vx_ot w
theorem exI : (vx_atS RX10 116 "java/lang/IndexOutOfBoundsException" exN).all exOk = true := by decide +kernel
theorem exS : (vx_atS RX10 127 "java/lang/IllegalStateException" exN).all exOk = true := by decide +kernel
theorem kI : Cond.classLink RX10 112 "java/lang/IndexOutOfBoundsException" ∈ gW := gW_in 362 (by decide +kernel) (by decide +kernel)
theorem kS : Cond.classLink RX10 123 "java/lang/IllegalStateException" ∈ gW := gW_in 729 (by decide +kernel) (by decide +kernel)
theorem nIx : Cond.initialized "java/lang/IndexOutOfBoundsException" ∈ gW := gW_in 51 (by decide +kernel) (by decide +kernel)
theorem nSx : Cond.initialized "java/lang/IllegalStateException" ∈ gW := gW_in 52 (by decide +kernel) (by decide +kernel)
section GWT
variable {M : gM} {Q : Option Value → gG → Prop} {X : String → gG → Prop} {G : gG} {k n pc : Nat} {L : List (Option Value)} {st : List Value}
theorem gat {cls : String} {ic : Nat} {args : Array Value} {s : State} {D dA b0} {H : Heap} (ha : (vx_atS RX10 ic cls exN).all exOk = true) (hts : ∀ w ∈ gW, w.before args s = true) (hA : gA D dA b0 s H) : (∀ w ∈ vx_atS RX10 ic cls exN, w.before args s = true) ∧ ∀ w ∈ vx_atS RX10 ic cls exN, vx_ot w = true := by
  refine ⟨fun w hw => ?_, fun w hw => ?_⟩
  · have h := List.all_eq_true.mp ha w hw
    simp only [exOk, Bool.and_eq_true, Bool.or_eq_true, decide_eq_true_eq] at h
    obtain ⟨⟨h1, h2⟩, h3⟩ := h
    rcases h2 with h2 | h2
    · exact hts w (List.mem_filter.mpr ⟨h1, h2⟩)
    · have := hA.2.2.2.1 w (List.mem_filter.mpr ⟨h1, h2⟩)
      exact va_Nw.use (by cases w <;> first | rfl | (simp [gNkOk] at h2)) this
  · have h := List.all_eq_true.mp ha w hw
    simp only [exOk, Bool.and_eq_true] at h
    exact h.2
theorem ot_of {w : Cond} (h : w ∈ gW) : vx_ot w = true := by
  have := (List.mem_filter.mp h).2
  unfold vx_ot
  rw [this, Bool.or_true]
theorem GW.throwW {cls text : String} {ik is ic : Nat} (hown : M.own = RX10) (hcls : Bundle.fit cls = true) (hk : Cond.classLink RX10 ik cls ∈ gW) (hini : Cond.initialized cls ∈ gW) (ha : (vx_atS RX10 ic cls exN).all exOk = true) (hstr : (is, text) ∈ gSt)
    (d0 : decode M.cc pc = .ok (.new ik, 3)) (d3 : decode M.cc (pc + 3) = .ok (.dup, 1)) (d4 : decode M.cc (pc + 4) = .ok (.ldc_w is, 3)) (d7 : decode M.cc (pc + 7) = .ok (.invokespecial ic, 3)) (d10 : decode M.cc (pc + 10) = .ok (.athrow, 1))
    (htab : M.tab = []) (hdp : 6 ≤ M.dp) (hkc : k + 1 ≤ M.kc) (hks : n + 6 ≤ M.ks) (hcat : (st.map fun v => v.category).sum ≤ 8) (hX : X cls G) : GW M Q X G k n pc L st := by
  intro p l e R s m args below meth c D dA b0 hXX H locs ls hG hS hL
  obtain ⟨hx, hb, hml, hownc, hts, hA, hret, hlk, hfl, hR, htb, hnm, hb0⟩ := id hXX
  rw [hown] at hownc
  obtain ⟨sa, hsa⟩ := hA.2.2.2.2.2.1 (is, text) hstr
  obtain ⟨a1, a2⟩ := gat ha hts hA
  refine vx_throwSW (names := exN) (A := gB b0) hx hb (nTr hfl) hownc hcls (by decide +kernel) (hts _ hk) (hts _ hini) hsa a1 ?_ hA.2.1 hA.2.2.1 hS (hL.1.trans hml.symm) d0 d3 d4 d7 d10 (fun x h => by rw [htb, htab] at h; cases h) (by rw [hR]; show 2 + 3 < M.dp; omega) (by rw [hR]; show _ + (13 * 3 + 43) ≤ 100 * M.dp; omega) (by rw [hR]; exact hkc) (by rw [hR]; exact hks) hlk (fun t _ hz ho => ⟨⟨G, hX, hG.keptAll ho⟩, ⟨Nat.le_trans hS.1 hz, fun q h1 h2 => (ho q (Nat.lt_of_lt_of_le h1 hS.1)).trans (hS.2.1 q h1 h2)⟩⟩) hS.2.2 hkc hks
  intro w hw
  rcases List.mem_cons.mp hw with rfl | hw
  · exact ot_of hk
  · rcases List.mem_cons.mp hw with rfl | hw
    · exact ot_of hini
    · exact a2 w hw
theorem GW.throwL {cls text : String} {ik is ic : Nat} (hown : M.own = RX10) (hcls : Bundle.fit cls = true) (hk : Cond.classLink RX10 ik cls ∈ gW) (hini : Cond.initialized cls ∈ gW) (ha : (vx_atS RX10 ic cls exN).all exOk = true) (hstr : (is, text) ∈ gSt)
    (d0 : decode M.cc pc = .ok (.new ik, 3)) (d3 : decode M.cc (pc + 3) = .ok (.dup, 1)) (d4 : decode M.cc (pc + 4) = .ok (.ldc is, 2)) (d6 : decode M.cc (pc + 6) = .ok (.invokespecial ic, 3)) (d9 : decode M.cc (pc + 9) = .ok (.athrow, 1))
    (htab : M.tab = []) (hdp : 6 ≤ M.dp) (hkc : k + 1 ≤ M.kc) (hks : n + 6 ≤ M.ks) (hcat : (st.map fun v => v.category).sum ≤ 8) (hX : X cls G) : GW M Q X G k n pc L st := by
  intro p l e R s m args below meth c D dA b0 hXX H locs ls hG hS hL
  obtain ⟨hx, hb, hml, hownc, hts, hA, hret, hlk, hfl, hR, htb, hnm, hb0⟩ := id hXX
  rw [hown] at hownc
  obtain ⟨sa, hsa⟩ := hA.2.2.2.2.2.1 (is, text) hstr
  obtain ⟨a1, a2⟩ := gat ha hts hA
  refine vx_throwS (names := exN) (A := gB b0) hx hb (nTr hfl) hownc hcls (by decide +kernel) (hts _ hk) (hts _ hini) hsa a1 ?_ hA.2.1 hA.2.2.1 hS (hL.1.trans hml.symm) d0 d3 d4 d6 d9 (fun x h => by rw [htb, htab] at h; cases h) (by rw [hR]; show 2 + 3 < M.dp; omega) (by rw [hR]; show _ + (13 * 3 + _) ≤ 100 * M.dp; omega) (by rw [hR]; exact hkc) (by rw [hR]; exact hks) hlk (fun t _ hz ho => ⟨⟨G, hX, hG.keptAll ho⟩, ⟨Nat.le_trans hS.1 hz, fun q h1 h2 => (ho q (Nat.lt_of_lt_of_le h1 hS.1)).trans (hS.2.1 q h1 h2)⟩⟩) hS.2.2 hkc hks
  intro w hw
  rcases List.mem_cons.mp hw with rfl | hw
  · exact ot_of hk
  · rcases List.mem_cons.mp hw with rfl | hw
    · exact ot_of hini
    · exact a2 w hw
end GWT
