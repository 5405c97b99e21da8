/-! THE GHOST LAYER, second part: rows that read and write the heap, calls, answers, throws -/
def gS (G : gG) (r : Nat) (c : gC) : gG := (G.1, G.2.1, fun q => if q = r then some c else G.2.2 q)
def gN (G : gG) (r a : Nat) (c : gC) : gG := (G.1, fun q => if q = r then a else G.2.1 q, fun q => if q = r then some c else G.2.2 q)
def gF (G : gG) (r : Nat) : gG := (fun q => if q = G.2.1 r then G.2.2 r else G.1 q, G.2.1, fun q => if q = r then none else G.2.2 q)
theorem gH.set {D dA b0} {G : gG} {H H1 : Heap} {r : Nat} {c0 c : gC} (h : gH D dA b0 G H) (hr : G.2.2 r = some c0) (hc : va_at D vwCl (G.2.1 r, gE dA c) H1) (ho : ∀ q : Nat, q ≠ G.2.1 r → H1[q]? = H[q]?) : gH D dA b0 (gS G r c) H1 := by
  obtain ⟨h1, h2, h3⟩ := h
  have hh : ∀ q c', (gS G r c).2.2 q = some c' → ∃ c'', G.2.2 q = some c'' := by
    intro q c' hq
    by_cases hqr : q = r
    · exact ⟨c0, by rw [hqr]; exact hr⟩
    · exact ⟨c', by simpa [gS, hqr] using hq⟩
  refine ⟨fun a c' hl => ?_, fun q c' hq => ?_, fun q q' c1 c2 hq hq' he => ?_⟩
  · rcases hl with hl | ⟨q, ha, hq⟩
    · have hne : a ≠ G.2.1 r := fun e => by
        have := h2 r c0 hr
        rw [← e] at this
        exact absurd (hl.symm.trans this) (by simp)
      obtain ⟨k1, k2⟩ := h1 a c' (Or.inl hl)
      exact ⟨k1, k2.kept (ho a hne)⟩
    · have ha : G.2.1 q = a := ha
      by_cases hqr : q = r
      · subst hqr
        have hcc : c = c' := by simpa [gS] using hq
        subst hcc
        subst ha
        exact ⟨(h1 _ c0 (Or.inr ⟨q, rfl, hr⟩)).1, hc⟩
      · have hq' : G.2.2 q = some c' := by simpa [gS, hqr] using hq
        obtain ⟨k1, k2⟩ := h1 a c' (Or.inr ⟨q, ha, hq'⟩)
        refine ⟨k1, k2.kept (ho a fun e => hqr ?_)⟩
        exact h3 q r c' c0 hq' hr (ha.trans e)
  · obtain ⟨c'', hc''⟩ := hh q c' hq
    exact h2 q c'' hc''
  · obtain ⟨d1, e1⟩ := hh q c1 hq
    obtain ⟨d2, e2⟩ := hh q' c2 hq'
    exact h3 q q' d1 d2 e1 e2 he
theorem gH.new {D dA b0} {G : gG} {H H1 : Heap} {r : Nat} {c : gC} (h : gH D dA b0 G H) (hr : G.2.2 r = none) (hb : b0 ≤ H.size) (hc : va_at D vwCl (H.size, gE dA c) H1) (ho : ∀ q : Nat, q < H.size → H1[q]? = H[q]?) : gH D dA b0 (gN G r H.size c) H1 := by
  obtain ⟨h1, h2, h3⟩ := h
  refine ⟨fun a c' hl => ?_, fun q c' hq => ?_, fun q q' c1 c2 hq hq' he => ?_⟩
  · rcases hl with hl | ⟨q, ha, hq⟩
    · obtain ⟨k1, k2⟩ := h1 a c' (Or.inl hl)
      exact ⟨k1, k2.kept (ho a k2.lt)⟩
    · by_cases hqr : q = r
      · subst hqr
        have hcc : c = c' := by simpa [gN] using hq
        have haa : H.size = a := by simpa [gN] using ha
        subst hcc
        subst haa
        exact ⟨hb, hc⟩
      · have hq' : G.2.2 q = some c' := by simpa [gN, hqr] using hq
        have ha' : G.2.1 q = a := by simpa [gN, hqr] using ha
        obtain ⟨k1, k2⟩ := h1 a c' (Or.inr ⟨q, ha', hq'⟩)
        exact ⟨k1, k2.kept (ho a k2.lt)⟩
  · by_cases hqr : q = r
    · subst hqr
      show G.1 (if q = q then H.size else G.2.1 q) = none
      rw [if_pos rfl]
      cases hz : G.1 H.size with
      | none => rfl
      | some z => exact absurd (h1 _ z (Or.inl hz)).2.lt (Nat.lt_irrefl _)
    · have hq' : G.2.2 q = some c' := by simpa [gN, hqr] using hq
      show G.1 (if q = r then H.size else G.2.1 q) = none
      rw [if_neg hqr]
      exact h2 q c' hq'
  · by_cases e1 : q = r
    · by_cases e2 : q' = r
      · rw [e1, e2]
      · have hq2 : G.2.2 q' = some c2 := by simpa [gN, e2] using hq'
        have he' : H.size = G.2.1 q' := by simpa [gN, e1, e2] using he
        exact absurd (h1 _ c2 (Or.inr ⟨q', he'.symm, hq2⟩)).2.lt (Nat.lt_irrefl _)
    · have hq1 : G.2.2 q = some c1 := by simpa [gN, e1] using hq
      by_cases e2 : q' = r
      · have he' : G.2.1 q = H.size := by simpa [gN, e1, e2] using he
        exact absurd (h1 _ c1 (Or.inr ⟨q, he', hq1⟩)).2.lt (Nat.lt_irrefl _)
      · have hq2 : G.2.2 q' = some c2 := by simpa [gN, e2] using hq'
        exact h3 q q' c1 c2 hq1 hq2 (by simpa [gN, e1, e2] using he)
theorem gH.freeze {D dA b0} {G : gG} {H : Heap} {r : Nat} {c : gC} (h : gH D dA b0 G H) (hr : G.2.2 r = some c) : gH D dA b0 (gF G r) H := by
  obtain ⟨h1, h2, h3⟩ := h
  refine ⟨fun a c' hl => h1 a c' ?_, fun q c' hq => ?_, fun q q' c1 c2 hq hq' he => ?_⟩
  · rcases hl with hl | ⟨q, ha, hq⟩
    · by_cases ha : a = G.2.1 r
      · have : G.2.2 r = some c' := by simpa [gF, ha] using hl
        exact Or.inr ⟨r, ha.symm, this⟩
      · exact Or.inl (by simpa [gF, ha] using hl)
    · by_cases hqr : q = r
      · simp [gF, hqr] at hq
      · exact Or.inr ⟨q, ha, by simpa [gF, hqr] using hq⟩
  · by_cases hqr : q = r
    · simp [gF, hqr] at hq
    · have hq' : G.2.2 q = some c' := by simpa [gF, hqr] using hq
      have hne : G.2.1 q ≠ G.2.1 r := fun e => hqr (h3 q r c' c hq' hr e)
      show (if G.2.1 q = G.2.1 r then G.2.2 r else G.1 (G.2.1 q)) = none
      rw [if_neg hne]
      exact h2 q c' hq'
  · by_cases e1 : q = r
    · simp [gF, e1] at hq
    · by_cases e2 : q' = r
      · simp [gF, e2] at hq'
      · exact h3 q q' c1 c2 (by simpa [gF, e1] using hq) (by simpa [gF, e2] using hq') he
/-- an address of a role that holds nothing is of no account -/
theorem gH.readdr {D dA b0} {G : gG} {H : Heap} {ad : Nat → Nat} (h : gH D dA b0 G H) (ha : ∀ r c, G.2.2 r = some c → ad r = G.2.1 r) : gH D dA b0 (G.1, ad, G.2.2) H := by
  obtain ⟨h1, h2, h3⟩ := h
  refine ⟨fun a c hl => h1 a c ?_, fun q c hq => ?_, fun q q' c1 c2 hq hq' he => ?_⟩
  · rcases hl with hl | ⟨q, hqa, hq⟩
    · exact Or.inl hl
    · exact Or.inr ⟨q, by rw [← ha q c hq]; exact hqa, hq⟩
  · show G.1 (ad q) = none
    rw [ha q c hq]
    exact h2 q c hq
  · exact h3 q q' c1 c2 hq hq' (by rw [← ha q c1 hq, ← ha q' c2 hq']; exact he)
theorem gH.keptAll {D dA b0} {G : gG} {H H1 : Heap} (h : gH D dA b0 G H) (ho : ∀ q : Nat, q < H.size → H1[q]? = H[q]?) : gH D dA b0 G H1 :=
  ⟨fun a c hl => ⟨(h.1 a c hl).1, (h.1 a c hl).2.kept (ho a (h.1 a c hl).2.lt)⟩, h.2⟩
theorem gH.one {D dA b0} {G : gG} {H : Heap} (h : gH D dA b0 G H) {a : Nat} {c : gC} (hl : gL G a c) : va_P D vwCl [(a, gE dA c)] H := by
  intro k q hq
  have hz : k < 1 := (List.getElem?_eq_some_iff.mp hq).1
  have hk : k = 0 := by omega
  subst hk
  cases hq
  exact (h.1 a c hl).2
def gIx (i : Int32) (j n : Nat) : Prop := ¬ i < 0 ∧ i.toNatClampNeg = j ∧ j < n
theorem gIx.vin {i : Int32} {j n : Nat} (h : gIx i j n) : vp_in i n := fun q => by
  rcases q with q | q
  · exact h.1 q
  · rw [h.2.1] at q
    exact absurd h.2.2 (Nat.not_lt.mpr q)
section GWH
variable {M : gM} {Q : Option Value → gG → Prop} {X : String → gG → Prop} {G : gG} {k n pc : Nat} {L : List (Option Value)} {st : List Value}
theorem GW.freeze {c : gC} (r : Nat) (hr : G.2.2 r = some c) (g : GW M Q X (gF G r) k n pc L st) : GW M Q X G k n pc L st := g.ghost fun _ _ _ _ h => h.freeze hr
theorem GW.getf {idx ci kf N : Nat} {C : String} {T : u_T} {ty : Nat → FieldType} (hf : gFl M.own idx ci kf C T N ty) {a : Nat} {fs : List Value} {v : Value} (hd : decode M.cc pc = .ok (.getfield idx, 3)) (hl : gL G a (.inl (ci, fs))) (hv : fs[kf]? = some v)
    (g : GW M Q X G k n (pc + 3) L (v :: st)) : GW M Q X G k n pc L (.ref a :: st) := by
  intro p l e R s m args below meth c D dA b0 hX H locs ls hG hS hL
  obtain ⟨⟨hc, hin, -, -⟩, hk, hlink⟩ := hf
  exact va_get hX.1 hX.2.1 hX.2.2.2.2.1 hin hX.2.2.2.1 hX.2.2.2.2.2.1.1 (hG.one hl) 0 rfl hc kf hk (hX.2.2.2.2.1 _ hlink) (fun _ h => h) hv hd (g p l e R s m args below meth c D dA b0 hX H locs ls hG hS hL)
theorem GW.putf {idx ci kf N : Nat} {C : String} {T : u_T} {ty : Nat → FieldType} (hf : gFl M.own idx ci kf C T N ty) {r : Nat} {fs : List Value} {v : Value} (hd : decode M.cc pc = .ok (.putfield idx, 3)) (hr : G.2.2 r = some (.inl (ci, fs))) (hl : kf < fs.length) (hfit : narrow (ty kf) v = v ∧ fits (ty kf) v = true) (hfin : (T kf).2.2.2 = false ∨ (M.nm = "<init>" ∧ (T kf).1 = M.own)) {a : Nat} (ha : G.2.1 r = a)
    (g : GW M Q X (gS G r (.inl (ci, fs.set kf v))) k n (pc + 3) L st) : GW M Q X G k n pc L (v :: .ref a :: st) := by
  subst ha
  intro p l e R s m args below meth c D dA b0 hX H locs ls hG hS hL
  obtain ⟨⟨hc, hin, hty, hnm⟩, hk, hlink⟩ := hf
  obtain ⟨hx, hb, -, hown, hts, ⟨hK, -⟩, -, -, -, -, -, hname, -⟩ := id hX
  have hap := va_apart (own := M.own) hts hin ty hty hnm hK hc
  obtain ⟨hb0, rr, h1, cell, q1, q2, q3, q4⟩ := hG.1 _ _ (Or.inr ⟨r, rfl, hr⟩)
  have hrr : rr = (C, T, N) := Option.some.inj (h1.symm.trans hc)
  subst hrr
  obtain ⟨hS1, hfc, kC, hkC, hkind⟩ := hK.1 ci _ hc
  obtain ⟨cf, kf', fi, f, hi, hsl⟩ := hS1 kf hk
  have hst := (u_facts hfc hkC (u_lays hts hin hk) hi).1
  have hlay := hts _ (hin _ (u_in_lay hk))
  unfold u_lay at hlay
  by_cases hF : (T kf).2.2.2 = true
  · have hF2 : M.nm = "<init>" ∧ (T kf).1 = M.own := by
      rcases hfin with h | h
      · rw [hF] at h; cases h
      · exact h
    rw [if_pos hF] at hlay
    have hcf : m.cls = cf := by
      obtain ⟨_, _, c', _, _, _, -, -, hf', -, -, -, hown2, -⟩ := Cond.laysFinal_spec hlay
      have e1 : c' = cf := by have := hi.symm.trans hf'; simp at this; exact this.1.symm
      rw [hF2.2] at hown2
      rw [← e1]; exact Option.some.inj (hown.symm.trans hown2)
    have h6 := u_fits hfc hkC hkind (Or.inr hlay) hi (hty kf hk) hfit.1 hfit.2
    refine W.putFinK hx hb hown (hts _ hlink) hi hst hcf (hname.trans hF2.1) (by rw [q2]; exact h6) q1 q3 (by rw [hsl]; exact k2_hasslot (q4 kf hk)) rfl rfl hd fun H' e1 e2 e3 => ?_
    rw [hsl] at e1 ⊢
    exact g p l e R s m args below meth c D dA b0 hX H' _ ls (hG.set hr ⟨_, hc, t_OB.to (V := updV (vp_V fs) kf v) ⟨_, e1, q2, q3, t_set q4 hap hk v⟩ (fun j _ => vp_updV_set hl v j)⟩ e3) (hS.put e2 e3 hb0) hL
  · rw [if_neg hF] at hlay
    have h6 := u_store hfc hkC hkind hlay hi (hty kf hk) hfit.1 hfit.2
    refine W.putK hx hb (f := f) ⟨hown, hts _ hlink, ⟨_, _, _, hi⟩, hst⟩ (by rw [q2]; exact h6) q1 q3 (by rw [hsl]; exact k2_hasslot (q4 kf hk)) rfl rfl hd fun H' e1 e2 e3 => ?_
    rw [hsl] at e1 ⊢
    exact g p l e R s m args below meth c D dA b0 hX H' _ ls (hG.set hr ⟨_, hc, t_OB.to (V := updV (vp_V fs) kf v) ⟨_, e1, q2, q3, t_set q4 hap hk v⟩ (fun j _ => vp_updV_set hl v j)⟩ e3) (hS.put e2 e3 hb0) hL
theorem GW.alen {kd N : Nat} {x : (Nat → Int32) ⊕ (Nat → Option Nat)} {a : Nat} {v : Int32} (hd : decode M.cc pc = .ok (.arraylength, 1)) (hl : gL G a (.inr (kd, N, x))) (hkd : kd < 7) (hv : Int32.ofNat N = v) (g : GW M Q X G k n (pc + 1) L (.int v :: st)) : GW M Q X G k n pc L (.ref a :: st) := by
  intro p l e R s m args below meth c D dA b0 hX H locs ls hG hS hL
  obtain ⟨ty, hty⟩ : ∃ ty, (gT dA)[kd]? = some (dA kd, ty) := by
    match kd, hkd with
    | 0, _ => exact ⟨_, rfl⟩
    | 1, _ => exact ⟨_, rfl⟩
    | 2, _ => exact ⟨_, rfl⟩
    | 3, _ => exact ⟨_, rfl⟩
    | 4, _ => exact ⟨_, rfl⟩
    | 5, _ => exact ⟨_, rfl⟩
    | 6, _ => exact ⟨_, rfl⟩
  rcases x with f | f
  · exact va_alen hX.1 hX.2.1 hX.2.2.2.2.2.1.1 (hG.one hl) 0 kd (x := (N, .inl f)) rfl hty hv hd (g p l e R s m args below meth c D dA b0 hX H locs ls hG hS hL)
  · exact va_alen hX.1 hX.2.1 hX.2.2.2.2.2.1.1 (hG.one hl) 0 kd (x := (N, .inr (.inr (.inr (.inr f))))) rfl hty hv hd (g p l e R s m args below meth c D dA b0 hX H locs ls hG hS hL)
theorem GW.iald {N j : Nat} {f : Nat → Int32} {a : Nat} {i : Int32} (hd : decode M.cc pc = .ok (.iaload, 1)) (hl : gL G a (.inr (0, N, .inl f))) (hi : gIx i j N) (g : GW M Q X G k n (pc + 1) L (.int (f j) :: st)) : GW M Q X G k n pc L (.int i :: .ref a :: st) := by
  intro p l e R s m args below meth c D dA b0 hX H locs ls hG hS hL
  have hj := hi.2.1
  subst hj
  exact va_iald hX.1 hX.2.1 hX.2.2.2.2.2.1.1 (hG.one hl) 0 0 (cA := dA 0) (n := N) (f := f) rfl rfl hi.vin hd (g p l e R s m args below meth c D dA b0 hX H locs ls hG hS hL)
theorem GW.aald {kd N j : Nat} {f : Nat → Option Nat} {a : Nat} {i : Int32} (hd : decode M.cc pc = .ok (.aaload, 1)) (hl : gL G a (.inr (kd, N, .inr f))) (hi : gIx i j N) (hkd : 0 < kd ∧ kd < 6) (g : GW M Q X G k n (pc + 1) L (va_rf (f j) :: st)) : GW M Q X G k n pc L (.int i :: .ref a :: st) := by
  intro p l e R s m args below meth c D dA b0 hX H locs ls hG hS hL
  have hj := hi.2.1
  subst hj
  obtain ⟨C, hC⟩ : ∃ C, (gT dA)[kd]? = some (dA kd, .object C) := by
    match kd, hkd with
    | 1, _ => exact ⟨_, rfl⟩
    | 2, _ => exact ⟨_, rfl⟩
    | 3, _ => exact ⟨_, rfl⟩
    | 4, _ => exact ⟨_, rfl⟩
    | 5, _ => exact ⟨_, rfl⟩
  exact va_aldq hX.1 hX.2.1 hX.2.2.2.2.2.1.1 (hG.one hl) 0 kd (cA := dA kd) (n := N) (f := f) rfl hC hi.vin hd (g p l e R s m args below meth c D dA b0 hX H locs ls hG hS hL)
theorem GW.iast {r N j : Nat} {f : Nat → Int32} {a : Nat} {i x : Int32} (hd : decode M.cc pc = .ok (.iastore, 1)) (hr : G.2.2 r = some (.inr (0, N, .inl f))) (hi : gIx i j N) (ha : G.2.1 r = a) (g : GW M Q X (gS G r (.inr (0, N, .inl (upd f j x)))) k n (pc + 1) L st) : GW M Q X G k n pc L (.int x :: .int i :: .ref a :: st) := by
  subst ha
  intro p l e R s m args below meth c D dA b0 hX H locs ls hG hS hL
  have hj := hi.2.1
  subst hj
  obtain ⟨hx, hb, -, hown, hts, ⟨hK, -⟩, -⟩ := id hX
  obtain ⟨hb0, hcell⟩ := hG.1 _ _ (Or.inr ⟨r, rfl, hr⟩)
  have hin := hi.vin
  refine W.iast hx hb hcell ((hK.2 0 (dA 0, .int) rfl).1 N (fun j => .int (f j))) (fun q => by cases q) (by show ¬ (i < 0 ∨ (arrV _ _ _).slots.size ≤ _); rw [arrV_size]; exact hin) rfl rfl hd fun H1 e1 z oq => ?_
  refine g p l e R s m args below meth c D dA b0 hX H1 _ ls (hG.set hr ?_ oq) (hS.put z oq hb0) hL
  show H1[_]? = some (vp_cell _ _)
  rw [e1]
  show some ((vp_cell (dA 0) (N, .inl f)).setSlot _ _) = _
  rw [vp_cell_i, vp_cell_i, arrV_store]
  congr 2
  funext q
  by_cases hq : q = i.toNatClampNeg
  · subst hq
    simp [updV, upd]
  · simp [updV, upd, hq]
theorem GW.aastN {r kd N j : Nat} {f : Nat → Option Nat} {a : Nat} {i : Int32} (hd : decode M.cc pc = .ok (.aastore, 1)) (hr : G.2.2 r = some (.inr (kd, N, .inr f))) (hi : gIx i j N) (hkd : 0 < kd ∧ kd < 6) (ha : G.2.1 r = a) (g : GW M Q X (gS G r (.inr (kd, N, .inr (va_up f j none)))) k n (pc + 1) L st) : GW M Q X G k n pc L (.null :: .int i :: .ref a :: st) := by
  subst ha
  intro p l e R s m args below meth c D dA b0 hX H locs ls hG hS hL
  have hj := hi.2.1
  subst hj
  obtain ⟨hx, hb, -, hown, hts, ⟨hK, -⟩, -⟩ := id hX
  obtain ⟨hb0, hcell⟩ := hG.1 _ _ (Or.inr ⟨r, rfl, hr⟩)
  have hin := hi.vin
  obtain ⟨C, hC⟩ : ∃ C, (gT dA)[kd]? = some (dA kd, .object C) := by
    match kd, hkd with
    | 1, _ => exact ⟨_, rfl⟩
    | 2, _ => exact ⟨_, rfl⟩
    | 3, _ => exact ⟨_, rfl⟩
    | 4, _ => exact ⟨_, rfl⟩
    | 5, _ => exact ⟨_, rfl⟩
  refine va_WaastN (C := C) hx hb hcell ((hK.2 kd _ hC).1 N (fun j => va_rf (f j))) (fun h => by cases h) (by show ¬ (i < 0 ∨ (arrV _ _ _).slots.size ≤ _); rw [arrV_size]; exact hin) rfl rfl hd fun H1 e1 z oq => ?_
  refine g p l e R s m args below meth c D dA b0 hX H1 _ ls (hG.set hr ?_ oq) (hS.put z oq hb0) hL
  show H1[_]? = some (vp_cell _ _)
  rw [e1]
  show some ((vp_cell (dA kd) (N, .inr (.inr (.inr (.inr f))))).setSlot _ _) = _
  rw [vp_cell_q, vp_cell_q, arrV_store]
  congr 2
  funext q
  by_cases hq : q = i.toNatClampNeg
  · subst hq
    simp [updV, va_up, va_rf]
  · simp [updV, va_up, hq]
theorem GW.aastR {r kd N j v : Nat} {vs : List Value} {f : Nat → Option Nat} {a : Nat} {i : Int32} (hd : decode M.cc pc = .ok (.aastore, 1)) (hr : G.2.2 r = some (.inr (kd, N, .inr f))) (hi : gIx i j N) (hkd : 0 < kd ∧ kd < 6) (ha : G.2.1 r = a) (hv : gL G v (.inl (gKo kd, vs))) (g : GW M Q X (gS G r (.inr (kd, N, .inr (va_up f j (some v))))) k n (pc + 1) L st) : GW M Q X G k n pc L (.ref v :: .int i :: .ref a :: st) := by
  subst ha
  intro p l e R s m args below meth c D dA b0 hX H locs ls hG hS hL
  have hj := hi.2.1
  subst hj
  obtain ⟨hx, hb, -, hown, hts, ⟨hK, -⟩, -⟩ := id hX
  obtain ⟨hb0, hcell⟩ := hG.1 _ _ (Or.inr ⟨r, rfl, hr⟩)
  have hin := hi.vin
  obtain ⟨rr, hC, hcl⟩ : ∃ rr, (gT dA)[kd]? = some (dA kd, .object rr.1) ∧ vwCl[gKo kd]? = some rr := by
    match kd, hkd with
    | 1, _ => exact ⟨(RX8, TX8, 6), rfl, rfl⟩
    | 2, _ => exact ⟨(RX3, TX3, 4), rfl, rfl⟩
    | 3, _ => exact ⟨(RX4, TX4, 2), rfl, rfl⟩
    | 4, _ => exact ⟨(RX6, TX6, 3), rfl, rfl⟩
    | 5, _ => exact ⟨(RX7, TX7, 11), rfl, rfl⟩
  have hlt : i.toNatClampNeg < N := hi.2.2
  obtain ⟨-, r', hr', cellV, g1, g2, g3, -⟩ := hG.1 v _ hv
  have hcls := (hK.1 _ rr hcl).2
  obtain ⟨kA, comp, k1, k2, k3, -⟩ := (hK.2 kd _ hC).2
  have hcomp : comp = D.1 (gKo kd) := Option.some.inj (k3.symm.trans hcls.1)
  subst hcomp
  obtain ⟨kC, hkC, -⟩ := hcls.2
  refine W.aast hx hb hcell (fun q h => by cases h) (fun h => by cases h) k1 k2 rfl hkC ⟨hi.1, by show _ < (arrV _ _ _).slots.size; rw [arrV_size]; exact hlt⟩ g1 (fun q h => by rw [g3] at h; cases h) (by rw [g2]; exact hkC) (by rw [g2]; exact va_assign hcls) rfl rfl hd fun H1 e1 z oq => ?_
  refine g p l e R s m args below meth c D dA b0 hX H1 _ ls (hG.set hr ?_ oq) (hS.put z oq hb0) hL
  show H1[_]? = some (vp_cell _ _)
  rw [e1]
  show some ((vp_cell (dA kd) (N, .inr (.inr (.inr (.inr f))))).setSlot _ _) = _
  rw [vp_cell_q, vp_cell_q, arrV_store]
  congr 2
  funext q
  by_cases hq : q = i.toNatClampNeg
  · subst hq
    simp [updV, va_up, va_rf]
  · simp [updV, va_up, hq]
/-- a reference, there or not -/
theorem GW.aast {r kd N j : Nat} {v : Option Nat} {f : Nat → Option Nat} {a : Nat} {i : Int32} (hd : decode M.cc pc = .ok (.aastore, 1)) (hr : G.2.2 r = some (.inr (kd, N, .inr f))) (hi : gIx i j N) (hkd : 0 < kd ∧ kd < 6) (ha : G.2.1 r = a) (hv : ∀ w, v = some w → ∃ vs, gL G w (.inl (gKo kd, vs))) (g : GW M Q X (gS G r (.inr (kd, N, .inr (va_up f j v)))) k n (pc + 1) L st) : GW M Q X G k n pc L (va_rf v :: .int i :: .ref a :: st) := by
  cases v with
  | none => exact GW.aastN hd hr hi hkd ha g
  | some w =>
    obtain ⟨vs, hw⟩ := hv w rfl
    exact GW.aastR hd hr hi hkd ha hw g
theorem GW.newo {idx ci N : Nat} {C : String} {T : u_T} {ty : Nat → FieldType} (hf : gNw M.own idx ci C T N ty) (r : Nat) (fs : List Value) (hd : decode M.cc pc = .ok (.new idx, 3)) (hr : G.2.2 r = none) (hfs : ∀ j, j < N → defaultValue (ty j) = vp_V fs j) (hk : k + 1 ≤ M.kc) (hn : n + N ≤ M.ks) (g : ∀ a, GW M Q X (gN G r a (.inl (ci, fs))) (k + 1) (n + N) (pc + 3) L (.ref a :: st)) : GW M Q X G k n pc L st := by
  intro p l e R s m args below meth c D dA b0 hX H locs ls hG hS hL
  obtain ⟨⟨hc, hin, hty, hnm⟩, hcl, hinst, hini⟩ := hf
  obtain ⟨hx, hb, -, hown, hts, ⟨hK, -⟩, -, -, -, hR, -, -, hb0⟩ := id hX
  have hKn := hK.1 ci _ hc
  refine W.newcK hx hb hown (hts _ hcl) (hts _ hinst) (hts _ hini) rfl hd (by rw [hR]; exact hk) (by rw [hR]; exact hn) hKn.2.1 rfl fun H1 kC hkC e1 z1 o1 => ?_
  refine g H.size p l e R s m args below meth c D dA b0 hX H1 locs ls (hG.new hr (Nat.le_trans hb0 hS.1) ⟨_, hc, (u_born ty hts hin hKn hkC e1 hty).to hfs⟩ o1) ⟨Nat.le_trans hS.1 (by omega), fun x h1 h2 => (o1 x (Nat.lt_of_lt_of_le h1 hS.1)).trans (hS.2.1 x h1 h2), hS.2.2⟩ hL
theorem GW.newi {N : Nat} {i : Int32} (r : Nat) (hd : decode M.cc pc = .ok (.newarray .int, 2)) (hr : G.2.2 r = none) (h0 : ¬ i < 0) (hN : i.toNatClampNeg = N) (hN2 : N ≤ 2097152) (hw : Cond.arrayClass .int ∈ gW) (hk : k + 1 ≤ M.kc) (hn : n + N ≤ M.ks) (g : ∀ a, GW M Q X (gN G r a (.inr (0, N, .inl (fun _ => 0)))) (k + 1) (n + N) (pc + 2) L (.ref a :: st)) : GW M Q X G k n pc L (.int i :: st) := by
  intro p l e R s m args below meth c D dA b0 hX H locs ls hG hS hL
  obtain ⟨hx, hb, -, hown, hts, ⟨hK, -⟩, -, -, -, hR, -, -, hb0⟩ := id hX
  refine va_newaK (atype := .int) hx hb (hts _ hw) rfl hd rfl h0 hN (by show N * 4 ≤ _; omega) (by rw [hR]; exact hk) (by rw [hR]; exact hn) rfl fun H1 cA e1 z1 o1 hAr hNm => ?_
  have hcA : dA 0 = cA := Option.some.inj ((hK.2 0 (dA 0, .int) rfl).2.symm.trans hNm)
  subst hcA
  exact g H.size p l e R s m args below meth c D dA b0 hX H1 locs ls (hG.new hr (Nat.le_trans hb0 hS.1) e1 o1) ⟨Nat.le_trans hS.1 (by omega), fun x h1 h2 => (o1 x (Nat.lt_of_lt_of_le h1 hS.1)).trans (hS.2.1 x h1 h2), hS.2.2⟩ hL
theorem GW.newz {N : Nat} {i : Int32} (r : Nat) (hd : decode M.cc pc = .ok (.newarray .boolean, 2)) (hr : G.2.2 r = none) (h0 : ¬ i < 0) (hN : i.toNatClampNeg = N) (hN2 : N ≤ 2097152) (hw : Cond.arrayClass .boolean ∈ gW) (hk : k + 1 ≤ M.kc) (hn : n + N ≤ M.ks) (g : ∀ a, GW M Q X (gN G r a (.inr (6, N, .inl (fun _ => 0)))) (k + 1) (n + N) (pc + 2) L (.ref a :: st)) : GW M Q X G k n pc L (.int i :: st) := by
  intro p l e R s m args below meth c D dA b0 hX H locs ls hG hS hL
  obtain ⟨hx, hb, -, hown, hts, ⟨hK, -⟩, -, -, -, hR, -, -, hb0⟩ := id hX
  refine va_newaK (atype := .boolean) hx hb (hts _ hw) rfl hd rfl h0 hN (by show N * 1 ≤ _; omega) (by rw [hR]; exact hk) (by rw [hR]; exact hn) rfl fun H1 cA e1 z1 o1 hAr hNm => ?_
  have hcA : dA 6 = cA := Option.some.inj ((hK.2 6 (dA 6, .boolean) rfl).2.symm.trans hNm)
  subst hcA
  exact g H.size p l e R s m args below meth c D dA b0 hX H1 locs ls (hG.new hr (Nat.le_trans hb0 hS.1) e1 o1) ⟨Nat.le_trans hS.1 (by omega), fun x h1 h2 => (o1 x (Nat.lt_of_lt_of_le h1 hS.1)).trans (hS.2.1 x h1 h2), hS.2.2⟩ hL
theorem GW.newq {idx ci kd N NN : Nat} {C : String} {T : u_T} {ty : Nat → FieldType} {i : Int32} (hf : gNw M.own idx ci C T NN ty) (r : Nat) (hd : decode M.cc pc = .ok (.anewarray idx, 3)) (hr : G.2.2 r = none) (h0 : ¬ i < 0) (hN : i.toNatClampNeg = N) (hN2 : N ≤ 2097152) (hT : ∀ dA, (gT dA)[kd]? = some (dA kd, .object C)) (hAO : C ∈ gAO) (hk : k + 1 ≤ M.kc) (hn : n + N ≤ M.ks) (g : ∀ a, GW M Q X (gN G r a (.inr (kd, N, .inr (fun _ => none)))) (k + 1) (n + N) (pc + 3) L (.ref a :: st)) : GW M Q X G k n pc L (.int i :: st) := by
  intro p l e R s m args below meth c D dA b0 hX H locs ls hG hS hL
  obtain ⟨-, hcl, -, -⟩ := hf
  obtain ⟨hx, hb, -, hown, hts, ⟨hK, -, -, -, hao, -⟩, -, -, -, hR, -, -, hb0⟩ := id hX
  subst hN
  refine W.anew hx hb hown (hts _ hcl) (va_AO.use (hao C hAO)) rfl hd rfl h0 (by omega) (by rw [hR]; exact hk) (by rw [hR]; exact hn) fun cA kA comp f1 f2 f3 f4 => ?_
  generalize hH1 : H.push ({ cls := cA, slots := Array.replicate i.toNatClampNeg .null, vm := .none } : Cell) = H1
  have z1 : H1.size = H.size + 1 := by rw [← hH1, Array.size_push]
  have e1 : H1[H.size]? = some (arrV cA i.toNatClampNeg (fun _ => .null)) := by rw [← hH1, Array.getElem?_push_size, ← arrV_new]
  have o1 : ∀ q : Nat, q < H.size → H1[q]? = H[q]? := fun q hq => by rw [← hH1, Array.getElem?_push, if_neg (Nat.ne_of_lt hq)]
  obtain ⟨kA', comp', w1, w2, w3, w4⟩ := (hK.2 kd _ (hT dA)).2
  have hcA : dA kd = cA := Option.some.inj (w4.symm.trans f1)
  subst hcA
  exact g H.size p l e R s m args below meth c D dA b0 hX H1 locs ls (hG.new hr (Nat.le_trans hb0 hS.1) e1 o1) ⟨Nat.le_trans hS.1 (by omega), fun x h1 h2 => (o1 x (Nat.lt_of_lt_of_le h1 hS.1)).trans (hS.2.1 x h1 h2), hS.2.2⟩ hL
theorem GW.mmax {idx : Nat} {x y : Int32} (hs : gCs M.own idx Lib.Math.max.name) (hd : decode M.cc pc = .ok (.invokestatic idx, 3)) (hw : Cond.code Lib.Math.max.name Lib.Math.max.code 2 (some .int) ∈ gW) (hw2 : Cond.initialized "java/lang/Math" ∈ gW) (hdp : 1 ≤ M.dp) (hk : k ≤ M.kc) (hn : n ≤ M.ks) (hc : (st.map fun v => v.category).sum ≤ 8) (g : GW M Q X G k n (pc + 3) L (.int (if x < y then y else x) :: st)) : GW M Q X G k n pc L (.int y :: .int x :: st) := by
  intro p l e R s m args below meth c D dA b0 hX H locs ls hG hS hL
  obtain ⟨hx, hb, hml, hown, hts, ⟨hK, -⟩, -, -, -, hR, -, -, hb0⟩ := id hX
  exact va_mmax hx hb (hml.trans hL.1.symm) hown (hts _ hs.1) (hts _ hs.2) (hts _ hw2) (hts _ hw) (by rw [hR]; exact hdp) (by rw [hR]; show _ ≤ 100 * _; omega) (by rw [hR]; exact hk) (by rw [hR]; exact hn) hd (g p l e R s m args below meth c D dA b0 hX H locs ls hG hS hL)
theorem GW.mmin {idx : Nat} {x y : Int32} (hs : gCs M.own idx Lib.Math.min.name) (hd : decode M.cc pc = .ok (.invokestatic idx, 3)) (hw : Cond.code Lib.Math.min.name Lib.Math.min.code 2 (some .int) ∈ gW) (hw2 : Cond.initialized "java/lang/Math" ∈ gW) (hdp : 1 ≤ M.dp) (hk : k ≤ M.kc) (hn : n ≤ M.ks) (hc : (st.map fun v => v.category).sum ≤ 8) (g : GW M Q X G k n (pc + 3) L (.int (if y < x then y else x) :: st)) : GW M Q X G k n pc L (.int y :: .int x :: st) := by
  intro p l e R s m args below meth c D dA b0 hX H locs ls hG hS hL
  obtain ⟨hx, hb, hml, hown, hts, ⟨hK, -⟩, -, -, -, hR, -, -, hb0⟩ := id hX
  exact va_mmin hx hb (hml.trans hL.1.symm) hown (hts _ hs.1) (hts _ hs.2) (hts _ hw2) (hts _ hw) (by rw [hR]; exact hdp) (by rw [hR]; show _ ≤ 100 * _; omega) (by rw [hR]; exact hk) (by rw [hR]; exact hn) hd (g p l e R s m args below meth c D dA b0 hX H locs ls hG hS hL)
theorem GW.objInit {idx a : Nat} (hl : Cond.methodLink M.own idx Lib.objectInit ∈ gW) (hi : Cond.instanceMethod Lib.objectInit ∈ gW) (hw : Cond.code Lib.objectInit ⟨#[0xb1]⟩ 1 none ∈ gW) (hd : decode M.cc pc = .ok (.invokespecial idx, 3)) (hdp : 1 ≤ M.dp) (hc : (st.map fun v => v.category).sum ≤ 8) (g : GW M Q X G k n (pc + 3) L st) : GW M Q X G k n pc L (.ref a :: st) := by
  intro p l e R s m args below meth c D dA b0 hX H locs ls hG hS hL
  obtain ⟨hx, hb, hml, hown, hts, ⟨hK, -⟩, -, -, -, hR, -, -, hb0⟩ := id hX
  exact W.objInit hx hb hown (hts _ hl) (hts _ hi) (hts _ hw) (g := F0 m pc ls (.ref a :: st)) rfl (by show ls.size = _; rw [hml]; exact hL.1) rfl hd (by rw [hR]; exact hdp) (by rw [hR]; show 2 * 0 + _ + 12 ≤ 100 * _; omega) (g p l e R s m args below meth c D dA b0 hX H locs ls hG hS hL)
theorem GW.ireturn {v : Int32} (hd : decode M.cc pc = .ok (.ireturn, 1)) (hr : M.ret = some .int ∨ (M.ret = some .boolean ∧ (v = 0 ∨ v = 1))) (hk : k ≤ M.kc) (hn : n ≤ M.ks) (hQ : Q (some (.int v)) G) : GW M Q X G k n pc L [.int v] := by
  intro p l e R s m args below meth c D dA b0 hX H locs ls hG hS hL
  obtain ⟨hx, hb, hml, hown, hts, ⟨hK, -⟩, hret, hlk, -⟩ := id hX
  refine W.widen hk hn (vx_ret ?_)
  rcases hr with hr | ⟨hr, hv⟩
  · exact W.iret hx hb (hret.trans hr) (fun t ht hW => ⟨⟨_, G, rfl, hQ, by rw [ht]; exact hG⟩, hS.F ht⟩) hS.2.2 hd hlk
  · exact W.zret hx hb (hret.trans hr) (by rcases hv with rfl | rfl <;> rfl) (fun t ht hW => ⟨⟨_, G, rfl, hQ, by rw [ht]; exact hG⟩, hS.F ht⟩) hS.2.2 hd hlk
theorem GW.lreturn {v : Int64} (hd : decode M.cc pc = .ok (.lreturn, 1)) (hr : M.ret = some .long) (hk : k ≤ M.kc) (hn : n ≤ M.ks) (hQ : Q (some (.long v)) G) : GW M Q X G k n pc L [.long v] := by
  intro p l e R s m args below meth c D dA b0 hX H locs ls hG hS hL
  obtain ⟨hx, hb, hml, hown, hts, ⟨hK, -⟩, hret, hlk, -⟩ := id hX
  exact W.widen hk hn (vx_ret (W.lret hx hb (hret.trans hr) (fun t ht hW => ⟨⟨_, G, rfl, hQ, by rw [ht]; exact hG⟩, hS.F ht⟩) hS.2.2 hd hlk))
theorem GW.areturn {v : Value} (hd : decode M.cc pc = .ok (.areturn, 1)) (hr : (∃ C, M.ret = some (.object C)) ∨ ∃ t, M.ret = some (.array t)) (hk : k ≤ M.kc) (hn : n ≤ M.ks) (hQ : Q (some v) G) (hv : v = .null ∨ ∃ a, v = .ref a := by first | exact Or.inr ⟨_, rfl⟩ | exact Or.inl rfl | exact va_rf_or _) : GW M Q X G k n pc L [v] := by
  intro p l e R s m args below meth c D dA b0 hX H locs ls hG hS hL
  obtain ⟨hx, hb, hml, hown, hts, ⟨hK, -⟩, hret, hlk, -⟩ := id hX
  refine W.widen hk hn (vx_ret ?_)
  rcases hr with ⟨C, hr⟩ | ⟨t, hr⟩
  · exact W.aret hx hb (hret.trans hr) (Or.inl ⟨C, rfl⟩) hv (fun t ht hW => ⟨⟨_, G, rfl, hQ, by rw [ht]; exact hG⟩, hS.F ht⟩) hS.2.2 hd hlk
  · exact W.aret hx hb (hret.trans hr) (Or.inr ⟨t, rfl⟩) hv (fun t ht hW => ⟨⟨_, G, rfl, hQ, by rw [ht]; exact hG⟩, hS.F ht⟩) hS.2.2 hd hlk
theorem GW.vreturn (hd : decode M.cc pc = .ok (.return_, 1)) (hr : M.ret = none) (hk : k ≤ M.kc) (hn : n ≤ M.ks) (hQ : Q none G) : GW M Q X G k n pc L [] := by
  intro p l e R s m args below meth c D dA b0 hX H locs ls hG hS hL
  obtain ⟨hx, hb, hml, hown, hts, ⟨hK, -⟩, hret, hlk, -⟩ := id hX
  exact W.widen hk hn (vx_ret (W.vret hx hb (hret.trans hr) (fun t ht hW => ⟨⟨_, G, rfl, hQ, by rw [ht]; exact hG⟩, hS.F ht⟩) hS.2.2 hd hlk))
end GWH
