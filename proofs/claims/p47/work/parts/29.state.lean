/-! the whole STORE as a state: documents, CLIP, where the POINTER is, PATCHES, QUERIES; the rest is scratch -/
def edAny (ad : Nat → Nat) (mc : Nat → Option gC) : Prop := ∃ w tk len pr pl, edAt ad mc w tk len pr pl
def tkAny (mc : Nat → Option gC) : Prop := ∃ tr, mc 8 = some (.inr (1, 20, .inr tr))
def dfAt (ad : Nat → Nat) (mc : Nat → Option gC) (tb pf : Nat → Int32) (wr : Nat → Option Nat) (cnt : Int32) : Prop :=
  mc 9 = some (.inl (1, [.ref (ad 10), .ref (ad 11), .ref (ad 12), .int cnt])) ∧ mc 10 = some (.inr (0, 2600, .inl tb)) ∧ mc 11 = some (.inr (0, 6, .inl pf)) ∧ mc 12 = some (.inr (2, 20, .inr wr))
def dfAny (ad : Nat → Nat) (mc : Nat → Option gC) : Prop := ∃ tb pf wr cnt, dfAt ad mc tb pf wr cnt
def wkAt (ad : Nat → Nat) (mc : Nat → Option gC) (cnt : Int32) (v : Nat → Option Nat) (pa st lv : Nat → Int32) : Prop :=
  mc 14 = some (.inl (9, [.int cnt, .ref (ad 15), .ref (ad 16), .ref (ad 17), .ref (ad 18)])) ∧ mc 15 = some (.inr (1, 50, .inr v)) ∧ mc 16 = some (.inr (0, 50, .inl pa)) ∧ mc 17 = some (.inr (0, 50, .inl st)) ∧ mc 18 = some (.inr (0, 50, .inl lv))
def wkAny (ad : Nat → Nat) (mc : Nat → Option gC) : Prop := ∃ cnt v pa st lv, wkAt ad mc cnt v pa st lv
def qyAt (ad : Nat → Nat) (mc : Nat → Option gC) (i : Nat) (q : List (Int32 × Int32)) : Prop := q.length ≤ 5 ∧ mc (50 + i) = some (.inl (6, [.int (nI q.length), .ref (ad (60 + i)), .ref (ad (70 + i))])) ∧
  ∃ cf nf, mc (60 + i) = some (.inr (0, 5, .inl cf)) ∧ mc (70 + i) = some (.inr (0, 5, .inl nf)) ∧ ∀ (j : Nat) (x : Int32 × Int32), q[j]? = some x → cf j = x.1 ∧ nf j = x.2
def St (im : gIm) (ad : Nat → Nat) (mc : Nat → Option gC) (ds : Nat → Tr) (cl : Tr) (at_ : Nat) (ss : List Int32) (ps : List (List OpT)) (qs : List (List (Int32 × Int32))) : Prop :=
  ((∃ cla, msAt ad mc cla ps.length qs.length ∧ isV im cla cl) ∧ dcAt im mc ds ∧ ptrAt ad mc at_ ss ∧ at_ < 6) ∧
  (ppAt ad mc ∧ ps.length ≤ 8 ∧ (∀ i, i < 8 → ∃ os, ptAt im ad mc i os) ∧ (∀ (i : Nat) (os : List OpT), ps[i]? = some os → ptAt im ad mc i os)) ∧
  (qqAt ad mc ∧ qs.length ≤ 6 ∧ (∀ i, i < 6 → qyAt ad mc i (qs.getD i []))) ∧
  (edAny ad mc ∧ tkAny mc ∧ dfAny ad mc ∧ wkAny ad mc) ∧ frG (im, ad, mc)
def scr (q : Nat) : Prop := (4 ≤ q ∧ q ≤ 6) ∨ (8 ≤ q ∧ q ≤ 12) ∨ (14 ≤ q ∧ q ≤ 18)
section MONO
variable {im im' : gIm} {ad : Nat → Nat} {mc mc' : Nat → Option gC}
theorem msAt.mono {cl pc qc : Nat} (h : msAt ad mc cl pc qc) (e : mc' 0 = mc 0) : msAt ad mc' cl pc qc := e.trans h
theorem dcAt.mono {ds : Nat → Tr} (h : dcAt im mc ds) (hle : gLe im im') (e : mc' 1 = mc 1) : dcAt im' mc' ds := by
  obtain ⟨dr, h1, h2⟩ := h
  exact ⟨dr, e.trans h1, fun i hi => by obtain ⟨a, w1, w2⟩ := h2 i hi; exact ⟨a, w1, w2.mono hle⟩⟩
theorem ptrAt.mono {at_ : Nat} {ss : List Int32} (h : ptrAt ad mc at_ ss) (e2 : mc' 2 = mc 2) (e3 : mc' 3 = mc 3) : ptrAt ad mc' at_ ss := by
  obtain ⟨h1, h2, f, h3, h4⟩ := h
  exact ⟨h1, e2.trans h2, f, e3.trans h3, h4⟩
theorem ppAt.mono (h : ppAt ad mc) (e : mc' 7 = mc 7) : ppAt ad mc' := by obtain ⟨pr, h1, h2⟩ := h; exact ⟨pr, e.trans h1, h2⟩
theorem ptAt.mono {i : Nat} {os : List OpT} (h : ptAt im ad mc i os) (hle : gLe im im') (e1 : mc' (30 + i) = mc (30 + i)) (e2 : mc' (40 + i) = mc (40 + i)) : ptAt im' ad mc' i os := by
  obtain ⟨h1, h2, hd, h3, h4⟩ := h
  exact ⟨h1, e1.trans h2, hd, e2.trans h3, fun j o hj => by obtain ⟨oa, w1, w2⟩ := h4 j o hj; exact ⟨oa, w1, w2.mono hle⟩⟩
theorem qqAt.mono (h : qqAt ad mc) (e : mc' 21 = mc 21) : qqAt ad mc' := by obtain ⟨pr, h1, h2⟩ := h; exact ⟨pr, e.trans h1, h2⟩
theorem qyAt.mono {i : Nat} {q : List (Int32 × Int32)} (h : qyAt ad mc i q) (e1 : mc' (50 + i) = mc (50 + i)) (e2 : mc' (60 + i) = mc (60 + i)) (e3 : mc' (70 + i) = mc (70 + i)) : qyAt ad mc' i q := by
  obtain ⟨h1, h2, cf, nf, h3, h4, h5⟩ := h
  exact ⟨h1, e1.trans h2, cf, nf, e2.trans h3, e3.trans h4, h5⟩
theorem edAny.mono (h : edAny ad mc) (e4 : mc' 4 = mc 4) (e5 : mc' 5 = mc 5) (e6 : mc' 6 = mc 6) : edAny ad mc' := by
  obtain ⟨w, tk, len, pr, pl, h1, h2, h3⟩ := h
  exact ⟨w, tk, len, pr, pl, e4.trans h1, e5.trans h2, e6.trans h3⟩
theorem tkAny.mono (h : tkAny mc) (e : mc' 8 = mc 8) : tkAny mc' := by obtain ⟨tr, h⟩ := h; exact ⟨tr, e.trans h⟩
theorem dfAny.mono (h : dfAny ad mc) (e9 : mc' 9 = mc 9) (e10 : mc' 10 = mc 10) (e11 : mc' 11 = mc 11) (e12 : mc' 12 = mc 12) : dfAny ad mc' := by
  obtain ⟨tb, pf, wr, cnt, h1, h2, h3, h4⟩ := h
  exact ⟨tb, pf, wr, cnt, e9.trans h1, e10.trans h2, e11.trans h3, e12.trans h4⟩
theorem wkAny.mono (h : wkAny ad mc) (e : ∀ q, 14 ≤ q → q ≤ 18 → mc' q = mc q) : wkAny ad mc' := by
  obtain ⟨cnt, v, pa, st, lv, h1, h2, h3, h4, h5⟩ := h
  exact ⟨cnt, v, pa, st, lv, (e 14 (by omega) (by omega)).trans h1, (e 15 (by omega) (by omega)).trans h2, (e 16 (by omega) (by omega)).trans h3, (e 17 (by omega) (by omega)).trans h4, (e 18 (by omega) (by omega)).trans h5⟩
variable {ds : Nat → Tr} {cl : Tr} {at_ : Nat} {ss : List Int32} {ps : List (List OpT)} {qs : List (List (Int32 × Int32))}
/-- scratch alone has changed -/
theorem St.scr (h : St im ad mc ds cl at_ ss ps qs) (hle : gLe im im') (ho : ∀ q, ¬ _root_.Jvm.Pilot.CMarlStoreLaw_law_r1597_55c78a.scr q → mc' q = mc q) (he : edAny ad mc') (ht : tkAny mc') (hd : dfAny ad mc') (hw : wkAny ad mc') : St im' ad mc' ds cl at_ ss ps qs := by
  obtain ⟨⟨⟨cla, a1, a2⟩, a3, a4, a5⟩, ⟨b1, b2, b3, b4⟩, ⟨c1, c2, c3⟩, -, f⟩ := h
  have n : ∀ q, q < 4 ∨ q = 7 ∨ q = 13 ∨ 19 ≤ q → mc' q = mc q := fun q hq => ho q (by unfold _root_.Jvm.Pilot.CMarlStoreLaw_law_r1597_55c78a.scr; omega)
  refine ⟨⟨⟨cla, a1.mono (n 0 (by omega)), a2.mono hle⟩, a3.mono hle (n 1 (by omega)), a4.mono (n 2 (by omega)) (n 3 (by omega)), a5⟩, ⟨b1.mono (n 7 (by omega)), b2, fun i hi => ?_, fun i os h => (b4 i os h).mono hle (n _ (by omega)) (n _ (by omega))⟩, ⟨c1.mono (n 21 (by omega)), c2, fun i hi => (c3 i hi).mono (n _ (by omega)) (n _ (by omega)) (n _ (by omega))⟩, ⟨he, ht, hd, hw⟩, fun q hq => (n q (by omega)).trans (f q hq)⟩
  obtain ⟨os, h⟩ := b3 i hi
  exact ⟨os, h.mono hle (n _ (by omega)) (n _ (by omega))⟩
/-- documents and the POINTER have changed -/
theorem St.doc {ds' : Nat → Tr} {at' : Nat} {ss' : List Int32} (h : St im ad mc ds cl at_ ss ps qs) (ho : ∀ q, q ≠ 1 → q ≠ 2 → q ≠ 3 → mc' q = mc q) (hd : dcAt im mc' ds') (hp : ptrAt ad mc' at' ss') (ha : at' < 6) : St im ad mc' ds' cl at' ss' ps qs := by
  obtain ⟨⟨⟨cla, a1, a2⟩, a3, a4, a5⟩, ⟨b1, b2, b3, b4⟩, ⟨c1, c2, c3⟩, ⟨d1, d2, d3, d4⟩, f⟩ := h
  have n : ∀ q, q = 0 ∨ 4 ≤ q → mc' q = mc q := fun q hq => ho q (by omega) (by omega) (by omega)
  refine ⟨⟨⟨cla, a1.mono (n 0 (by omega)), a2⟩, hd, hp, ha⟩, ⟨b1.mono (n 7 (by omega)), b2, fun i hi => ?_, fun i os h => (b4 i os h).mono (gLe.rf _) (n _ (by omega)) (n _ (by omega))⟩, ⟨c1.mono (n 21 (by omega)), c2, fun i hi => (c3 i hi).mono (n _ (by omega)) (n _ (by omega)) (n _ (by omega))⟩, ⟨d1.mono (n 4 (by omega)) (n 5 (by omega)) (n 6 (by omega)), d2.mono (n 8 (by omega)), d3.mono (n 9 (by omega)) (n 10 (by omega)) (n 11 (by omega)) (n 12 (by omega)), d4.mono fun q h1 h2 => n q (by omega)⟩, fun q hq => (n q (by omega)).trans (f q hq)⟩
  obtain ⟨os, h⟩ := b3 i hi
  exact ⟨os, h.mono (gLe.rf _) (n _ (by omega)) (n _ (by omega))⟩
/-- the object itself has changed, and PATCHES -/
theorem St.pat {ps' : List (List OpT)} {cla : Nat} {cl' : Tr} (h : St im ad mc ds cl at_ ss ps qs) (hle : gLe im im') (ho : ∀ q, q ≠ 0 → ¬ (30 ≤ q ∧ q < 50) → mc' q = mc q) (h0 : msAt ad mc' cla ps'.length qs.length) (hc : isV im' cla cl') (hl : ps'.length ≤ 8) (hany : ∀ i, i < 8 → ∃ os, ptAt im' ad mc' i os) (hps : ∀ (i : Nat) (os : List OpT), ps'[i]? = some os → ptAt im' ad mc' i os) : St im' ad mc' ds cl' at_ ss ps' qs := by
  obtain ⟨⟨⟨cla0, a1, a2⟩, a3, a4, a5⟩, ⟨b1, b2, b3, b4⟩, ⟨c1, c2, c3⟩, ⟨d1, d2, d3, d4⟩, f⟩ := h
  have n : ∀ q, (1 ≤ q ∧ q < 30) ∨ 50 ≤ q → mc' q = mc q := fun q hq => ho q (by omega) (by omega)
  exact ⟨⟨⟨cla, h0, hc⟩, a3.mono hle (n 1 (by omega)), a4.mono (n 2 (by omega)) (n 3 (by omega)), a5⟩, ⟨b1.mono (n 7 (by omega)), hl, hany, hps⟩, ⟨c1.mono (n 21 (by omega)), c2, fun i hi => (c3 i hi).mono (n _ (by omega)) (n _ (by omega)) (n _ (by omega))⟩, ⟨d1.mono (n 4 (by omega)) (n 5 (by omega)) (n 6 (by omega)), d2.mono (n 8 (by omega)), d3.mono (n 9 (by omega)) (n 10 (by omega)) (n 11 (by omega)) (n 12 (by omega)), d4.mono fun q h1 h2 => n q (by omega)⟩, fun q hq => (n q (by omega)).trans (f q hq)⟩
/-- the object itself has changed, and QUERIES -/
theorem St.qry {qs' : List (List (Int32 × Int32))} (h : St im ad mc ds cl at_ ss ps qs) (ho : ∀ q, q ≠ 0 → ¬ (50 ≤ q ∧ q < 80) → mc' q = mc q) (h0 : ∀ cla, msAt ad mc cla ps.length qs.length → msAt ad mc' cla ps.length qs'.length) (hl : qs'.length ≤ 6) (hqs : ∀ i, i < 6 → qyAt ad mc' i (qs'.getD i [])) : St im ad mc' ds cl at_ ss ps qs' := by
  obtain ⟨⟨⟨cla0, a1, a2⟩, a3, a4, a5⟩, ⟨b1, b2, b3, b4⟩, ⟨c1, c2, c3⟩, ⟨d1, d2, d3, d4⟩, f⟩ := h
  have n : ∀ q, (1 ≤ q ∧ q < 50) ∨ 80 ≤ q → mc' q = mc q := fun q hq => ho q (by omega) (by omega)
  refine ⟨⟨⟨cla0, h0 _ a1, a2⟩, a3.mono (gLe.rf _) (n 1 (by omega)), a4.mono (n 2 (by omega)) (n 3 (by omega)), a5⟩, ⟨b1.mono (n 7 (by omega)), b2, fun i hi => ?_, fun i os h => ?_⟩, ⟨c1.mono (n 21 (by omega)), hl, hqs⟩, ⟨d1.mono (n 4 (by omega)) (n 5 (by omega)) (n 6 (by omega)), d2.mono (n 8 (by omega)), d3.mono (n 9 (by omega)) (n 10 (by omega)) (n 11 (by omega)) (n 12 (by omega)), d4.mono fun q h1 h2 => n q (by omega)⟩, fun q hq => (n q (by omega)).trans (f q hq)⟩
  · obtain ⟨os, h⟩ := b3 i hi
    exact ⟨os, h.mono (gLe.rf _) (n _ (by omega)) (n _ (by omega))⟩
  · have hi : i < 8 := by
      have := (List.getElem?_eq_some_iff.mp h).1
      omega
    exact (b4 i os h).mono (gLe.rf _) (n _ (by omega)) (n _ (by omega))
end MONO
/-- what is right of a document, of an OPERATION, of a PATCH, of the whole -/
def okD (t : Tr) : Prop := wfT t ∧ szT t ≤ 50 ∧ dpT t ≤ 7
def okO (o : OpT) : Prop := opOk o ∧ ∀ v, o.2.2.2 = some v → wfT v
def okP (os : List OpT) : Prop := (∀ o ∈ os, okO o) ∧ sumSz os ≤ 50 ∧ os.length ≤ 20
def Inv (ds : Nat → Tr) (cl : Tr) (at_ : Nat) (ss : List Int32) (ps : List (List OpT)) : Prop := (∀ i, i < 6 → okD (ds i)) ∧ okD cl ∧ (∃ u, belT (ds at_) ss = some u) ∧ ∀ os ∈ ps, okP os
theorem okD.sml {t : Tr} (h : okD t) : sml t := by unfold _root_.Jvm.Pilot.CMarlStoreLaw_law_r1597_55c78a.sml; have := h.2.1; omega
