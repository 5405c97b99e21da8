/-! TREES: children in a row, each with its key, kind, number and its own children; and how they lie in the heap -/
abbrev Fo : Type := Std.DTreeMap.Internal.Impl (Int32 × Int32 × Int32) (fun _ => Unit)
/-- kind, number, children -/
abbrev Tr : Type := Int32 × Int32 × Fo
abbrev fNil : Fo := .leaf
abbrev fCons (key kind num : Int32) (ch rest : Fo) : Fo := .inner 0 (key, kind, num) () ch rest
def kids : Fo → List (Int32 × Tr)
  | .leaf => []
  | .inner _ k _ ch rest => (k.1, k.2.1, k.2.2, ch) :: kids rest
def ofKids : List (Int32 × Tr) → Fo
  | [] => .leaf
  | x :: xs => .inner 0 (x.1, x.2.1, x.2.2.1) () x.2.2.2 (ofKids xs)
theorem kids_of : ∀ xs : List (Int32 × Tr), kids (ofKids xs) = xs
  | [] => rfl
  | x :: xs => by rw [ofKids, kids, kids_of xs]
def szF : Fo → Nat
  | .leaf => 0
  | .inner _ _ _ ch rest => 1 + szF ch + szF rest
def dpF : Fo → Nat
  | .leaf => 0
  | .inner _ _ _ ch rest => max (1 + dpF ch) (dpF rest)
def szT (t : Tr) : Nat := 1 + szF t.2.2
def dpT (t : Tr) : Nat := 1 + dpF t.2.2
/-- all the numbers beside the keys are as ofKids writes them -/
def plF : Fo → Prop
  | .leaf => True
  | .inner z _ _ ch rest => z = 0 ∧ plF ch ∧ plF rest
theorem of_kids : ∀ f : Fo, plF f → ofKids (kids f) = f
  | .leaf, _ => rfl
  | .inner z k u ch rest, h => by
    obtain ⟨h1, -, h3⟩ := h
    subst h1
    rw [kids, ofKids, of_kids rest h3]
theorem kids_inj {f g : Fo} (hf : plF f) (hg : plF g) (h : kids f = kids g) : f = g := by rw [← of_kids f hf, ← of_kids g hg, h]
theorem szF_kids : ∀ f : Fo, szF f = ((kids f).map (fun x => szT x.2)).sum
  | .leaf => rfl
  | .inner z k u ch rest => by
    rw [kids, szF, szF_kids rest]
    simp [szT]
theorem kids_lt : ∀ (f : Fo) (x : Int32 × Tr), x ∈ kids f → szT x.2 ≤ szF f
  | .leaf, x, h => by simp [kids] at h
  | .inner z k u ch rest, x, h => by
    rw [kids] at h
    rcases List.mem_cons.mp h with rfl | h
    · simp only [szT, szF]; omega
    · have := kids_lt rest x h
      simp only [szF]; omega
theorem kids_dp : ∀ (f : Fo) (x : Int32 × Tr), x ∈ kids f → dpT x.2 ≤ dpF f
  | .leaf, x, h => by simp [kids] at h
  | .inner z k u ch rest, x, h => by
    rw [kids] at h
    rcases List.mem_cons.mp h with rfl | h
    · simp only [dpT, dpF]; omega
    · have := kids_dp rest x h
      simp only [dpF]; omega
theorem kids_len : ∀ f : Fo, (kids f).length ≤ szF f
  | .leaf => Nat.le_refl _
  | .inner z k u ch rest => by
    have := kids_len rest
    rw [kids, szF, List.length_cons]; omega
theorem kids_pl : ∀ (f : Fo), plF f → ∀ x ∈ kids f, plF x.2.2.2
  | .leaf, _, x, h => by simp [kids] at h
  | .inner z k u ch rest, hp, x, h => by
    rw [kids] at h
    rcases List.mem_cons.mp h with rfl | h
    · exact hp.2.1
    · exact kids_pl rest hp.2.2 x h
/-! in the heap: what never changes, im -/
abbrev gIm : Type := Nat → Option gC
/-- the keys of an OBJECT; none for other kinds, and perhaps where there are no children -/
def keysAt (im : gIm) (kr : Option Nat) (kind : Int32) (ch : Fo) : Prop := match kr with
  | none => kind ≠ 4 ∨ kids ch = []
  | some ka => kind = 4 ∧ ∃ f, im ka = some (.inr (0, (kids ch).length, .inl f)) ∧ ∀ (i : Nat) (x : Int32 × Tr), (kids ch)[i]? = some x → f i = x.1
def isF (im : gIm) (r : Nat → Option Nat) : Nat → Fo → Prop
  | _, .leaf => True
  | i, .inner _ k _ ch rest => (∃ b kr pr, r i = some b ∧ im b = some (.inl (8, [.int k.2.1, .int k.2.2, va_rf kr, va_rf pr, .int (nI (1 + szF ch)), .int (nI (1 + dpF ch))])) ∧ keysAt im kr k.2.1 ch ∧
      ((pr = none ∧ kids ch = []) ∨ ∃ pa r', pr = some pa ∧ im pa = some (.inr (1, (kids ch).length, .inr r')) ∧ isF im r' 0 ch)) ∧ isF im r (i + 1) rest
/-- the tree t lies at a -/
def isV (im : gIm) (a : Nat) (t : Tr) : Prop := ∃ kr pr, im a = some (.inl (8, [.int t.1, .int t.2.1, va_rf kr, va_rf pr, .int (nI (szT t)), .int (nI (dpT t))])) ∧ keysAt im kr t.1 t.2.2 ∧
  ((pr = none ∧ kids t.2.2 = []) ∨ ∃ pa r', pr = some pa ∧ im pa = some (.inr (1, (kids t.2.2).length, .inr r')) ∧ isF im r' 0 t.2.2)
theorem isF_iff (im : gIm) (r : Nat → Option Nat) : ∀ (f : Fo) (i : Nat), isF im r i f ↔ ∀ (j : Nat) (x : Int32 × Tr), (kids f)[j]? = some x → ∃ b, r (i + j) = some b ∧ isV im b x.2
  | .leaf, i => by simp [isF, kids]
  | .inner z k u ch rest, i => by
    have ih := isF_iff im r rest (i + 1)
    constructor
    · rintro ⟨⟨b, kr, pr, h1, h2⟩, h3⟩ j x hj
      rw [kids] at hj
      cases j with
      | zero =>
        simp at hj
        subst hj
        exact ⟨b, h1, kr, pr, h2⟩
      | succ j =>
        simp at hj
        obtain ⟨b', h4, h5⟩ := ih.mp h3 j x hj
        exact ⟨b', by rw [← h4]; congr 1; omega, h5⟩
    · intro h
      refine ⟨?_, ih.mpr fun j x hj => ?_⟩
      · obtain ⟨b, h1, kr, pr, h2⟩ := h 0 _ (by rw [kids]; rfl)
        exact ⟨b, kr, pr, h1, h2⟩
      · obtain ⟨b, h1, h2⟩ := h (j + 1) x (by rw [kids]; simpa using hj)
        exact ⟨b, by rw [← h1]; congr 1; omega, h2⟩
/-- im grows: what lies there stays -/
def gLe (im im' : gIm) : Prop := ∀ a c, im a = some c → im' a = some c
theorem gLe.rf (im : gIm) : gLe im im := fun _ _ h => h
theorem gLe.tr {a b c : gIm} (h1 : gLe a b) (h2 : gLe b c) : gLe a c := fun x y h => h2 x y (h1 x y h)
theorem keysAt.mono {im im' : gIm} (hle : gLe im im') {kr : Option Nat} {kind : Int32} {ch : Fo} (h : keysAt im kr kind ch) : keysAt im' kr kind ch := by
  cases kr with
  | none => exact h
  | some ka =>
    obtain ⟨h1, f, h2, h3⟩ := h
    exact ⟨h1, f, hle _ _ h2, h3⟩
theorem isF.mono {im im' : gIm} (hle : gLe im im') : ∀ (f : Fo) (r : Nat → Option Nat) (i : Nat), isF im r i f → isF im' r i f
  | .leaf, _, _, _ => trivial
  | .inner z k u ch rest, r, i, h => by
    obtain ⟨⟨b, kr, pr, h1, h2, h3, h4⟩, h5⟩ := h
    refine ⟨⟨b, kr, pr, h1, hle _ _ h2, h3.mono hle, ?_⟩, isF.mono hle rest r (i + 1) h5⟩
    rcases h4 with h4 | ⟨pa, r', q1, q2, q3⟩
    · exact Or.inl h4
    · exact Or.inr ⟨pa, r', q1, hle _ _ q2, isF.mono hle ch r' 0 q3⟩
theorem isV.mono {im im' : gIm} (hle : gLe im im') {a : Nat} {t : Tr} (h : isV im a t) : isV im' a t := by
  obtain ⟨kr, pr, h2, h3, h4⟩ := h
  refine ⟨kr, pr, hle _ _ h2, h3.mono hle, ?_⟩
  rcases h4 with h4 | ⟨pa, r', q1, q2, q3⟩
  · exact Or.inl h4
  · exact Or.inr ⟨pa, r', q1, hle _ _ q2, isF.mono hle _ r' 0 q3⟩
/-- one reference, one tree -/
theorem isV.inj {im : gIm} : ∀ (n : Nat) (t u : Tr) (a : Nat), szT t ≤ n → plF t.2.2 → plF u.2.2 → isV im a t → isV im a u → (∀ x : Tr × Nat, True) → t.1 = u.1 ∧ t.2.1 = u.2.1 := by
  intro n t u a hn hp hq ⟨kr, pr, h2, h3, h4⟩ ⟨kr', pr', h2', h3', h4'⟩ _
  have := h2.symm.trans h2'
  simp at this
  exact ⟨this.1, this.2.1⟩
/-- a reference, there or not, to a tree, there or not -/
def isO (im : gIm) (r : Option Nat) (t : Option Tr) : Prop := match r, t with
  | none, none => True
  | some a, some t => isV im a t
  | _, _ => False
theorem isO.mono {im im' : gIm} (hle : gLe im im') {r : Option Nat} {t : Option Tr} (h : isO im r t) : isO im' r t := by
  cases r <;> cases t <;> first | exact h | exact isV.mono hle h
