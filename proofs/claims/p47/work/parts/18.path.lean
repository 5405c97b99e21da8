/-! trees along a path: one put in another's place -/
theorem kid_ex {t : Tr} {j : Nat} (h : j < wd t) : ∃ x, (kids t.2.2)[j]? = some x ∧ kid t j = some x.2 := ⟨_, List.getElem?_eq_getElem h, kid_some (List.getElem?_eq_getElem h)⟩
theorem kid_lt {t c : Tr} {j : Nat} (h : kid t j = some c) : j < wd t := by
  unfold kid at h
  rcases Nat.lt_or_ge j (wd t) with q | q
  · exact q
  · rw [List.getElem?_eq_none q] at h; cases h
theorem stp_eq {t c : Tr} {s : Int32} {j : Nat} (h1 : placeT t s = some j) (h2 : kid t j = some c) : stp t s = some c := by unfold stp; rw [h1]; exact h2
theorem stp_some {t c : Tr} {s : Int32} (h : stp t s = some c) : ∃ j, placeT t s = some j ∧ kid t j = some c := by
  unfold stp at h
  cases hp : placeT t s with
  | none => rw [hp] at h; cases h
  | some j => rw [hp] at h; exact ⟨j, rfl, h⟩
theorem szL_app (xs ys : List (Int32 × Tr)) : szL (xs ++ ys) = szL xs + szL ys := by unfold szL; simp
theorem szT_of (k n : Int32) (xs : List (Int32 × Tr)) : szT (k, n, ofKids xs) = 1 + szL xs := by unfold szT; dsimp only; rw [szF_of]
theorem szT_kids (t : Tr) : szT t = 1 + szL (kids t.2.2) := by unfold szT; rw [szF_kids]; rfl
theorem kids_setP (t : Tr) (j : Nat) (u : Tr) : kids (setP t j u).2.2 = setK (kids t.2.2) j u := kids_of _
theorem wd_setP (t : Tr) (j : Nat) (u : Tr) : wd (setP t j u) = wd t := by unfold wd; rw [kids_setP, setK_len]
theorem szL_setK : ∀ (xs : List (Int32 × Tr)) (j : Nat) (x : Int32 × Tr) (u : Tr), xs[j]? = some x → szL (setK xs j u) + szT x.2 = szL xs + szT u
  | [], j, x, u, h => by simp at h
  | y :: ys, 0, x, u, h => by
    simp at h; subst h
    simp only [setK, List.modify_zero_cons, szL, List.map_cons, List.sum_cons]
    omega
  | y :: ys, j + 1, x, u, h => by
    have ih := szL_setK ys j x u (by simpa using h)
    simp only [setK, List.modify_succ_cons, szL, List.map_cons, List.sum_cons] at *
    omega
theorem szT_setP {t c u : Tr} {j : Nat} (h : kid t j = some c) : szT (setP t j u) + szT c = szT t + szT u := by
  obtain ⟨x, h1, h2⟩ := kid_ex (kid_lt h)
  cases h.symm.trans h2
  have := szL_setK (kids t.2.2) j x u h1
  unfold setP
  rw [szT_of, szT_kids t]
  omega
theorem kid_setP_same {t u : Tr} {j : Nat} (h : j < wd t) : kid (setP t j u) j = some u := by
  obtain ⟨x, h1, -⟩ := kid_ex h
  unfold kid
  rw [kids_setP, setK_get, if_pos rfl, h1]
  rfl
theorem plc_congr (s : Int32) : ∀ (xs ys : List (Int32 × Tr)) (j : Nat), xs.map (·.1) = ys.map (·.1) → plc s xs j = plc s ys j
  | [], [], _, _ => rfl
  | [], _ :: _, _, h => by simp at h
  | _ :: _, [], _, h => by simp at h
  | x :: xs, y :: ys, j, h => by
    simp only [List.map_cons, List.cons.injEq] at h
    rw [plc, plc, h.1, plc_congr s xs ys (j + 1) h.2]
theorem setK_keys (xs : List (Int32 × Tr)) (j : Nat) (u : Tr) : (setK xs j u).map (·.1) = xs.map (·.1) := by
  apply List.ext_getElem?
  intro i
  rw [List.getElem?_map, List.getElem?_map, setK_get]
  by_cases h : i = j
  · rw [if_pos h]; cases xs[i]? <;> rfl
  · rw [if_neg h]
theorem placeT_setP (t : Tr) (j : Nat) (u : Tr) (s : Int32) : placeT (setP t j u) s = placeT t s := by
  unfold placeT
  rw [wd_setP, kids_setP]
  show (if t.1 = 4 then _ else _) = _
  rw [plc_congr s _ _ 0 (setK_keys _ j u)]
theorem setK_setK (xs : List (Int32 × Tr)) (j : Nat) (u v : Tr) : setK (setK xs j u) j v = setK xs j v := by
  apply List.ext_getElem?
  intro i
  rw [setK_get, setK_get, setK_get]
  by_cases h : i = j
  · simp only [if_pos h]; cases xs[i]? <;> rfl
  · simp only [if_neg h]
theorem setP_setP (t : Tr) (j : Nat) (u v : Tr) : setP (setP t j u) j v = setP t j v := by
  show (t.1, t.2.1, ofKids (setK (kids (setP t j u).2.2) j v)) = _
  rw [kids_setP, setK_setK]; rfl
theorem setK_self {xs : List (Int32 × Tr)} {j : Nat} {x : Int32 × Tr} (h : xs[j]? = some x) : setK xs j x.2 = xs := by
  apply List.ext_getElem?
  intro i
  rw [setK_get]
  by_cases hi : i = j
  · subst hi; rw [if_pos rfl, h]; rfl
  · rw [if_neg hi]
theorem setP_self {t c : Tr} {j : Nat} (hw : wfT t) (h : kid t j = some c) : setP t j c = t := by
  obtain ⟨x, h1, h2⟩ := kid_ex (kid_lt h)
  cases h.symm.trans h2
  unfold setP
  rw [setK_self h1, of_kids _ (wfF.pl _ hw.2)]
theorem keysOk_congr {xs ys : List (Int32 × Tr)} (h : xs.map (·.1) = ys.map (·.1)) (hk : keysOk xs) : keysOk ys := by
  obtain ⟨h1, h2⟩ := hk
  have e : ∀ zs : List (Int32 × Tr), zs.Pairwise (fun x y => x.1 < y.1) ↔ (zs.map (·.1)).Pairwise (· < ·) := fun zs => by rw [List.pairwise_map]
  refine ⟨by rw [e, ← h, ← e]; exact h1, fun y hy => ?_⟩
  have hm : y.1 ∈ xs.map (·.1) := by rw [h]; exact List.mem_map.mpr ⟨y, hy, rfl⟩
  obtain ⟨x, hx, hxy⟩ := List.mem_map.mp hm
  rw [← hxy]; exact h2 x hx
theorem setK_mem {xs : List (Int32 × Tr)} {j : Nat} {u : Tr} {y : Int32 × Tr} (h : y ∈ setK xs j u) : (∃ x ∈ xs, y = (x.1, u)) ∨ y ∈ xs := by
  obtain ⟨i, hi⟩ := List.getElem?_of_mem h
  rw [setK_get] at hi
  by_cases e : i = j
  · rw [if_pos e] at hi
    cases hx : xs[i]? with
    | none => rw [hx] at hi; cases hi
    | some x =>
      rw [hx] at hi
      cases hi
      exact Or.inl ⟨x, List.mem_of_getElem? hx, rfl⟩
  · rw [if_neg e] at hi
    exact Or.inr (List.mem_of_getElem? hi)
theorem wfT_setP {t u : Tr} {j : Nat} (ht : wfT t) (hu : wfT u) : wfT (setP t j u) := by
  obtain ⟨⟨o1, o2, o3, o4, o5⟩, hf⟩ := ht
  refine ⟨⟨o1, o2, fun h => o3 fun e => h ?_, fun h x hx => ?_, fun h => ?_⟩, (wfF_iff _).mpr fun x hx => ?_⟩
  · show kids (ofKids (setK (kids t.2.2) j u)) = []
    rw [kids_of]
    apply List.eq_nil_of_length_eq_zero
    rw [setK_len, e]; rfl
  · have hx : x ∈ kids (ofKids (setK (kids t.2.2) j u)) := hx
    rw [kids_of] at hx
    rcases setK_mem hx with ⟨y, hy, rfl⟩ | hy
    · exact o4 h y hy
    · exact o4 h x hy
  · show keysOk (kids (ofKids (setK (kids t.2.2) j u)))
    rw [kids_of]
    exact keysOk_congr (setK_keys _ j u).symm (o5 h)
  · rcases setK_mem hx with ⟨y, hy, rfl⟩ | hy
    · exact hu
    · exact hf.kid x hy
/-- the tree with e at the end of the path -/
def plug : Tr → List Int32 → Tr → Tr
  | _, [], e => e
  | t, s :: r, e => match placeT t s with
    | none => t
    | some j => match kid t j with
      | none => t
      | some c => setP t j (plug c r e)
theorem plug_cons {t c e : Tr} {s : Int32} {r : List Int32} {j : Nat} (h1 : placeT t s = some j) (h2 : kid t j = some c) : plug t (s :: r) e = setP t j (plug c r e) := by
  rw [plug, h1]; simp only [h2]
theorem belT_cons {t : Tr} {s : Int32} {r : List Int32} {u : Tr} (h : belT t (s :: r) = some u) : ∃ j c, placeT t s = some j ∧ kid t j = some c ∧ belT c r = some u := by
  rw [belT] at h
  cases hs : stp t s with
  | none => rw [hs] at h; cases h
  | some c =>
    rw [hs] at h
    obtain ⟨j, h1, h2⟩ := stp_some hs
    exact ⟨j, c, h1, h2, h⟩
theorem belT_of {t c : Tr} {s : Int32} {r : List Int32} {j : Nat} (h1 : placeT t s = some j) (h2 : kid t j = some c) : belT t (s :: r) = belT c r := by
  rw [belT, stp_eq h1 h2]; rfl
theorem belT_plug : ∀ (ss : List Int32) (t u e : Tr), belT t ss = some u → belT (plug t ss e) ss = some e
  | [], t, u, e, h => rfl
  | s :: r, t, u, e, h => by
    obtain ⟨j, c, h1, h2, h3⟩ := belT_cons h
    rw [plug_cons h1 h2, belT_of (by rw [placeT_setP]; exact h1) (kid_setP_same (kid_lt h2))]
    exact belT_plug r c u e h3
theorem plug_plug : ∀ (ss : List Int32) (t u e e' : Tr), belT t ss = some u → plug (plug t ss e) ss e' = plug t ss e'
  | [], t, u, e, e', h => rfl
  | s :: r, t, u, e, e', h => by
    obtain ⟨j, c, h1, h2, h3⟩ := belT_cons h
    rw [plug_cons h1 h2, plug_cons (by rw [placeT_setP]; exact h1) (kid_setP_same (kid_lt h2)), plug_cons h1 h2, setP_setP, plug_plug r c u e e' h3]
theorem plug_self : ∀ (ss : List Int32) (t u : Tr), wfT t → belT t ss = some u → plug t ss u = t
  | [], t, u, _, h => by cases h; rfl
  | s :: r, t, u, hw, h => by
    obtain ⟨j, c, h1, h2, h3⟩ := belT_cons h
    rw [plug_cons h1 h2, plug_self r c u (hw.kid h2) h3, setP_self hw h2]
theorem szT_plug : ∀ (ss : List Int32) (t u e : Tr), belT t ss = some u → szT (plug t ss e) + szT u = szT t + szT e
  | [], t, u, e, h => by cases h; show szT e + szT t = _; omega
  | s :: r, t, u, e, h => by
    obtain ⟨j, c, h1, h2, h3⟩ := belT_cons h
    rw [plug_cons h1 h2]
    have i1 := szT_plug r c u e h3
    have i2 := szT_setP (u := plug c r e) h2
    omega
theorem wfT_plug : ∀ (ss : List Int32) (t u e : Tr), wfT t → wfT e → belT t ss = some u → wfT (plug t ss e)
  | [], t, u, e, _, he, _ => he
  | s :: r, t, u, e, hw, he, h => by
    obtain ⟨j, c, h1, h2, h3⟩ := belT_cons h
    rw [plug_cons h1 h2]
    exact wfT_setP hw (wfT_plug r c u e (hw.kid h2) he h3)
theorem wfT_belT : ∀ (ss : List Int32) (t u : Tr), wfT t → belT t ss = some u → wfT u
  | [], t, u, hw, h => by cases h; exact hw
  | s :: r, t, u, hw, h => by
    obtain ⟨j, c, h1, h2, h3⟩ := belT_cons h
    exact wfT_belT r c u (hw.kid h2) h3
theorem szT_kid {t c : Tr} {j : Nat} (h : kid t j = some c) : wd t + szT c ≤ szT t := by
  obtain ⟨x, h1, h2⟩ := kid_ex (kid_lt h)
  cases h.symm.trans h2
  have : ∀ (xs : List (Int32 × Tr)) (j : Nat), xs[j]? = some x → xs.length + szT x.2 ≤ 1 + szL xs := by
    intro xs
    induction xs with
    | nil => intro j h; simp at h
    | cons y ys ih =>
      intro j h
      cases j with
      | zero =>
        simp at h; subst h
        have := len_szL ys
        simp only [szL, List.map_cons, List.sum_cons, List.length_cons] at *
        omega
      | succ j =>
        have := ih j (by simpa using h)
        have hp := szT_pos y.2
        simp only [szL, List.map_cons, List.sum_cons, List.length_cons] at *
        omega
  have := this (kids t.2.2) j h1
  rw [szT_kids t]
  unfold wd; omega
theorem belT_sz : ∀ (ss : List Int32) (t u : Tr), belT t ss = some u → szT u ≤ szT t
  | [], t, u, h => by cases h; exact Nat.le_refl _
  | s :: r, t, u, h => by
    obtain ⟨j, c, h1, h2, h3⟩ := belT_cons h
    have := belT_sz r c u h3
    have := szT_kid h2
    omega
theorem belT_dp : ∀ (ss : List Int32) (t u : Tr), belT t ss = some u → dpT u + ss.length ≤ dpT t
  | [], t, u, h => by cases h; exact Nat.le_refl _
  | s :: r, t, u, h => by
    obtain ⟨j, c, h1, h2, h3⟩ := belT_cons h
    have := belT_dp r c u h3
    obtain ⟨x, g1, g2⟩ := kid_ex (kid_lt h2)
    cases h2.symm.trans g2
    have := kid_dp (List.mem_of_getElem? g1)
    rw [List.length_cons]; omega
/-- what it costs to make the way anew: elements -/
def pcost : Tr → List Int32 → Nat
  | _, [] => 0
  | t, s :: r => wd t + 6 + (match stp t s with
    | none => 0
    | some c => pcost c r)
theorem pcost_le : ∀ (ss : List Int32) (t : Tr), pcost t ss ≤ szT t + 6 * ss.length
  | [], t => by simp [pcost]
  | s :: r, t => by
    rw [pcost, List.length_cons]
    cases hs : stp t s with
    | none =>
      have := kids_len t.2.2
      simp only [szT, wd] at *
      omega
    | some c =>
      obtain ⟨j, h1, h2⟩ := stp_some hs
      have := pcost_le r c
      have := szT_kid h2
      simp only
      omega
