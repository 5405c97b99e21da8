/-! THE WALK: all values of a tree in a row, each ahead of its children; mathematics -/
/-- value, place of its parent, step to it, level -/
abbrev Ent : Type := Tr × Nat × Int32 × Nat
def flF : Fo → Nat → Nat → Nat → Nat → Int32 → List Ent
  | .leaf, _, _, _, _, _ => []
  | .inner _ k _ ch rest, pos, par, idx, lv, K => ((k.2.1, k.2.2, ch), par, (if K = 4 then k.1 else nI idx), lv) :: (flF ch (pos + 1) pos 0 (lv + 1) k.2.1 ++ flF rest (pos + 1 + szF ch) par (idx + 1) lv K)
theorem flF_len : ∀ (f : Fo) (pos par idx lv : Nat) (K : Int32), (flF f pos par idx lv K).length = szF f
  | .leaf, _, _, _, _, _ => rfl
  | .inner z k u ch rest, pos, par, idx, lv, K => by
    rw [flF, List.length_cons, List.length_append, flF_len ch, flF_len rest, szF]
    omega
/-- how far behind the first the child j begins -/
def off (xs : List (Int32 × Tr)) (j : Nat) : Nat := szL (xs.take j)
theorem off_zero (xs : List (Int32 × Tr)) : off xs 0 = 0 := rfl
theorem off_succ (x : Int32 × Tr) (xs : List (Int32 × Tr)) (j : Nat) : off (x :: xs) (j + 1) = szT x.2 + off xs j := by unfold off; rw [List.take_succ_cons, szL_cons]
theorem off_step {xs : List (Int32 × Tr)} {j : Nat} {x : Int32 × Tr} (h : xs[j]? = some x) : off xs (j + 1) = off xs j + szT x.2 := by
  unfold off
  rw [List.take_add_one, h, szL_app]
  show _ + szL [x] = _
  rw [szL_cons, szL_nil]; omega
theorem off_le {xs : List (Int32 × Tr)} (j : Nat) : off xs j ≤ szL xs := by
  unfold off
  have : szL xs = szL (xs.take j) + szL (xs.drop j) := by rw [← szL_app, List.take_append_drop]
  omega
theorem off_mono {xs : List (Int32 × Tr)} {i j : Nat} (h : i ≤ j) : off xs i ≤ off xs j := by
  unfold off
  have : xs.take i = (xs.take j).take i := by rw [List.take_take, Nat.min_eq_left h]
  rw [this]
  have h2 : szL (xs.take j) = szL ((xs.take j).take i) + szL ((xs.take j).drop i) := by rw [← szL_app, List.take_append_drop]
  omega
theorem off_all (xs : List (Int32 × Tr)) : off xs xs.length = szL xs := by unfold off; rw [List.take_length]
theorem off_in {xs : List (Int32 × Tr)} {j : Nat} {x : Int32 × Tr} (h : xs[j]? = some x) : off xs j + szT x.2 ≤ szL xs := by rw [← off_step h]; exact off_le _
def stpK (K : Int32) (x : Int32 × Tr) (j : Nat) : Int32 := if K = 4 then x.1 else nI j
theorem ix_a {α : Type} {e : α} {A B : List α} {q : Nat} (h : q < A.length) : (e :: (A ++ B))[q + 1]? = A[q]? := by
  rw [List.getElem?_cons_succ, List.getElem?_append_left h]
theorem ix_b {α : Type} {e : α} {A B : List α} {q : Nat} : (e :: (A ++ B))[A.length + q + 1]? = B[q]? := by
  rw [List.getElem?_cons_succ, List.getElem?_append_right (by omega)]
  congr 1
  omega
theorem flF_top : ∀ (f : Fo) (pos par idx lv : Nat) (K : Int32) (j : Nat) (x : Int32 × Tr), (kids f)[j]? = some x → (flF f pos par idx lv K)[off (kids f) j]? = some (x.2, par, stpK K x (idx + j), lv)
  | .leaf, _, _, _, _, _, j, x, h => by simp [kids] at h
  | .inner z k u ch rest, pos, par, idx, lv, K, j, x, h => by
    rw [kids] at h ⊢
    rw [flF]
    cases j with
    | zero =>
      simp at h
      subst h
      rfl
    | succ j =>
      have h : (kids rest)[j]? = some x := h
      rw [off_succ]
      have hb := flF_top rest (pos + 1 + szF ch) par (idx + 1) lv K j x h
      have e : szT (k.2.1, k.2.2, ch) + off (kids rest) j = (flF ch (pos + 1) pos 0 (lv + 1) k.2.1).length + off (kids rest) j + 1 := by
        have el := flF_len ch (pos + 1) pos 0 (lv + 1) k.2.1
        show 1 + szF ch + off (kids rest) j = _
        omega
      rw [e, ix_b, hb, show idx + 1 + j = idx + (j + 1) by omega]
theorem flF_in : ∀ (f : Fo) (pos par idx lv : Nat) (K : Int32) (q : Nat) (e : Ent), (flF f pos par idx lv K)[q]? = some e → ∀ (j : Nat) (x : Int32 × Tr), (kids e.1.2.2)[j]? = some x →
    (flF f pos par idx lv K)[q + 1 + off (kids e.1.2.2) j]? = some (x.2, pos + q, stpK e.1.1 x j, e.2.2.2 + 1)
  | .leaf, _, _, _, _, _, q, e, h => by simp [flF] at h
  | .inner z k u ch rest, pos, par, idx, lv, K, q, e, h => by
    intro j x hx
    rw [flF] at h ⊢
    cases q with
    | zero =>
      simp at h
      subst h
      have ht := flF_top ch (pos + 1) pos 0 (lv + 1) k.2.1 j x hx
      have hl := (List.getElem?_eq_some_iff.mp ht).1
      rw [show 0 + 1 + off (kids ch) j = off (kids ch) j + 1 by omega, ix_a hl, ht]
      simp
    | succ q =>
      rcases Nat.lt_or_ge q (flF ch (pos + 1) pos 0 (lv + 1) k.2.1).length with hq | hq
      · rw [ix_a hq] at h
        have hi := flF_in ch (pos + 1) pos 0 (lv + 1) k.2.1 q e h j x hx
        have hl := (List.getElem?_eq_some_iff.mp hi).1
        rw [show q + 1 + 1 + off (kids e.1.2.2) j = (q + 1 + off (kids e.1.2.2) j) + 1 by omega, ix_a hl, hi]
        congr 3
        omega
      · obtain ⟨q', rfl⟩ : ∃ q', q = (flF ch (pos + 1) pos 0 (lv + 1) k.2.1).length + q' := Nat.exists_eq_add_of_le hq
        rw [ix_b] at h
        have hi := flF_in rest (pos + 1 + szF ch) par (idx + 1) lv K q' e h j x hx
        rw [show (flF ch (pos + 1) pos 0 (lv + 1) k.2.1).length + q' + 1 + 1 + off (kids e.1.2.2) j = (flF ch (pos + 1) pos 0 (lv + 1) k.2.1).length + (q' + 1 + off (kids e.1.2.2) j) + 1 by omega, ix_b, hi, flF_len]
        congr 3
        omega
theorem flF_ex : ∀ (f : Fo) (pos par idx lv : Nat) (K : Int32) (q : Nat) (e : Ent), (flF f pos par idx lv K)[q]? = some e →
    (∃ j x, (kids f)[j]? = some x ∧ q = off (kids f) j ∧ e = (x.2, par, stpK K x (idx + j), lv)) ∨
    (∃ q' e' j x, q' < q ∧ (flF f pos par idx lv K)[q']? = some e' ∧ (kids e'.1.2.2)[j]? = some x ∧ q = q' + 1 + off (kids e'.1.2.2) j ∧ e = (x.2, pos + q', stpK e'.1.1 x j, e'.2.2.2 + 1))
  | .leaf, _, _, _, _, _, q, e, h => by simp [flF] at h
  | .inner z k u ch rest, pos, par, idx, lv, K, q, e, h => by
    rw [flF] at h ⊢
    cases q with
    | zero =>
      simp at h
      exact Or.inl ⟨0, (k.1, k.2.1, k.2.2, ch), by rw [kids]; rfl, rfl, h.symm⟩
    | succ q =>
      rcases Nat.lt_or_ge q (flF ch (pos + 1) pos 0 (lv + 1) k.2.1).length with hq | hq
      · rw [ix_a hq] at h
        refine Or.inr ?_
        rcases flF_ex ch (pos + 1) pos 0 (lv + 1) k.2.1 q e h with ⟨j, x, h1, h2, h3⟩ | ⟨q', e', j, x, h0, h1, h2, h3, h4⟩
        · exact ⟨0, _, j, x, by omega, rfl, h1, by show q + 1 = 0 + 1 + off (kids ch) j; omega, by rw [h3]; simp⟩
        · refine ⟨q' + 1, e', j, x, by omega, ?_, h2, by omega, ?_⟩
          · rw [ix_a (by omega)]; exact h1
          · rw [h4]; congr 2; omega
      · obtain ⟨q', rfl⟩ : ∃ q', q = (flF ch (pos + 1) pos 0 (lv + 1) k.2.1).length + q' := Nat.exists_eq_add_of_le hq
        rw [ix_b] at h
        rcases flF_ex rest (pos + 1 + szF ch) par (idx + 1) lv K q' e h with ⟨j, x, h1, h2, h3⟩ | ⟨q2, e', j, x, h0, h1, h2, h3, h4⟩
        · refine Or.inl ⟨j + 1, x, by rw [kids]; exact h1, ?_, ?_⟩
          · rw [kids, off_succ, flF_len, h2]; unfold szT; dsimp only; omega
          · rw [h3]; congr 4; omega
        · refine Or.inr ⟨(flF ch (pos + 1) pos 0 (lv + 1) k.2.1).length + q2 + 1, e', j, x, by omega, ?_, h2, by omega, ?_⟩
          · rw [ix_b]; exact h1
          · rw [h4]; congr 2; rw [flF_len]; omega
/-- the row of a tree -/
def flT (t : Tr) : List Ent := flF (fCons 0 t.1 t.2.1 t.2.2 fNil) 0 0 0 0 3
def entE (t : Tr) (q : Nat) : Option Ent := (flT t)[q]?
theorem flT_len (t : Tr) : (flT t).length = szT t := by unfold flT; rw [flF_len]; unfold szT; simp [szF]
theorem ent_lt {t : Tr} {q : Nat} {e : Ent} (h : entE t q = some e) : q < szT t := by
  have := (List.getElem?_eq_some_iff.mp h).1
  rw [flT_len] at this
  exact this
theorem ent_some {t : Tr} {q : Nat} (h : q < szT t) : ∃ e, entE t q = some e := ⟨_, List.getElem?_eq_getElem (by rw [flT_len]; exact h)⟩
theorem ent_zero (t : Tr) : entE t 0 = some (t, 0, 0, 0) := rfl
theorem ent_kid {t : Tr} {q : Nat} {e : Ent} (h : entE t q = some e) {j : Nat} {x : Int32 × Tr} (hx : (kids e.1.2.2)[j]? = some x) : entE t (q + 1 + off (kids e.1.2.2) j) = some (x.2, q, stpK e.1.1 x j, e.2.2.2 + 1) := by
  have := flF_in _ 0 0 0 0 3 q e h j x hx
  rw [Nat.zero_add] at this
  exact this
theorem ent_par {t : Tr} {q : Nat} {e : Ent} (h : entE t q = some e) (hq : 0 < q) : ∃ q' e' j x, q' < q ∧ entE t q' = some e' ∧ (kids e'.1.2.2)[j]? = some x ∧ q = q' + 1 + off (kids e'.1.2.2) j ∧ e = (x.2, q', stpK e'.1.1 x j, e'.2.2.2 + 1) := by
  rcases flF_ex _ 0 0 0 0 3 q e h with ⟨j, x, h1, h2, h3⟩ | ⟨q', e', j, x, h0, h1, h2, h3, h4⟩
  · exfalso
    cases j with
    | zero => rw [off_zero] at h2; omega
    | succ j => simp [kids] at h1
  · rw [Nat.zero_add] at h4
    exact ⟨q', e', j, x, h0, h1, h2, h3, h4⟩
/-- what holds of a tree holds of all in its row -/
theorem ent_all {P : Tr → Prop} (hP : ∀ (t : Tr) (j : Nat) (x : Int32 × Tr), P t → (kids t.2.2)[j]? = some x → P x.2) {t : Tr} (h0 : P t) : ∀ (n q : Nat) (e : Ent), q ≤ n → entE t q = some e → P e.1 := by
  intro n
  induction n with
  | zero =>
    intro q e hq h
    have : q = 0 := by omega
    subst this
    rw [ent_zero] at h
    cases h
    exact h0
  | succ n ih =>
    intro q e hq h
    rcases Nat.eq_zero_or_pos q with rfl | hp
    · rw [ent_zero] at h
      cases h
      exact h0
    · obtain ⟨q', e', j, x, h1, h2, h3, h4, rfl⟩ := ent_par h hp
      exact hP _ j x (ih q' e' (by omega) h2) h3
theorem ent_wf {t : Tr} (h : wfT t) {q : Nat} {e : Ent} (he : entE t q = some e) : wfT e.1 := ent_all (P := wfT) (fun t j x ht hx => ht.2.kid x (List.mem_of_getElem? hx)) h q q e (Nat.le_refl _) he
theorem ent_sml {t : Tr} (h : sml t) {q : Nat} {e : Ent} (he : entE t q = some e) : sml e.1 := ent_all (P := sml) (fun t j x ht hx => by have := kid_sz (List.mem_of_getElem? hx); unfold sml at *; omega) h q q e (Nat.le_refl _) he
theorem ent_sz {t : Tr} {q : Nat} {e : Ent} (he : entE t q = some e) : szT e.1 ≤ szT t := ent_all (P := fun u => szT u ≤ szT t) (fun u j x ht hx => by have := kid_sz (List.mem_of_getElem? hx); omega) (Nat.le_refl _) q q e (Nat.le_refl _) he
theorem ent_lv {t : Tr} : ∀ (n q : Nat) (e : Ent), q ≤ n → entE t q = some e → e.2.2.2 ≤ q := by
  intro n
  induction n with
  | zero =>
    intro q e hq h
    have : q = 0 := by omega
    subst this
    rw [ent_zero] at h
    cases h
    exact Nat.le_refl _
  | succ n ih =>
    intro q e hq h
    rcases Nat.eq_zero_or_pos q with rfl | hp
    · rw [ent_zero] at h
      cases h
      exact Nat.le_refl _
    · obtain ⟨q', e', j, x, h1, h2, h3, h4, rfl⟩ := ent_par h hp
      have := ih q' e' (by omega) h2
      show e'.2.2.2 + 1 ≤ q
      omega
