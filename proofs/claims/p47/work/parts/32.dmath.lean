/-! DIFFERENCES: what compare answers, what write writes; the mathematics of it -/
/-- lists: the least sum, row by row -/
def lrow (f : Tr → Tr → Nat) (x : Int32 × Tr) (g : List (Int32 × Tr) → Nat) : List (Int32 × Tr) → Nat
  | [] => szT x.2 + g []
  | y :: ys => min (min (szT y.2 + lrow f x g ys) (szT x.2 + g (y :: ys))) (f x.2 y.2 + g ys)
def lD (f : Tr → Tr → Nat) : List (Int32 × Tr) → List (Int32 × Tr) → Nat
  | [] => szL
  | x :: xs => lrow f x (lD f xs)
/-- objects: by keys -/
def orow (f : Tr → Tr → Nat) (x : Int32 × Tr) (g : List (Int32 × Tr) → Nat) : List (Int32 × Tr) → Nat
  | [] => szT x.2 + g []
  | y :: ys => if x.1 = y.1 then f x.2 y.2 + g ys else if x.1 < y.1 then szT x.2 + g (y :: ys) else szT y.2 + orow f x g ys
def oD (f : Tr → Tr → Nat) : List (Int32 × Tr) → List (Int32 × Tr) → Nat
  | [] => szL
  | x :: xs => orow f x (oD f xs)
def Df : Nat → Tr → Tr → Nat
  | 0 => fun _ _ => 0
  | n + 1 => fun t u => if t.1 = 3 ∧ u.1 = 3 then lD (Df n) (kids t.2.2) (kids u.2.2) else if t.1 = 4 ∧ u.1 = 4 then oD (Df n) (kids t.2.2) (kids u.2.2) else if t.1 = u.1 ∧ t.2.1 = u.2.1 then 0 else szT t + szT u
theorem szL_nil : szL [] = 0 := rfl
theorem szL_cons (x : Int32 × Tr) (xs : List (Int32 × Tr)) : szL (x :: xs) = szT x.2 + szL xs := by unfold szL; simp
theorem lD_nil (f : Tr → Tr → Nat) (ys : List (Int32 × Tr)) : lD f [] ys = szL ys := rfl
theorem lD_nil2 (f : Tr → Tr → Nat) : ∀ xs : List (Int32 × Tr), lD f xs [] = szL xs
  | [] => rfl
  | x :: xs => by
    show szT x.2 + lD f xs [] = _
    rw [lD_nil2 f xs, szL_cons]
theorem lD_cons (f : Tr → Tr → Nat) (x y : Int32 × Tr) (xs ys : List (Int32 × Tr)) : lD f (x :: xs) (y :: ys) = min (min (szT y.2 + lD f (x :: xs) ys) (szT x.2 + lD f xs (y :: ys))) (f x.2 y.2 + lD f xs ys) := rfl
theorem oD_nil (f : Tr → Tr → Nat) (ys : List (Int32 × Tr)) : oD f [] ys = szL ys := rfl
theorem oD_nil2 (f : Tr → Tr → Nat) : ∀ xs : List (Int32 × Tr), oD f xs [] = szL xs
  | [] => rfl
  | x :: xs => by
    show szT x.2 + oD f xs [] = _
    rw [oD_nil2 f xs, szL_cons]
theorem oD_cons (f : Tr → Tr → Nat) (x y : Int32 × Tr) (xs ys : List (Int32 × Tr)) : oD f (x :: xs) (y :: ys) = if x.1 = y.1 then f x.2 y.2 + oD f xs ys else if x.1 < y.1 then szT x.2 + oD f xs (y :: ys) else szT y.2 + oD f (x :: xs) ys := rfl
theorem lD_sym {f g : Tr → Tr → Nat} (h : ∀ t u, f t u = g u t) : ∀ xs ys : List (Int32 × Tr), lD f xs ys = lD g ys xs := by
  intro xs
  induction xs with
  | nil => intro ys; rw [lD_nil, lD_nil2]
  | cons x xs ih =>
    intro ys
    induction ys with
    | nil => rw [lD_nil, lD_nil2]
    | cons y ys ih2 =>
      rw [lD_cons, lD_cons, ih2, ih (y :: ys), ih ys, h x.2 y.2]
      omega
theorem i32_tri {a b : Int32} (h1 : ¬ a = b) (h2 : ¬ a < b) : b < a := by
  rw [Int32.lt_iff_toInt_lt] at *
  have : a.toInt ≠ b.toInt := fun e => h1 (Int32.toInt_inj.mp e)
  omega
theorem i32_asym {a b : Int32} (h : a < b) : ¬ b < a := by
  rw [Int32.lt_iff_toInt_lt] at *
  omega
theorem i32_irr {a : Int32} : ¬ a < a := by
  rw [Int32.lt_iff_toInt_lt]
  omega
theorem i32_lt_tr {a b c : Int32} (h1 : a < b) (h2 : b < c) : a < c := by
  rw [Int32.lt_iff_toInt_lt] at *
  omega
theorem oD_sym {f g : Tr → Tr → Nat} (h : ∀ t u, f t u = g u t) : ∀ xs ys : List (Int32 × Tr), oD f xs ys = oD g ys xs := by
  intro xs
  induction xs with
  | nil => intro ys; rw [oD_nil, oD_nil2]
  | cons x xs ih =>
    intro ys
    induction ys with
    | nil => rw [oD_nil, oD_nil2]
    | cons y ys ih2 =>
      rw [oD_cons, oD_cons]
      by_cases e : x.1 = y.1
      · rw [if_pos e, if_pos e.symm, ih ys, h x.2 y.2]
      · rw [if_neg e, if_neg (show ¬ y.1 = x.1 from fun q => e q.symm)]
        by_cases l : x.1 < y.1
        · rw [if_pos l, if_neg (i32_asym l), ih (y :: ys)]
        · rw [if_neg l, if_pos (i32_tri e l), ih2]
theorem Df_sym : ∀ (n : Nat) (t u : Tr), Df n t u = Df n u t
  | 0, _, _ => rfl
  | n + 1, t, u => by
    have ih := Df_sym n
    show (if t.1 = 3 ∧ u.1 = 3 then lD (Df n) (kids t.2.2) (kids u.2.2) else if t.1 = 4 ∧ u.1 = 4 then oD (Df n) (kids t.2.2) (kids u.2.2) else if t.1 = u.1 ∧ t.2.1 = u.2.1 then 0 else szT t + szT u) = (if u.1 = 3 ∧ t.1 = 3 then lD (Df n) (kids u.2.2) (kids t.2.2) else if u.1 = 4 ∧ t.1 = 4 then oD (Df n) (kids u.2.2) (kids t.2.2) else if u.1 = t.1 ∧ u.2.1 = t.2.1 then 0 else szT u + szT t)
    by_cases h3 : t.1 = 3 ∧ u.1 = 3
    · rw [if_pos h3, if_pos h3.symm, lD_sym ih]
    · rw [if_neg h3, if_neg (show ¬ (u.1 = 3 ∧ t.1 = 3) from fun q => h3 q.symm)]
      by_cases h4 : t.1 = 4 ∧ u.1 = 4
      · rw [if_pos h4, if_pos h4.symm, oD_sym ih]
      · rw [if_neg h4, if_neg (show ¬ (u.1 = 4 ∧ t.1 = 4) from fun q => h4 q.symm)]
        by_cases h5 : t.1 = u.1 ∧ t.2.1 = u.2.1
        · rw [if_pos h5, if_pos ⟨h5.1.symm, h5.2.symm⟩]
        · rw [if_neg h5, if_neg (show ¬ (u.1 = t.1 ∧ u.2.1 = t.2.1) from fun q => h5 ⟨q.1.symm, q.2.symm⟩), Nat.add_comm]
theorem lD_le (f : Tr → Tr → Nat) : ∀ xs ys : List (Int32 × Tr), lD f xs ys ≤ szL xs + szL ys := by
  intro xs
  induction xs with
  | nil => intro ys; rw [lD_nil, szL_nil]; omega
  | cons x xs ih =>
    intro ys
    cases ys with
    | nil => rw [lD_nil2, szL_nil]; omega
    | cons y ys =>
      rw [lD_cons]
      have := ih (y :: ys)
      rw [szL_cons x]
      omega
theorem oD_le {f : Tr → Tr → Nat} (h : ∀ t u, f t u ≤ szT t + szT u) : ∀ xs ys : List (Int32 × Tr), oD f xs ys ≤ szL xs + szL ys := by
  intro xs
  induction xs with
  | nil => intro ys; rw [oD_nil, szL_nil]; omega
  | cons x xs ih =>
    intro ys
    induction ys with
    | nil => rw [oD_nil2, szL_nil]; omega
    | cons y ys ih2 =>
      rw [oD_cons]
      have h1 := ih (y :: ys)
      have h2 := ih ys
      have h3 := h x.2 y.2
      rw [szL_cons x] at *
      rw [szL_cons y] at *
      split
      · omega
      · split <;> omega
theorem Df_le : ∀ (n : Nat) (t u : Tr), Df n t u ≤ szT t + szT u
  | 0, _, _ => Nat.zero_le _
  | n + 1, t, u => by
    have ih := Df_le n
    show (if t.1 = 3 ∧ u.1 = 3 then lD (Df n) (kids t.2.2) (kids u.2.2) else if t.1 = 4 ∧ u.1 = 4 then oD (Df n) (kids t.2.2) (kids u.2.2) else if t.1 = u.1 ∧ t.2.1 = u.2.1 then 0 else szT t + szT u) ≤ _
    have h1 := lD_le (Df n) (kids t.2.2) (kids u.2.2)
    have h2 := oD_le ih (kids t.2.2) (kids u.2.2)
    have e1 := szT_kids t
    have e2 := szT_kids u
    split
    · omega
    · split
      · omega
      · split <;> omega
theorem lD_self {f : Tr → Tr → Nat} (h : ∀ t, f t t = 0) : ∀ xs : List (Int32 × Tr), lD f xs xs = 0
  | [] => rfl
  | x :: xs => by
    rw [lD_cons, lD_self h xs, h]
    omega
theorem oD_self {f : Tr → Tr → Nat} (h : ∀ t, f t t = 0) : ∀ xs : List (Int32 × Tr), oD f xs xs = 0
  | [] => rfl
  | x :: xs => by rw [oD_cons, oD_self h xs, h, if_pos rfl]
theorem Df_self : ∀ (n : Nat) (t : Tr), Df n t t = 0
  | 0, _ => rfl
  | n + 1, t => by
    have ih := Df_self n
    show (if t.1 = 3 ∧ t.1 = 3 then lD (Df n) (kids t.2.2) (kids t.2.2) else if t.1 = 4 ∧ t.1 = 4 then oD (Df n) (kids t.2.2) (kids t.2.2) else if t.1 = t.1 ∧ t.2.1 = t.2.1 then 0 else szT t + szT t) = 0
    rw [lD_self ih, oD_self ih]
    split
    · rfl
    · split
      · rfl
      · rw [if_pos ⟨rfl, rfl⟩]
theorem lD_zero {f : Tr → Tr → Nat} : ∀ xs ys : List (Int32 × Tr), (∀ x ∈ xs, ∀ y ∈ ys, f x.2 y.2 = 0 → x = y) → lD f xs ys = 0 → xs = ys := by
  intro xs
  induction xs with
  | nil =>
    intro ys h e
    cases ys with
    | nil => rfl
    | cons y ys =>
      rw [lD_nil, szL_cons] at e
      have := szT_pos y.2
      omega
  | cons x xs ih =>
    intro ys h e
    cases ys with
    | nil =>
      rw [lD_nil2, szL_cons] at e
      have := szT_pos x.2
      omega
    | cons y ys =>
      rw [lD_cons] at e
      have h1 := szT_pos x.2
      have h2 := szT_pos y.2
      have e1 : f x.2 y.2 = 0 := by omega
      have e2 : lD f xs ys = 0 := by omega
      rw [h x List.mem_cons_self y List.mem_cons_self e1, ih ys (fun a ha b hb => h a (List.mem_cons_of_mem _ ha) b (List.mem_cons_of_mem _ hb)) e2]
theorem oD_zero {f : Tr → Tr → Nat} : ∀ xs ys : List (Int32 × Tr), (∀ x ∈ xs, ∀ y ∈ ys, f x.2 y.2 = 0 → x.2 = y.2) → oD f xs ys = 0 → xs = ys := by
  intro xs
  induction xs with
  | nil =>
    intro ys h e
    cases ys with
    | nil => rfl
    | cons y ys =>
      rw [oD_nil, szL_cons] at e
      have := szT_pos y.2
      omega
  | cons x xs ih =>
    intro ys h e
    cases ys with
    | nil =>
      rw [oD_nil2, szL_cons] at e
      have := szT_pos x.2
      omega
    | cons y ys =>
      rw [oD_cons] at e
      have h1 := szT_pos x.2
      have h2 := szT_pos y.2
      split at e
      · next hk =>
        have e1 : f x.2 y.2 = 0 := by omega
        have e2 : oD f xs ys = 0 := by omega
        have hv := h x List.mem_cons_self y List.mem_cons_self e1
        rw [show x = y from Prod.ext hk hv, ih ys (fun a ha b hb => h a (List.mem_cons_of_mem _ ha) b (List.mem_cons_of_mem _ hb)) e2]
      · split at e <;> omega
/-- kind 3 and 4 have no number, and keys of lists are 0 -/
theorem wf_num {t : Tr} (h : wfT t) (h34 : t.1 = 3 ∨ t.1 = 4) : t.2.1 = -10000 := h.1.2.1.mpr (by rcases h34 with e | e <;> rw [e] <;> decide)
theorem wf_key {t : Tr} (h : wfT t) (h3 : t.1 = 3) {x : Int32 × Tr} (hx : x ∈ kids t.2.2) : x.1 = 0 := h.1.2.2.2.1 (by rw [h3]; decide) x hx
theorem wf_plain {t : Tr} (h : wfT t) (h3 : t.1 ≠ 3) (h4 : t.1 ≠ 4) : kids t.2.2 = [] := by
  by_cases e : kids t.2.2 = []
  · exact e
  · rcases h.1.2.2.1 e with q | q
    · exact absurd q h3
    · exact absurd q h4
theorem Df_zero : ∀ (n : Nat) (t u : Tr), wfT t → wfT u → dpT t ≤ n → Df n t u = 0 → t = u
  | 0, t, _, _, _, h, _ => by unfold dpT at h; omega
  | n + 1, t, u, ht, hu, hd, e => by
    have ih := Df_zero n
    have e : (if t.1 = 3 ∧ u.1 = 3 then lD (Df n) (kids t.2.2) (kids u.2.2) else if t.1 = 4 ∧ u.1 = 4 then oD (Df n) (kids t.2.2) (kids u.2.2) else if t.1 = u.1 ∧ t.2.1 = u.2.1 then 0 else szT t + szT u) = 0 := e
    have hsub : ∀ x ∈ kids t.2.2, ∀ y ∈ kids u.2.2, Df n x.2 y.2 = 0 → x.2 = y.2 := fun x hx y hy h => ih x.2 y.2 (ht.2.kid x hx) (hu.2.kid y hy) (by have := kid_dp hx; omega) h
    split at e
    · next h3 =>
      refine tr_ext ht hu (by rw [h3.1, h3.2]) (by rw [wf_num ht (Or.inl h3.1), wf_num hu (Or.inl h3.2)]) (lD_zero _ _ (fun x hx y hy h => Prod.ext (by rw [wf_key ht h3.1 hx, wf_key hu h3.2 hy]) (hsub x hx y hy h)) e)
    · next h3 =>
      split at e
      · next h4 => exact tr_ext ht hu (by rw [h4.1, h4.2]) (by rw [wf_num ht (Or.inr h4.1), wf_num hu (Or.inr h4.2)]) (oD_zero _ _ hsub e)
      · next h4 =>
        split at e
        · next h5 =>
          have a3 : t.1 ≠ 3 := fun q => h3 ⟨q, by rw [← h5.1]; exact q⟩
          have a4 : t.1 ≠ 4 := fun q => h4 ⟨q, by rw [← h5.1]; exact q⟩
          exact tr_ext ht hu h5.1 h5.2 (by rw [wf_plain ht a3 a4, wf_plain hu (by rw [← h5.1]; exact a3) (by rw [← h5.1]; exact a4)])
        · have := szT_pos t
          omega
/-! what write writes -/
def aOp (pre : List Int32) (s : Int32) (v : Tr) : OpT := (0, pre, s, some v)
def dOp (pre : List Int32) (s : Int32) : OpT := (1, pre, s, none)
def addsL (pre : List Int32) : List (Int32 × Tr) → Nat → List OpT
  | [], _ => []
  | y :: ys, j => aOp pre (nI j) y.2 :: addsL pre ys (j + 1)
noncomputable def Wrow (f : Tr → Tr → Nat) (w : List Int32 → Tr → Tr → List OpT) (pre : List Int32) (x : Int32 × Tr) (xs : List (Int32 × Tr)) (g : List (Int32 × Tr) → Nat → List OpT) : List (Int32 × Tr) → Nat → List OpT
  | [], j => dOp pre (nI j) :: g [] j
  | y :: ys, j => if lD f (x :: xs) (y :: ys) = f x.2 y.2 + lD f xs ys then w (pre ++ [nI j]) x.2 y.2 ++ g ys (j + 1) else if lD f (x :: xs) (y :: ys) = szT x.2 + lD f xs (y :: ys) then dOp pre (nI j) :: g (y :: ys) j else aOp pre (nI j) y.2 :: Wrow f w pre x xs g ys (j + 1)
noncomputable def Wl (f : Tr → Tr → Nat) (w : List Int32 → Tr → Tr → List OpT) (pre : List Int32) : List (Int32 × Tr) → List (Int32 × Tr) → Nat → List OpT
  | [] => addsL pre
  | x :: xs => Wrow f w pre x xs (Wl f w pre xs)
def Worow (w : List Int32 → Tr → Tr → List OpT) (pre : List Int32) (x : Int32 × Tr) (g : List (Int32 × Tr) → List OpT) : List (Int32 × Tr) → List OpT
  | [] => dOp pre x.1 :: g []
  | y :: ys => if x.1 = y.1 then w (pre ++ [x.1]) x.2 y.2 ++ g ys else if x.1 < y.1 then dOp pre x.1 :: g (y :: ys) else aOp pre y.1 y.2 :: Worow w pre x g ys
def Wo (w : List Int32 → Tr → Tr → List OpT) (pre : List Int32) : List (Int32 × Tr) → List (Int32 × Tr) → List OpT
  | [] => fun ys => ys.map (fun y => aOp pre y.1 y.2)
  | x :: xs => Worow w pre x (Wo w pre xs)
noncomputable def Wr : Nat → List Int32 → Tr → Tr → List OpT
  | 0 => fun _ _ _ => []
  | n + 1 => fun pre t u => @ite _ (t = u) (Classical.propDecidable _) [] (if t.1 = 3 ∧ u.1 = 3 then Wl (Df n) (Wr n) pre (kids t.2.2) (kids u.2.2) 0 else if t.1 = 4 ∧ u.1 = 4 then Wo (Wr n) pre (kids t.2.2) (kids u.2.2) else [(2, pre, 0, some u)])
theorem Wl_nil (f w pre) (ys : List (Int32 × Tr)) (j : Nat) : Wl f w pre [] ys j = addsL pre ys j := rfl
theorem Wl_nil2 (f w pre) (x : Int32 × Tr) (xs : List (Int32 × Tr)) (j : Nat) : Wl f w pre (x :: xs) [] j = dOp pre (nI j) :: Wl f w pre xs [] j := rfl
theorem Wl_cons (f w pre) (x y : Int32 × Tr) (xs ys : List (Int32 × Tr)) (j : Nat) : Wl f w pre (x :: xs) (y :: ys) j = if lD f (x :: xs) (y :: ys) = f x.2 y.2 + lD f xs ys then w (pre ++ [nI j]) x.2 y.2 ++ Wl f w pre xs ys (j + 1) else if lD f (x :: xs) (y :: ys) = szT x.2 + lD f xs (y :: ys) then dOp pre (nI j) :: Wl f w pre xs (y :: ys) j else aOp pre (nI j) y.2 :: Wl f w pre (x :: xs) ys (j + 1) := rfl
theorem Wo_nil (w pre) (ys : List (Int32 × Tr)) : Wo w pre [] ys = ys.map (fun y => aOp pre y.1 y.2) := rfl
theorem Wo_nil2 (w pre) (x : Int32 × Tr) (xs : List (Int32 × Tr)) : Wo w pre (x :: xs) [] = dOp pre x.1 :: Wo w pre xs [] := rfl
theorem Wo_cons (w pre) (x y : Int32 × Tr) (xs ys : List (Int32 × Tr)) : Wo w pre (x :: xs) (y :: ys) = if x.1 = y.1 then w (pre ++ [x.1]) x.2 y.2 ++ Wo w pre xs ys else if x.1 < y.1 then dOp pre x.1 :: Wo w pre xs (y :: ys) else aOp pre y.1 y.2 :: Wo w pre (x :: xs) ys := rfl
theorem Wr_same {n : Nat} {pre : List Int32} {t : Tr} : Wr n pre t t = [] := by
  cases n with
  | zero => rfl
  | succ n => exact if_pos rfl
theorem Wr_l {n : Nat} {pre : List Int32} {t u : Tr} (h : t ≠ u) (h3 : t.1 = 3 ∧ u.1 = 3) : Wr (n + 1) pre t u = Wl (Df n) (Wr n) pre (kids t.2.2) (kids u.2.2) 0 := (if_neg h).trans (if_pos h3)
theorem Wr_o {n : Nat} {pre : List Int32} {t u : Tr} (h : t ≠ u) (h4 : t.1 = 4 ∧ u.1 = 4) : Wr (n + 1) pre t u = Wo (Wr n) pre (kids t.2.2) (kids u.2.2) := (if_neg h).trans ((if_neg (fun q : t.1 = 3 ∧ u.1 = 3 => absurd (h4.1.symm.trans q.1) (by decide))).trans (if_pos h4))
theorem Wr_s {n : Nat} {pre : List Int32} {t u : Tr} (h : t ≠ u) (h3 : ¬ (t.1 = 3 ∧ u.1 = 3)) (h4 : ¬ (t.1 = 4 ∧ u.1 = 4)) : Wr (n + 1) pre t u = [(2, pre, 0, some u)] := (if_neg h).trans ((if_neg h3).trans (if_neg h4))
