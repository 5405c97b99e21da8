/-! the INVERSE leads back; OPERATIONS keep trees right -/
theorem pIx_some {s : Int32} {j : Nat} (h : pIx s = some j) : s = nI j ∧ j < 2 ^ 31 := by
  rcases i32_cases s with hs | ⟨i, hi, rfl⟩
  · rw [pIx_neg hs] at h; cases h
  · rw [pIx_mI hi] at h
    cases h
    exact ⟨rfl, hi⟩
theorem ins_split (s : Int32) : ∀ (xs : List (Int32 × Tr)) (j : Nat), xs.Pairwise (fun x y => x.1 < y.1) → (∀ x ∈ xs, x.1 ≠ s) → ∃ done rest, xs = done ++ rest ∧ ins s xs j = j + done.length ∧ (∀ d ∈ done, d.1 < s) ∧ ∀ x ∈ rest, s < x.1
  | [], j, _, _ => ⟨[], [], rfl, rfl, fun d h => absurd h List.not_mem_nil, fun d h => absurd h List.not_mem_nil⟩
  | x :: xs, j, hp, hn => by
    have hp' := List.pairwise_cons.mp hp
    by_cases h : x.1 < s
    · obtain ⟨done, rest, e1, e2, e3, e4⟩ := ins_split s xs (j + 1) hp'.2 (fun y hy => hn y (List.mem_cons_of_mem _ hy))
      refine ⟨x :: done, rest, by rw [e1]; rfl, ?_, fun d hd => ?_, e4⟩
      · rw [ins, if_pos h, e2, List.length_cons]; omega
      · rcases List.mem_cons.mp hd with rfl | q
        · exact h
        · exact e3 d q
    · refine ⟨[], x :: xs, rfl, ?_, fun d h => absurd h List.not_mem_nil, fun d hd => ?_⟩
      · rw [ins, if_neg h]; rfl
      · have hx : s < x.1 := i32_tri (hn x List.mem_cons_self) h
        rcases List.mem_cons.mp hd with rfl | q
        · exact hx
        · exact i32_lt_tr hx (hp'.1 d q)
theorem plc_split (s : Int32) : ∀ (xs : List (Int32 × Tr)) (i j : Nat), plc s xs i = some j → ∃ done x rest, xs = done ++ x :: rest ∧ j = i + done.length ∧ x.1 = s
  | [], _, _, h => by cases h
  | x :: xs, i, j, h => by
    rw [plc] at h
    split at h
    · next e =>
      cases h
      exact ⟨[], x, xs, rfl, rfl, e⟩
    · obtain ⟨done, y, rest, e1, e2, e3⟩ := plc_split s xs (i + 1) j h
      exact ⟨x :: done, y, rest, by rw [e1]; rfl, by rw [e2, List.length_cons]; omega, e3⟩
theorem plc_no (s : Int32) : ∀ (xs : List (Int32 × Tr)) (i : Nat), plc s xs i = none → ∀ x ∈ xs, x.1 ≠ s
  | [], _, _, x, hx => absurd hx List.not_mem_nil
  | x :: xs, i, h, y, hy => by
    rw [plc] at h
    split at h
    · cases h
    · next e =>
      rcases List.mem_cons.mp hy with rfl | q
      · exact e
      · exact plc_no s xs (i + 1) h y q
theorem split_at {xs : List (Int32 × Tr)} {j : Nat} (h : j < xs.length) : ∃ done x rest, xs = done ++ x :: rest ∧ j = done.length :=
  ⟨xs.take j, xs[j], xs.drop (j + 1), by rw [← List.drop_eq_getElem_cons h, List.take_append_drop], by rw [List.length_take]; omega⟩
theorem split_le {xs : List (Int32 × Tr)} {j : Nat} (h : j ≤ xs.length) : ∃ done rest, xs = done ++ rest ∧ j = done.length :=
  ⟨xs.take j, xs.drop j, by rw [List.take_append_drop], by rw [List.length_take]; omega⟩
theorem place3' {k n : Int32} {zs : List (Int32 × Tr)} {j : Nat} (hk : k ≠ 4) (hj : j < zs.length) (hl : j < 2 ^ 31) : placeT (nd k n zs) (nI j) = some j := by
  have : placeT (nd k n zs) (nI j) = (pIx (nI j)).filter (fun i => decide (i < wd (nd k n zs))) := if_neg hk
  rw [this, pIx_mI hl, wd_nd]
  simp [hj]
/-- what addT and placeT tell of the children -/
theorem addT_split {u : Tr} {s : Int32} {j : Nat} (hw : wfT u) (h : addT u s = some j) : ∃ done rest, kids u.2.2 = done ++ rest ∧ j = done.length ∧ ((u.1 = 3 ∧ s = nI j ∧ j < 2 ^ 31) ∨ (u.1 = 4 ∧ (∀ d ∈ done, d.1 < s) ∧ (∀ x ∈ rest, s < x.1) ∧ 0 ≤ s ∧ s ≤ 99)) := by
  unfold addT at h
  split at h
  · next h3 =>
    rw [Option.filter_eq_some_iff] at h
    obtain ⟨e1, e2⟩ := pIx_some h.1
    obtain ⟨done, rest, q1, q2⟩ := split_le (xs := kids u.2.2) (j := j) (of_decide_eq_true h.2)
    exact ⟨done, rest, q1, q2, Or.inl ⟨h3, e1, e2⟩⟩
  · split at h
    · next h4 =>
      obtain ⟨h4, g1, g2, g3⟩ := h4
      have hp : plc s (kids u.2.2) 0 = none := by
        have : placeT u s = plc s (kids u.2.2) 0 := if_pos h4
        rw [← this]; exact g3
      obtain ⟨done, rest, q1, q2, q3, q4⟩ := ins_split s (kids u.2.2) 0 (hw.1.2.2.2.2 h4).1 (plc_no s _ 0 hp)
      cases h
      exact ⟨done, rest, q1, by rw [q2, Nat.zero_add], Or.inr ⟨h4, q3, q4, Int32.not_lt.mp g1, Int32.not_lt.mp g2⟩⟩
    · cases h
theorem placeT_split {u : Tr} {s : Int32} {j : Nat} (h : placeT u s = some j) : ∃ done x rest, kids u.2.2 = done ++ x :: rest ∧ j = done.length ∧ ((u.1 ≠ 4 ∧ s = nI j ∧ j < 2 ^ 31) ∨ (u.1 = 4 ∧ x.1 = s)) := by
  unfold placeT at h
  split at h
  · next h4 =>
    obtain ⟨done, x, rest, e1, e2, e3⟩ := plc_split s _ 0 j h
    exact ⟨done, x, rest, e1, by omega, Or.inr ⟨h4, e3⟩⟩
  · next h4 =>
    rw [Option.filter_eq_some_iff] at h
    obtain ⟨e1, e2⟩ := pIx_some h.1
    obtain ⟨done, x, rest, q1, q2⟩ := split_at (xs := kids u.2.2) (j := j) (of_decide_eq_true h.2)
    exact ⟨done, x, rest, q1, q2, Or.inl ⟨h4, e1, e2⟩⟩
theorem addP_nd {u v : Tr} {done rest : List (Int32 × Tr)} {s : Int32} (h : kids u.2.2 = done ++ rest) : addP u done.length s v = nd u.1 u.2.1 (done ++ (if u.1 = 4 then s else 0, v) :: rest) := by
  unfold addP
  rw [h, ins_mid]
theorem remP_nd {u : Tr} {done rest : List (Int32 × Tr)} {x : Int32 × Tr} (h : kids u.2.2 = done ++ x :: rest) : remP u done.length = nd u.1 u.2.1 (done ++ rest) := by
  unfold remP
  rw [h, er_mid]
theorem wfT_addP {u v : Tr} {s : Int32} {j : Nat} (hu : wfT u) (hv : wfT v) (h : addT u s = some j) : wfT (addP u j s v) := by
  obtain ⟨done, rest, e1, rfl, e3⟩ := addT_split hu h
  rw [addP_nd e1]
  have hm : ∀ x ∈ done ++ rest, x ∈ kids u.2.2 := fun x hx => by rw [e1]; exact hx
  obtain ⟨⟨o1, o2, o3, o4, o5⟩, o6⟩ := hu
  refine wf_nd o1 o2 (fun _ => by rcases e3 with q | q; exact Or.inl q.1; exact Or.inr q.1) (fun h4 x hx => ?_) (fun h4 => ?_) (fun x hx => ?_)
  · rcases List.mem_append.mp hx with q | q
    · exact o4 h4 x (hm x (List.mem_append_left _ q))
    · rcases List.mem_cons.mp q with rfl | q
      · exact if_neg h4
      · exact o4 h4 x (hm x (List.mem_append_right _ q))
  · rcases e3 with q | ⟨-, q1, q2, q3⟩
    · rw [q.1] at h4; exact absurd h4 (by decide)
    · rw [if_pos h4]
      have := o5 h4
      rw [e1] at this
      exact keysOk_put this q1 q2 q3
  · rcases List.mem_append.mp hx with q | q
    · exact o6.kid x (hm x (List.mem_append_left _ q))
    · rcases List.mem_cons.mp q with rfl | q
      · exact hv
      · exact o6.kid x (hm x (List.mem_append_right _ q))
theorem wfT_remP {u : Tr} {j : Nat} (hu : wfT u) (hj : j < wd u) : wfT (remP u j) := by
  obtain ⟨done, x, rest, e1, rfl⟩ := split_at (xs := kids u.2.2) (j := j) hj
  rw [remP_nd e1]
  have hm : ∀ z ∈ done ++ rest, z ∈ kids u.2.2 := fun z hz => by
    rw [e1]
    rcases List.mem_append.mp hz with q | q
    · exact List.mem_append_left _ q
    · exact List.mem_append_right _ (List.mem_cons_of_mem _ q)
  obtain ⟨⟨o1, o2, o3, o4, o5⟩, o6⟩ := hu
  exact wf_nd o1 o2 (fun _ => o3 (by rw [e1]; simp)) (fun h4 z hz => o4 h4 z (hm z hz)) (fun h4 => by have := o5 h4; rw [e1] at this; exact keysOk_del this) (fun z hz => o6.kid z (hm z hz))
/-- after ADD, the STEP leads to what was added, and DROP brings back what was there -/
theorem add_back {u v : Tr} {s : Int32} {j : Nat} (hu : wfT u) (h : addT u s = some j) : placeT (addP u j s v) s = some j ∧ remP (addP u j s v) j = u := by
  obtain ⟨done, rest, e1, rfl, e3⟩ := addT_split hu h
  rw [addP_nd e1]
  refine ⟨?_, ?_⟩
  · rcases e3 with ⟨q1, q2, q3⟩ | ⟨q1, q2, q3, q4⟩
    · rw [q2]
      exact place3' (by rw [q1]; decide) (by simp) q3
    · rw [if_pos q1, q1]
      have := hu.1.2.2.2.2 q1
      rw [e1] at this
      exact place4 (x := (s, v)) (keysOk_put this q2 q3 q4)
  · rw [remP_nd (kids_nd _ _ _), ← e1]
    exact nd_self hu
theorem drop_back {u : Tr} {s : Int32} {j : Nat} (hu : wfT u) (h : placeT u s = some j) : ∃ c, kid u j = some c ∧ addT (remP u j) s = some j ∧ addP (remP u j) j s c = u := by
  obtain ⟨done, x, rest, e1, rfl, e3⟩ := placeT_split h
  refine ⟨x.2, kid_some (by rw [e1]; exact mid_get _ _ _), ?_, ?_⟩
  · rw [remP_nd e1]
    rcases e3 with ⟨q1, q2, q3⟩ | ⟨q1, q2⟩
    · have h3 : u.1 = 3 := by
        rcases hu.1.2.2.1 (by rw [e1]; simp) with q | q
        · exact q
        · exact absurd q q1
      rw [h3, q2]
      exact add3 (by simp) q3
    · have hk := hu.1.2.2.2.2 q1
      have hr := hk.2 x (by rw [e1]; exact List.mem_append_right _ List.mem_cons_self)
      rw [e1] at hk
      rw [q1, ← q2]
      exact add4 (fun d hd => keysOk_lt hk hd) (fun d hd => keysOk_gt hk hd) hr
  · rw [remP_nd e1, addP_nd (kids_nd _ _ _)]
    have : ((if (nd u.1 u.2.1 (done ++ rest)).1 = 4 then s else 0, x.2) : Int32 × Tr) = x := by
      refine Prod.ext ?_ rfl
      show (if u.1 = 4 then s else 0) = x.1
      rcases e3 with ⟨q1, q2, q3⟩ | ⟨q1, q2⟩
      · rw [if_neg q1, hu.1.2.2.2.1 q1 x (by rw [e1]; exact List.mem_append_right _ List.mem_cons_self)]
      · rw [if_pos q1, q2]
    rw [this]
    show nd u.1 u.2.1 (done ++ x :: rest) = u
    rw [← e1]
    exact nd_self hu
theorem opRun_0 {o : OpT} {t : Tr} {v : Tr} (h : o.1 = 0) (hv : o.2.2.2 = some v) : opRun o t = doAdd t o.2.1 o.2.2.1 v := by unfold opRun; rw [if_pos h, hv]; rfl
theorem opRun_1 {o : OpT} {t : Tr} (h : o.1 = 1) : opRun o t = doDrop t o.2.1 o.2.2.1 := by unfold opRun; rw [if_neg (by rw [h]; decide), if_pos h]
theorem opRun_2 {o : OpT} {t : Tr} {v : Tr} (h : o.1 = 2) (hv : o.2.2.2 = some v) : opRun o t = doPut t o.2.1 v := by unfold opRun; rw [if_neg (by rw [h]; decide), if_neg (by rw [h]; decide), hv]; rfl
theorem inv_step {o : OpT} {t t' : Tr} (ht : wfT t) (ho : okO o) (hr : opRun o t = some t') : wfT t' ∧ okO (opInv o (opTk o t)) ∧ opRun (opInv o (opTk o t)) t' = some t ∧ opSz (opInv o (opTk o t)) + szT t' ≤ szT t + opSz o := by
  obtain ⟨hok, hval⟩ := ho
  rcases hok with ⟨hc, v, hv⟩ | hc | ⟨hc, v, hv⟩
  · rw [opRun_0 hc hv] at hr
    obtain ⟨u, j, h1, h2, rfl⟩ := doAdd_some hr
    have hwu := wfT_belT _ t u ht h1
    obtain ⟨b1, b2⟩ := add_back (v := v) hwu h2
    have hb := belT_plug _ t u (addP u j o.2.2.1 v) h1
    have hsz := szT_doAdd hr
    have e : opInv o (opTk o t) = dOp o.2.1 o.2.2.1 := if_pos hc
    rw [e]
    refine ⟨wfT_plug _ t u _ ht (wfT_addP hwu (hval v hv) h2) h1, ⟨Or.inr (Or.inl rfl), fun x hx => by cases hx⟩, ?_, ?_⟩
    · rw [run_dop hb b1, plug_plug _ t u _ _ h1, b2, plug_self _ t u ht h1]
    · rw [sz_d, hsz]
      have : opSz o = szT v := by unfold opSz; rw [hv]
      omega
  · rw [opRun_1 hc] at hr
    have hsz := hr
    obtain ⟨u, j, c, h1, h2, h3, rfl, h5⟩ := doDrop_some hr
    have hwu := wfT_belT _ t u ht h1
    obtain ⟨c', k1, k2, k3⟩ := drop_back hwu h2
    cases h3.symm.trans k1
    have hb := belT_plug _ t u (remP u j) h1
    have etk : opTk o t = some c := by unfold opTk; rw [if_neg (by rw [hc]; decide), if_pos hc, h5]
    have e : opInv o (opTk o t) = aOp o.2.1 o.2.2.1 c := by
      rw [etk]
      unfold opInv
      rw [if_neg (by rw [hc]; decide), if_pos hc]
      rfl
    rw [e]
    refine ⟨wfT_plug _ t u _ ht (wfT_remP hwu (kid_lt k1)) h1, ⟨Or.inl ⟨rfl, _, rfl⟩, fun x hx => by cases hx; exact hwu.kid k1⟩, ?_, ?_⟩
    · rw [run_aop hb k2, plug_plug _ t u _ _ h1, k3, plug_self _ t u ht h1]
    · rw [sz_a]
      have q1 := szT_plug _ t u (remP u j) h1
      have q2 := szT_remP k1
      omega
  · rw [opRun_2 hc hv] at hr
    obtain ⟨u, h1, rfl⟩ := doPut_some hr
    have hb := belT_plug _ t u v h1
    have etk : opTk o t = some u := by unfold opTk; rw [if_neg (by rw [hc]; decide), if_neg (by rw [hc]; decide), h1]
    have e : opInv o (opTk o t) = (2, o.2.1, o.2.2.1, some u) := by
      rw [etk]
      unfold opInv
      rw [if_neg (by rw [hc]; decide), if_neg (by rw [hc]; decide)]
    rw [e]
    refine ⟨wfT_plug _ t u _ ht (hval v hv) h1, ⟨Or.inr (Or.inr ⟨rfl, _, rfl⟩), fun x hx => by cases hx; exact wfT_belT _ t u ht h1⟩, ?_, ?_⟩
    · rw [opRun_2 rfl rfl]
      unfold doPut
      rw [hb]
      show some (plug (plug t o.2.1 v) o.2.1 u) = _
      rw [plug_plug _ t u _ _ h1, plug_self _ t u ht h1]
    · have q1 := szT_plug _ t u v h1
      have : opSz o = szT v := by unfold opSz; rw [hv]
      show szT u + _ ≤ _
      omega
theorem invL_cons (o : OpT) (os : List OpT) (tk : Option Tr) (tl : List (Option Tr)) : invL (o :: os) (tk :: tl) = invL os tl ++ [opInv o tk] := by
  unfold invL
  simp
theorem inv_all : ∀ (os : List OpT) (t t1 : Tr) (k : Nat), wfT t → (∀ o ∈ os, okO o) → goR os t k = .inr t1 → wfT t1 ∧ (∀ o ∈ invL os (tks os t), okO o) ∧ runs (invL os (tks os t)) t1 t ∧ sumSz (invL os (tks os t)) + szT t1 ≤ szT t + sumSz os ∧ (invL os (tks os t)).length = os.length
  | [], t, t1, k, ht, _, h => by
    have h : t = t1 := Sum.inr.inj h
    subst h
    exact ⟨ht, fun o h => absurd h List.not_mem_nil, runs_nil _, by show 0 + szT t ≤ szT t + 0; omega, rfl⟩
  | o :: os, t, t1, k, ht, ho, h => by
    rw [goR] at h
    cases hr : opRun o t with
    | none => rw [hr] at h; cases h
    | some t' =>
      rw [hr] at h
      obtain ⟨h1, h2, h3, h4⟩ := inv_step ht (ho o List.mem_cons_self) hr
      obtain ⟨g1, g2, g3, g4, g5⟩ := inv_all os t' t1 (k + 1) h1 (fun o' ho' => ho o' (List.mem_cons_of_mem _ ho')) h
      have e : tks (o :: os) t = opTk o t :: tks os t' := by rw [tks, hr]
      rw [e, invL_cons]
      refine ⟨g1, fun o' ho' => ?_, runs_app g3 (runs_cons h3 (runs_nil _)), ?_, ?_⟩
      · rcases List.mem_append.mp ho' with q | q
        · exact g2 o' q
        · rw [List.mem_singleton.mp q]; exact h2
      · rw [sumSz_app, sumSz_cons, sumSz_cons]
        have : sumSz [] = 0 := rfl
        omega
      · rw [List.length_append, g5]; rfl
/-- the PATCH of a difference can be applied, and leads there -/
theorem diff_try {t u : Tr} (ht : wfT t) (hu : wfT u) (hd : dpT t ≤ 7) (hs : szT t + szT u < 2 ^ 20) (h5 : szT u ≤ 50) (h7 : dpT u ≤ 7) : tryV (Wr 7 [] t u) t = -1 := by
  have := Wr_runs 7 [] t t u ht ht hu hd hs rfl 0
  unfold tryV
  rw [this]
  exact if_pos ⟨h5, h7⟩
theorem okP_diff {t u : Tr} (hu : okD u) (hl : (Wr 7 [] t u).length ≤ 20) : okP (Wr 7 [] t u) := by
  obtain ⟨h1, h2, h3⟩ := Wr_ok 7 [] t u hu.1
  exact ⟨fun o ho => h1 o ho, by have := hu.2.1; omega, hl⟩
