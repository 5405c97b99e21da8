/-! what the written OPERATIONS do: they lead from the one to the other; the INVERSE leads back -/
def runs (os : List OpT) (t u : Tr) : Prop := ∀ k, goR os t k = .inr u
theorem runs_nil (t : Tr) : runs [] t t := fun _ => rfl
theorem runs_cons {o : OpT} {os : List OpT} {t t1 u : Tr} (h : opRun o t = some t1) (h2 : runs os t1 u) : runs (o :: os) t u := fun k => by
  rw [goR, h]
  exact h2 (k + 1)
theorem runs_app : ∀ {os os2 : List OpT} {t t1 u : Tr}, runs os t t1 → runs os2 t1 u → runs (os ++ os2) t u
  | [], os2, t, t1, u, h, h2 => by
    have : t = t1 := by have := h 0; rw [goR] at this; exact Sum.inr.inj this
    subst this
    exact h2
  | o :: os, os2, t, t1, u, h, h2 => by
    cases hr : opRun o t with
    | none =>
      have := h 0
      rw [goR, hr] at this
      cases this
    | some t' =>
      refine runs_cons hr (runs_app (t1 := t1) (fun k => ?_) h2)
      cases k with
      | zero =>
        have hz : ∀ (os : List OpT) (t : Tr) (k k' : Nat) (u : Tr), goR os t k = .inr u → goR os t k' = .inr u := by
          intro os
          induction os with
          | nil => intro t k k' u h; exact h
          | cons o os ih =>
            intro t k k' u h
            rw [goR] at h ⊢
            cases hr : opRun o t with
            | none => rw [hr] at h; cases h
            | some t' => rw [hr] at h; exact ih t' (k + 1) (k' + 1) u h
        have := h 0
        rw [goR, hr] at this
        exact hz _ _ _ _ _ this
      | succ k =>
        have := h k
        rw [goR, hr] at this
        exact this
theorem goR_any : ∀ {os : List OpT} {t : Tr} {k : Nat} {u : Tr}, goR os t k = .inr u → runs os t u
  | [], t, k, u, h => by intro k'; exact h
  | o :: os, t, k, u, h => by
    rw [goR] at h
    cases hr : opRun o t with
    | none => rw [hr] at h; cases h
    | some t' => rw [hr] at h; exact runs_cons hr (goR_any h)
theorem belT_appS {T c : Tr} {pre q : List Int32} (h : belT T pre = some c) : belT T (pre ++ q) = belT c q := by rw [belT_app, h]; rfl
theorem plug_app : ∀ (pre q : List Int32) (T c e : Tr), belT T pre = some c → plug T (pre ++ q) e = plug T pre (plug c q e)
  | [], q, T, c, e, h => by
    have h : T = c := Option.some.inj h
    subst h
    rfl
  | s :: r, q, T, c, e, h => by
    obtain ⟨j, d, h1, h2, h3⟩ := belT_cons h
    rw [List.cons_append, plug_cons h1 h2, plug_cons h1 h2, plug_app r q d c e h3]
theorem belT_one {c x : Tr} {s : Int32} {j : Nat} (h1 : placeT c s = some j) (h2 : kid c j = some x) : belT c [s] = some x := by
  rw [belT_of h1 h2]; rfl
theorem plug_one {c x e : Tr} {s : Int32} {j : Nat} (h1 : placeT c s = some j) (h2 : kid c j = some x) : plug c [s] e = setP c j e := by
  rw [plug_cons h1 h2]; rfl
/-! one OPERATION at the end of a path -/
theorem run_dop {T c : Tr} {pre : List Int32} {s : Int32} {j : Nat} (h : belT T pre = some c) (h1 : placeT c s = some j) : opRun (dOp pre s) T = some (plug T pre (remP c j)) := by
  show (if (1 : Int32) = 0 then _ else if (1 : Int32) = 1 then doDrop T pre s else _) = _
  rw [if_neg (by decide), if_pos rfl]
  unfold doDrop
  rw [h, Option.bind_some, h1]; rfl
theorem run_aop {T c v : Tr} {pre : List Int32} {s : Int32} {j : Nat} (h : belT T pre = some c) (h1 : addT c s = some j) : opRun (aOp pre s v) T = some (plug T pre (addP c j s v)) := by
  show (if (0 : Int32) = 0 then Option.bind (some v) (doAdd T pre s) else _) = _
  rw [if_pos rfl, Option.bind_some]
  unfold doAdd
  rw [h, Option.bind_some, h1]; rfl
theorem run_set {T c v : Tr} {pre : List Int32} (h : belT T pre = some c) : opRun (2, pre, 0, some v) T = some (plug T pre v) := by
  show (if (2 : Int32) = 0 then _ else if (2 : Int32) = 1 then _ else Option.bind (some v) (doPut T pre)) = _
  rw [if_neg (by decide), if_neg (by decide), Option.bind_some]
  unfold doPut
  rw [h]; rfl
/-- a node with these children -/
abbrev nd (k n : Int32) (zs : List (Int32 × Tr)) : Tr := (k, n, ofKids zs)
theorem kids_nd (k n : Int32) (zs : List (Int32 × Tr)) : kids (nd k n zs).2.2 = zs := kids_of zs
theorem wd_nd (k n : Int32) (zs : List (Int32 × Tr)) : wd (nd k n zs) = zs.length := by unfold wd; rw [kids_nd]
theorem kid_nd {k n : Int32} {zs : List (Int32 × Tr)} {j : Nat} {x : Int32 × Tr} (h : zs[j]? = some x) : kid (nd k n zs) j = some x.2 := kid_some (by rw [kids_nd]; exact h)
theorem nd_self {t : Tr} (h : wfT t) : nd t.1 t.2.1 (kids t.2.2) = t := by
  refine tr_ext ?_ h rfl rfl (kids_nd _ _ _)
  refine ⟨?_, (wfF_iff _).mpr fun x hx => h.2.kid x hx⟩
  unfold okN
  rw [kids_nd]
  exact h.1
theorem wf_nd {k n : Int32} {zs : List (Int32 × Tr)} (hk : k = 0 ∨ k = 1 ∨ k = 2 ∨ k = 3 ∨ k = 4) (hn : n = -10000 ↔ (k ≠ 1 ∧ k ≠ 2)) (h34 : zs ≠ [] → k = 3 ∨ k = 4) (h0 : k ≠ 4 → ∀ x ∈ zs, x.1 = 0) (h4 : k = 4 → keysOk zs) (hz : ∀ x ∈ zs, wfT x.2) : wfT (nd k n zs) := by
  refine ⟨?_, (wfF_iff _).mpr hz⟩
  unfold okN
  rw [kids_nd]
  exact ⟨hk, hn, h34, h0, h4⟩
theorem wf_nd3 {zs : List (Int32 × Tr)} (h0 : ∀ x ∈ zs, x.1 = 0) (hz : ∀ x ∈ zs, wfT x.2) : wfT (nd 3 (-10000) zs) :=
  wf_nd (by simp) (by decide) (fun _ => Or.inl rfl) (fun _ => h0) (fun h => absurd h (by decide)) hz
theorem wf_nd4 {zs : List (Int32 × Tr)} (h0 : keysOk zs) (hz : ∀ x ∈ zs, wfT x.2) : wfT (nd 4 (-10000) zs) :=
  wf_nd (by simp) (by decide) (fun _ => Or.inr rfl) (fun h => absurd rfl h) (fun _ => h0) hz
theorem setK_mid (done : List (Int32 × Tr)) (x : Int32 × Tr) (xs : List (Int32 × Tr)) (v : Tr) : setK (done ++ x :: xs) done.length v = done ++ (x.1, v) :: xs := by
  induction done with
  | nil => rfl
  | cons d ds ih =>
    have := congrArg (d :: ·) ih
    exact this
theorem er_mid (done : List (Int32 × Tr)) (x : Int32 × Tr) (xs : List (Int32 × Tr)) : (done ++ x :: xs).eraseIdx done.length = done ++ xs := by
  induction done with
  | nil => rfl
  | cons d ds ih =>
    have := congrArg (d :: ·) ih
    exact this
theorem ins_mid (done : List (Int32 × Tr)) (y : Int32 × Tr) (xs : List (Int32 × Tr)) : insK (done ++ xs) done.length y = done ++ y :: xs := by
  unfold insK
  rw [List.take_left, List.drop_left]
/-! lists -/
theorem place3 {n : Int32} {zs : List (Int32 × Tr)} {j : Nat} (hj : j < zs.length) (hl : j < 2 ^ 31) : placeT (nd 3 n zs) (nI j) = some j := by
  have : placeT (nd 3 n zs) (nI j) = (pIx (nI j)).filter (fun i => decide (i < wd (nd 3 n zs))) := if_neg (by show ¬ ((3 : Int32) = 4); decide)
  rw [this, pIx_mI hl, wd_nd]
  simp [hj]
theorem add3 {n : Int32} {zs : List (Int32 × Tr)} {j : Nat} (hj : j ≤ zs.length) (hl : j < 2 ^ 31) : addT (nd 3 n zs) (nI j) = some j := by
  have : addT (nd 3 n zs) (nI j) = (pIx (nI j)).filter (fun i => decide (i ≤ wd (nd 3 n zs))) := if_pos rfl
  rw [this, pIx_mI hl, wd_nd]
  simp [hj]
theorem mid_get (done : List (Int32 × Tr)) (x : Int32 × Tr) (xs : List (Int32 × Tr)) : (done ++ x :: xs)[done.length]? = some x := by simp
section LISTS
variable {f : Tr → Tr → Nat} {w : List Int32 → Tr → Tr → List OpT} {pre : List Int32} {T c0 : Tr}
theorem adds_runs (hT : belT T pre = some c0) : ∀ (ys done : List (Int32 × Tr)), (∀ y ∈ ys, y.1 = 0) → done.length + ys.length < 2 ^ 20 → runs (addsL pre ys done.length) (plug T pre (nd 3 (-10000) done)) (plug T pre (nd 3 (-10000) (done ++ ys)))
  | [], done, _, _ => by rw [List.append_nil]; exact runs_nil _
  | y :: ys, done, h0, hl => by
    have hl' : done.length + (ys.length + 1) < 2 ^ 20 := hl
    have hb := belT_plug pre T c0 (nd 3 (-10000) done) hT
    refine runs_cons (run_aop hb (add3 (Nat.le_refl _) (by omega))) ?_
    rw [plug_plug pre T c0 _ _ hT]
    have e : addP (nd 3 (-10000) done) done.length (nI done.length) y.2 = nd 3 (-10000) (done ++ [y]) := by
      show nd 3 (-10000) (insK (kids (nd 3 (-10000) done).2.2) done.length (if (3 : Int32) = 4 then nI done.length else 0, y.2)) = _
      rw [kids_nd, if_neg (by decide)]
      have := ins_mid done (0, y.2) []
      rw [List.append_nil] at this
      rw [this, show (((0 : Int32), y.2) : Int32 × Tr) = y from Prod.ext (h0 y List.mem_cons_self).symm rfl]
    rw [e]
    have := adds_runs hT ys (done ++ [y]) (fun z hz => h0 z (List.mem_cons_of_mem _ hz)) (by simp; omega)
    simpa using this
theorem Wl_runs {px py : Tr → Prop} (hpx : ∀ v, px v → wfT v) (hpy : ∀ v, py v → wfT v) (hT : belT T pre = some c0) (hwT : wfT T)
    (hw : ∀ (x y : Tr) (s : Int32) (T' : Tr), wfT T' → belT T' (pre ++ [s]) = some x → px x → py y → runs (w (pre ++ [s]) x y) T' (plug T' (pre ++ [s]) y)) :
    ∀ (xs ys done : List (Int32 × Tr)), (∀ z ∈ done, z.1 = 0 ∧ wfT z.2) → (∀ x ∈ xs, x.1 = 0 ∧ px x.2) → (∀ y ∈ ys, y.1 = 0 ∧ py y.2) → done.length + xs.length + ys.length < 2 ^ 20 →
      runs (Wl f w pre xs ys done.length) (plug T pre (nd 3 (-10000) (done ++ xs))) (plug T pre (nd 3 (-10000) (done ++ ys))) := by
  intro xs
  induction xs with
  | nil =>
    intro ys done hd _ hy hl
    rw [List.append_nil]
    exact adds_runs hT ys done (fun y h => (hy y h).1) (by simpa using hl)
  | cons x xs ih =>
    intro ys
    have drop : ∀ (ys done : List (Int32 × Tr)), done.length + (xs.length + 1) + ys.length < 2 ^ 20 → (∀ z ∈ done, z.1 = 0 ∧ wfT z.2) → (∀ x' ∈ x :: xs, x'.1 = 0 ∧ px x'.2) → (∀ y ∈ ys, y.1 = 0 ∧ py y.2) → runs (dOp pre (nI done.length) :: Wl f w pre xs ys done.length) (plug T pre (nd 3 (-10000) (done ++ x :: xs))) (plug T pre (nd 3 (-10000) (done ++ ys))) := by
      intro ys done hl hd hx hy
      have hb := belT_plug pre T c0 (nd 3 (-10000) (done ++ x :: xs)) hT
      refine runs_cons (run_dop hb (place3 (by simp) (by omega))) ?_
      rw [plug_plug pre T c0 _ _ hT]
      have e : remP (nd 3 (-10000) (done ++ x :: xs)) done.length = nd 3 (-10000) (done ++ xs) := by
        show nd 3 (-10000) ((kids (nd 3 (-10000) (done ++ x :: xs)).2.2).eraseIdx done.length) = _
        rw [kids_nd, er_mid]
      rw [e]
      exact ih ys done hd (fun z hz => hx z (List.mem_cons_of_mem _ hz)) hy (by omega)
    induction ys with
    | nil =>
      intro done hd hx hy hl
      rw [Wl_nil2]
      exact drop [] done (by simpa using hl) hd hx hy
    | cons y ys ih2 =>
      intro done hd hx hy hl
      simp only [List.length_cons] at hl
      rw [Wl_cons]
      have hx0 := hx x List.mem_cons_self
      have hy0 := hy y List.mem_cons_self
      split
      · have hb := belT_plug pre T c0 (nd 3 (-10000) (done ++ x :: xs)) hT
        have hp : placeT (nd 3 (-10000) (done ++ x :: xs)) (nI done.length) = some done.length := place3 (by simp) (by omega)
        have hk : kid (nd 3 (-10000) (done ++ x :: xs)) done.length = some x.2 := kid_nd (mid_get done x xs)
        have hwc : wfT (nd 3 (-10000) (done ++ x :: xs)) := wf_nd3 (fun z hz => by
          rcases List.mem_append.mp hz with q | q
          · exact (hd z q).1
          · exact (hx z q).1) (fun z hz => by
          rcases List.mem_append.mp hz with q | q
          · exact (hd z q).2
          · exact hpx _ (hx z q).2)
        have hbx : belT (plug T pre (nd 3 (-10000) (done ++ x :: xs))) (pre ++ [nI done.length]) = some x.2 := by
          rw [belT_appS hb]; exact belT_one hp hk
        have hr := hw x.2 y.2 (nI done.length) _ (wfT_plug pre T c0 _ hwT hwc hT) hbx hx0.2 hy0.2
        rw [plug_app pre [nI done.length] _ _ y.2 hb, plug_plug pre T c0 _ _ hT, plug_one hp hk] at hr
        have e : setP (nd 3 (-10000) (done ++ x :: xs)) done.length y.2 = nd 3 (-10000) ((done ++ [y]) ++ xs) := by
          show nd 3 (-10000) (setK (kids (nd 3 (-10000) (done ++ x :: xs)).2.2) done.length y.2) = _
          rw [kids_nd, setK_mid, show ((x.1, y.2) : Int32 × Tr) = y from Prod.ext (by rw [hx0.1, hy0.1]) rfl, List.append_assoc]
          rfl
        rw [e] at hr
        refine runs_app hr ?_
        have := ih ys (done ++ [y]) (fun z hz => by
          rcases List.mem_append.mp hz with q | q
          · exact hd z q
          · rw [List.mem_singleton.mp q]; exact ⟨hy0.1, hpy _ hy0.2⟩) (fun z hz => hx z (List.mem_cons_of_mem _ hz)) (fun z hz => hy z (List.mem_cons_of_mem _ hz)) (by simp; omega)
        simpa using this
      · split
        · exact drop (y :: ys) done (by simp; omega) hd hx hy
        · have hb := belT_plug pre T c0 (nd 3 (-10000) (done ++ x :: xs)) hT
          refine runs_cons (run_aop hb (add3 (by simp) (by omega))) ?_
          rw [plug_plug pre T c0 _ _ hT]
          have e : addP (nd 3 (-10000) (done ++ x :: xs)) done.length (nI done.length) y.2 = nd 3 (-10000) ((done ++ [y]) ++ x :: xs) := by
            show nd 3 (-10000) (insK (kids (nd 3 (-10000) (done ++ x :: xs)).2.2) done.length (if (3 : Int32) = 4 then nI done.length else 0, y.2)) = _
            rw [kids_nd, if_neg (by decide), ins_mid, show (((0 : Int32), y.2) : Int32 × Tr) = y from Prod.ext hy0.1.symm rfl, List.append_assoc]
            rfl
          rw [e]
          have := ih2 (done ++ [y]) (fun z hz => by
            rcases List.mem_append.mp hz with q | q
            · exact hd z q
            · rw [List.mem_singleton.mp q]; exact ⟨hy0.1, hpy _ hy0.2⟩) hx (fun z hz => hy z (List.mem_cons_of_mem _ hz)) (by simp; omega)
          simpa using this
end LISTS
/-! objects -/
theorem plc_app (s : Int32) : ∀ (done rest : List (Int32 × Tr)) (j : Nat), (∀ d ∈ done, d.1 ≠ s) → plc s (done ++ rest) j = plc s rest (j + done.length)
  | [], rest, j, _ => by simp
  | d :: ds, rest, j, h => by
    rw [List.cons_append, plc, if_neg (h d List.mem_cons_self), plc_app s ds rest (j + 1) (fun z hz => h z (List.mem_cons_of_mem _ hz))]
    congr 1
    simp only [List.length_cons]; omega
theorem plc_none (s : Int32) : ∀ (xs : List (Int32 × Tr)) (j : Nat), (∀ d ∈ xs, d.1 ≠ s) → plc s xs j = none
  | [], _, _ => rfl
  | d :: ds, j, h => by rw [plc, if_neg (h d List.mem_cons_self), plc_none s ds (j + 1) (fun z hz => h z (List.mem_cons_of_mem _ hz))]
theorem ins_app (s : Int32) : ∀ (done rest : List (Int32 × Tr)) (j : Nat), (∀ d ∈ done, d.1 < s) → ins s (done ++ rest) j = ins s rest (j + done.length)
  | [], rest, j, _ => by simp
  | d :: ds, rest, j, h => by
    rw [List.cons_append, ins, if_pos (h d List.mem_cons_self), ins_app s ds rest (j + 1) (fun z hz => h z (List.mem_cons_of_mem _ hz))]
    congr 1
    simp only [List.length_cons]; omega
theorem keysOk_lt {done rest : List (Int32 × Tr)} {x d : Int32 × Tr} (h : keysOk (done ++ x :: rest)) (hd : d ∈ done) : d.1 < x.1 := (List.pairwise_append.mp h.1).2.2 d hd x List.mem_cons_self
theorem keysOk_gt {done rest : List (Int32 × Tr)} {x d : Int32 × Tr} (h : keysOk (done ++ x :: rest)) (hd : d ∈ rest) : x.1 < d.1 := (List.pairwise_cons.mp (List.pairwise_append.mp h.1).2.1).1 d hd
theorem place4 {n : Int32} {done xs : List (Int32 × Tr)} {x : Int32 × Tr} (h : keysOk (done ++ x :: xs)) : placeT (nd 4 n (done ++ x :: xs)) x.1 = some done.length := by
  have : placeT (nd 4 n (done ++ x :: xs)) x.1 = plc x.1 (kids (nd 4 n (done ++ x :: xs)).2.2) 0 := if_pos rfl
  rw [this, kids_nd, plc_app x.1 done _ 0 (fun d hd e => by have := keysOk_lt h hd; rw [e] at this; exact i32_irr this), plc, if_pos rfl, Nat.zero_add]
theorem keysOk_del {done xs : List (Int32 × Tr)} {x : Int32 × Tr} (h : keysOk (done ++ x :: xs)) : keysOk (done ++ xs) := by
  refine ⟨?_, fun z hz => h.2 z ?_⟩
  · have h1 := List.pairwise_append.mp h.1
    exact List.pairwise_append.mpr ⟨h1.1, (List.pairwise_cons.mp h1.2.1).2, fun a ha b hb => h1.2.2 a ha b (List.mem_cons_of_mem _ hb)⟩
  · rcases List.mem_append.mp hz with q | q
    · exact List.mem_append_left _ q
    · exact List.mem_append_right _ (List.mem_cons_of_mem _ q)
/-- y fits between done and xs -/
theorem keysOk_put {done xs : List (Int32 × Tr)} {y : Int32 × Tr} (h : keysOk (done ++ xs)) (h1 : ∀ d ∈ done, d.1 < y.1) (h2 : ∀ x ∈ xs, y.1 < x.1) (h3 : 0 ≤ y.1 ∧ y.1 ≤ 99) : keysOk (done ++ y :: xs) := by
  have q := List.pairwise_append.mp h.1
  refine ⟨List.pairwise_append.mpr ⟨q.1, List.pairwise_cons.mpr ⟨h2, q.2.1⟩, fun a ha b hb => ?_⟩, fun z hz => ?_⟩
  · rcases List.mem_cons.mp hb with rfl | hb
    · exact h1 a ha
    · exact q.2.2 a ha b hb
  · rcases List.mem_append.mp hz with q | q
    · exact h.2 z (List.mem_append_left _ q)
    · rcases List.mem_cons.mp q with rfl | q
      · exact h3
      · exact h.2 z (List.mem_append_right _ q)
theorem add4 {n : Int32} {done xs : List (Int32 × Tr)} {s : Int32} (h1 : ∀ d ∈ done, d.1 < s) (h2 : ∀ x ∈ xs, s < x.1) (h3 : 0 ≤ s ∧ s ≤ 99) : addT (nd 4 n (done ++ xs)) s = some done.length := by
  have hp : placeT (nd 4 n (done ++ xs)) s = none := by
    have : placeT (nd 4 n (done ++ xs)) s = plc s (kids (nd 4 n (done ++ xs)).2.2) 0 := if_pos rfl
    rw [this, kids_nd]
    refine plc_none s _ 0 fun d hd e => ?_
    rcases List.mem_append.mp hd with q | q
    · have := h1 d q; rw [e] at this; exact i32_irr this
    · have := h2 d q; rw [e] at this; exact i32_irr this
  have hi : ins s (done ++ xs) 0 = done.length := by
    rw [ins_app s done xs 0 h1]
    cases xs with
    | nil => rw [ins, Nat.zero_add]
    | cons x xs => rw [ins, if_neg (i32_asym (h2 x List.mem_cons_self)), Nat.zero_add]
  show (if (4 : Int32) = 3 then _ else if (4 : Int32) = 4 ∧ ¬ s < 0 ∧ ¬ 99 < s ∧ placeT (nd 4 n (done ++ xs)) s = none then some (ins s (kids (nd 4 n (done ++ xs)).2.2) 0) else none) = _
  rw [if_neg (by decide), if_pos ⟨rfl, Int32.not_lt.mpr h3.1, Int32.not_lt.mpr h3.2, hp⟩, kids_nd, hi]
section OBJECTS
variable {w : List Int32 → Tr → Tr → List OpT} {pre : List Int32} {T c0 : Tr}
theorem oadds_runs (hT : belT T pre = some c0) : ∀ (ys done : List (Int32 × Tr)), keysOk (done ++ ys) → runs (ys.map (fun y => aOp pre y.1 y.2)) (plug T pre (nd 4 (-10000) done)) (plug T pre (nd 4 (-10000) (done ++ ys)))
  | [], done, _ => by rw [List.append_nil]; exact runs_nil _
  | y :: ys, done, hk => by
    have hb := belT_plug pre T c0 (nd 4 (-10000) done) hT
    have h1 : ∀ d ∈ done, d.1 < y.1 := fun d hd => keysOk_lt hk hd
    have h3 := hk.2 y (List.mem_append_right _ List.mem_cons_self)
    have ha : addT (nd 4 (-10000) (done ++ [])) y.1 = some done.length := add4 h1 (fun x hx => absurd hx List.not_mem_nil) h3
    rw [List.append_nil] at ha
    refine runs_cons (run_aop hb ha) ?_
    rw [plug_plug pre T c0 _ _ hT]
    have e : addP (nd 4 (-10000) done) done.length y.1 y.2 = nd 4 (-10000) (done ++ [y]) := by
      show nd 4 (-10000) (insK (kids (nd 4 (-10000) done).2.2) done.length (if (4 : Int32) = 4 then y.1 else 0, y.2)) = _
      rw [kids_nd, if_pos rfl]
      have := ins_mid done y []
      rw [List.append_nil] at this
      rw [← this]
    rw [e]
    have := oadds_runs hT ys (done ++ [y]) (by simpa using hk)
    simpa using this
theorem Wo_runs {px py : Tr → Prop} (hpx : ∀ v, px v → wfT v) (hpy : ∀ v, py v → wfT v) (hT : belT T pre = some c0) (hwT : wfT T)
    (hw : ∀ (x y : Tr) (s : Int32) (T' : Tr), wfT T' → belT T' (pre ++ [s]) = some x → px x → py y → runs (w (pre ++ [s]) x y) T' (plug T' (pre ++ [s]) y)) :
    ∀ (xs ys done : List (Int32 × Tr)), (∀ z ∈ done, wfT z.2) → (∀ x ∈ xs, px x.2) → (∀ y ∈ ys, py y.2) → keysOk (done ++ xs) → keysOk (done ++ ys) →
      runs (Wo w pre xs ys) (plug T pre (nd 4 (-10000) (done ++ xs))) (plug T pre (nd 4 (-10000) (done ++ ys))) := by
  intro xs
  induction xs with
  | nil =>
    intro ys done _ _ _ _ hk
    rw [List.append_nil]
    exact oadds_runs hT ys done hk
  | cons x xs ih =>
    intro ys
    have drop : ∀ (ys done : List (Int32 × Tr)), (∀ z ∈ done, wfT z.2) → (∀ x' ∈ x :: xs, px x'.2) → (∀ y ∈ ys, py y.2) → keysOk (done ++ x :: xs) → keysOk (done ++ ys) → runs (dOp pre x.1 :: Wo w pre xs ys) (plug T pre (nd 4 (-10000) (done ++ x :: xs))) (plug T pre (nd 4 (-10000) (done ++ ys))) := by
      intro ys done hd hx hy hk1 hk2
      have hb := belT_plug pre T c0 (nd 4 (-10000) (done ++ x :: xs)) hT
      refine runs_cons (run_dop hb (place4 hk1)) ?_
      rw [plug_plug pre T c0 _ _ hT]
      have e : remP (nd 4 (-10000) (done ++ x :: xs)) done.length = nd 4 (-10000) (done ++ xs) := by
        show nd 4 (-10000) ((kids (nd 4 (-10000) (done ++ x :: xs)).2.2).eraseIdx done.length) = _
        rw [kids_nd, er_mid]
      rw [e]
      exact ih ys done hd (fun z hz => hx z (List.mem_cons_of_mem _ hz)) hy (keysOk_del hk1) hk2
    induction ys with
    | nil =>
      intro done hd hx hy hk1 hk2
      rw [Wo_nil2]
      exact drop [] done hd hx hy hk1 hk2
    | cons y ys ih2 =>
      intro done hd hx hy hk1 hk2
      rw [Wo_cons]
      have hx0 := hx x List.mem_cons_self
      have hy0 := hy y List.mem_cons_self
      split
      · next hkey =>
        have hb := belT_plug pre T c0 (nd 4 (-10000) (done ++ x :: xs)) hT
        have hp : placeT (nd 4 (-10000) (done ++ x :: xs)) x.1 = some done.length := place4 hk1
        have hk : kid (nd 4 (-10000) (done ++ x :: xs)) done.length = some x.2 := kid_nd (mid_get done x xs)
        have hwc : wfT (nd 4 (-10000) (done ++ x :: xs)) := wf_nd4 hk1 (fun z hz => by
          rcases List.mem_append.mp hz with q | q
          · exact hd z q
          · exact hpx _ (hx z q))
        have hbx : belT (plug T pre (nd 4 (-10000) (done ++ x :: xs))) (pre ++ [x.1]) = some x.2 := by
          rw [belT_appS hb]; exact belT_one hp hk
        have hr := hw x.2 y.2 x.1 _ (wfT_plug pre T c0 _ hwT hwc hT) hbx hx0 hy0
        rw [plug_app pre [x.1] _ _ y.2 hb, plug_plug pre T c0 _ _ hT, plug_one hp hk] at hr
        have e : setP (nd 4 (-10000) (done ++ x :: xs)) done.length y.2 = nd 4 (-10000) ((done ++ [y]) ++ xs) := by
          show nd 4 (-10000) (setK (kids (nd 4 (-10000) (done ++ x :: xs)).2.2) done.length y.2) = _
          rw [kids_nd, setK_mid, show ((x.1, y.2) : Int32 × Tr) = y from Prod.ext hkey rfl, List.append_assoc]
          rfl
        rw [e] at hr
        refine runs_app hr ?_
        have hk3 : keysOk ((done ++ [y]) ++ xs) := keysOk_congr (xs := done ++ x :: xs) (by simp [hkey]) hk1
        have := ih ys (done ++ [y]) (fun z hz => by
          rcases List.mem_append.mp hz with q | q
          · exact hd z q
          · rw [List.mem_singleton.mp q]; exact hpy _ hy0) (fun z hz => hx z (List.mem_cons_of_mem _ hz)) (fun z hz => hy z (List.mem_cons_of_mem _ hz)) hk3 (by simpa using hk2)
        simpa using this
      · next hne =>
        split
        · exact drop (y :: ys) done hd hx hy hk1 hk2
        · next hnl =>
          have hyx : y.1 < x.1 := i32_tri hne hnl
          have hb := belT_plug pre T c0 (nd 4 (-10000) (done ++ x :: xs)) hT
          have h1 : ∀ d ∈ done, d.1 < y.1 := fun d hd => keysOk_lt hk2 hd
          have h2 : ∀ z ∈ x :: xs, y.1 < z.1 := fun z hz => by
            rcases List.mem_cons.mp hz with rfl | q
            · exact hyx
            · exact i32_lt_tr hyx (keysOk_gt hk1 q)
          have h3 := hk2.2 y (List.mem_append_right _ List.mem_cons_self)
          refine runs_cons (run_aop hb (add4 h1 h2 h3)) ?_
          rw [plug_plug pre T c0 _ _ hT]
          have e : addP (nd 4 (-10000) (done ++ x :: xs)) done.length y.1 y.2 = nd 4 (-10000) ((done ++ [y]) ++ x :: xs) := by
            show nd 4 (-10000) (insK (kids (nd 4 (-10000) (done ++ x :: xs)).2.2) done.length (if (4 : Int32) = 4 then y.1 else 0, y.2)) = _
            rw [kids_nd, if_pos rfl, ins_mid, List.append_assoc]
            rfl
          rw [e]
          have hk3 : keysOk ((done ++ [y]) ++ x :: xs) := by
            have := keysOk_put hk1 h1 h2 h3
            simpa using this
          have := ih2 (done ++ [y]) (fun z hz => by
            rcases List.mem_append.mp hz with q | q
            · exact hd z q
            · rw [List.mem_singleton.mp q]; exact hpy _ hy0) hx (fun z hz => hy z (List.mem_cons_of_mem _ hz)) hk3 (by simpa using hk2)
          simpa using this
end OBJECTS
theorem Wr_runs : ∀ (n : Nat) (pre : List Int32) (T t u : Tr), wfT T → wfT t → wfT u → dpT t ≤ n → szT t + szT u < 2 ^ 20 → belT T pre = some t → runs (Wr n pre t u) T (plug T pre u)
  | 0, _, _, t, _, _, _, _, h, _, _ => by unfold dpT at h; omega
  | n + 1, pre, T, t, u, hT, ht, hu, hd, hs, hb => by
    have ih := Wr_runs n
    by_cases he : t = u
    · subst he
      rw [Wr_same, plug_self pre T t hT hb]
      exact runs_nil _
    · have e1 := szT_kids t
      have e2 := szT_kids u
      have l1 := len_szL (kids t.2.2)
      have l2 := len_szL (kids u.2.2)
      have hpx : ∀ x ∈ kids t.2.2, wfT x.2 ∧ dpT x.2 ≤ n ∧ szT x.2 < szT t := fun x hx => ⟨ht.2.kid x hx, by have := kid_dp hx; omega, kid_sz hx⟩
      have hpy : ∀ x ∈ kids u.2.2, wfT x.2 ∧ szT x.2 < szT u := fun x hx => ⟨hu.2.kid x hx, kid_sz hx⟩
      have hw : ∀ (x y : Tr) (s : Int32) (T' : Tr), wfT T' → belT T' (pre ++ [s]) = some x → (wfT x ∧ dpT x ≤ n ∧ szT x < szT t) → (wfT y ∧ szT y < szT u) → runs (Wr n (pre ++ [s]) x y) T' (plug T' (pre ++ [s]) y) := fun x y s T' hT' hbx hx hy => ih (pre ++ [s]) T' x y hT' hx.1 hy.1 hx.2.1 (by omega) hbx
      by_cases h3 : t.1 = 3 ∧ u.1 = 3
      · rw [Wr_l he h3]
        have n1 := wf_num ht (Or.inl h3.1)
        have n2 := wf_num hu (Or.inl h3.2)
        have et : nd 3 (-10000) (kids t.2.2) = t := by
          have := nd_self ht
          rw [h3.1, n1] at this
          exact this
        have eu : nd 3 (-10000) (kids u.2.2) = u := by
          have := nd_self hu
          rw [h3.2, n2] at this
          exact this
        have hself : plug T pre (nd 3 (-10000) (kids t.2.2)) = T := by rw [et]; exact plug_self pre T t hT hb
        have := Wl_runs (f := Df n) (px := fun x => wfT x ∧ dpT x ≤ n ∧ szT x < szT t) (py := fun y => wfT y ∧ szT y < szT u) (fun _ h => h.1) (fun _ h => h.1) hb hT hw (kids t.2.2) (kids u.2.2) [] (fun z hz => absurd hz List.not_mem_nil) (fun x hx => ⟨wf_key ht h3.1 hx, hpx x hx⟩) (fun x hx => ⟨wf_key hu h3.2 hx, hpy x hx⟩) (by simp only [List.length_nil]; omega)
        rw [List.nil_append, List.nil_append, hself, eu] at this
        exact this
      · by_cases h4 : t.1 = 4 ∧ u.1 = 4
        · rw [Wr_o he h4]
          have n1 := wf_num ht (Or.inr h4.1)
          have n2 := wf_num hu (Or.inr h4.2)
          have et : nd 4 (-10000) (kids t.2.2) = t := by
            have := nd_self ht
            rw [h4.1, n1] at this
            exact this
          have eu : nd 4 (-10000) (kids u.2.2) = u := by
            have := nd_self hu
            rw [h4.2, n2] at this
            exact this
          have hself : plug T pre (nd 4 (-10000) (kids t.2.2)) = T := by rw [et]; exact plug_self pre T t hT hb
          have := Wo_runs (px := fun x => wfT x ∧ dpT x ≤ n ∧ szT x < szT t) (py := fun y => wfT y ∧ szT y < szT u) (fun _ h => h.1) (fun _ h => h.1) hb hT hw (kids t.2.2) (kids u.2.2) [] (fun z hz => absurd hz List.not_mem_nil) hpx hpy (by rw [List.nil_append]; exact ht.1.2.2.2.2 h4.1) (by rw [List.nil_append]; exact hu.1.2.2.2.2 h4.2)
          rw [List.nil_append, List.nil_append, hself, eu] at this
          exact this
        · rw [Wr_s he h3 h4]
          exact runs_cons (run_set hb) (runs_nil _)
/-- nothing is written just where both are the same -/
theorem Wr_nil {n : Nat} {t u : Tr} (ht : wfT t) (hu : wfT u) (hd : dpT t ≤ n) (hs : szT t + szT u < 2 ^ 20) : Wr n [] t u = [] ↔ t = u := by
  constructor
  · intro h
    have := Wr_runs n [] t t u ht ht hu hd hs rfl 0
    rw [h] at this
    exact Sum.inr.inj this
  · rintro rfl
    exact Wr_same
/-- how much is written -/
def oG (v : Tr → Prop) (o : OpT) : Prop := opOk o ∧ ∀ x, o.2.2.2 = some x → v x
theorem sumSz_cons (o : OpT) (os : List OpT) : sumSz (o :: os) = opSz o + sumSz os := by unfold sumSz; simp
theorem sumSz_app (os os2 : List OpT) : sumSz (os ++ os2) = sumSz os + sumSz os2 := by unfold sumSz; simp
theorem oG_a {pre : List Int32} {s : Int32} {v : Tr → Prop} {x : Tr} (h : v x) : oG v (aOp pre s x) := ⟨Or.inl ⟨rfl, _, rfl⟩, fun y hy => by cases hy; exact h⟩
theorem oG_d {pre : List Int32} {s : Int32} {v : Tr → Prop} : oG v (dOp pre s) := ⟨Or.inr (Or.inl rfl), fun y hy => by cases hy⟩
theorem sz_a (pre : List Int32) (s : Int32) (x : Tr) : opSz (aOp pre s x) = szT x := rfl
theorem sz_d (pre : List Int32) (s : Int32) : opSz (dOp pre s) = 0 := rfl
def wOk (v : Tr → Prop) (os : List OpT) (a b : Nat) : Prop := (∀ o ∈ os, oG v o) ∧ sumSz os ≤ b ∧ os.length ≤ a + b
theorem wOk.nil {v : Tr → Prop} {a b : Nat} : wOk v [] a b := ⟨fun o h => absurd h List.not_mem_nil, Nat.zero_le _, Nat.zero_le _⟩
theorem wOk.app {v : Tr → Prop} {os os2 : List OpT} {a b a2 b2 : Nat} (h : wOk v os a b) (h2 : wOk v os2 a2 b2) : wOk v (os ++ os2) (a + a2) (b + b2) := by
  refine ⟨fun o ho => ?_, by rw [sumSz_app]; exact Nat.add_le_add h.2.1 h2.2.1, by rw [List.length_append]; have := h.2.2; have := h2.2.2; omega⟩
  rcases List.mem_append.mp ho with q | q
  · exact h.1 o q
  · exact h2.1 o q
theorem wOk.a {v : Tr → Prop} {os : List OpT} {a b : Nat} {pre : List Int32} {s : Int32} {x : Tr} (hx : v x) (h : wOk v os a b) : wOk v (aOp pre s x :: os) a (szT x + b) := by
  refine ⟨fun o ho => ?_, by rw [sumSz_cons, sz_a]; have := h.2.1; omega, by have := h.2.2; have := szT_pos x; simp only [List.length_cons]; omega⟩
  rcases List.mem_cons.mp ho with rfl | q
  · exact oG_a hx
  · exact h.1 o q
theorem wOk.d {v : Tr → Prop} {os : List OpT} {a b : Nat} {pre : List Int32} {s : Int32} {k : Nat} (hk : 1 ≤ k) (h : wOk v os a b) : wOk v (dOp pre s :: os) (k + a) b := by
  refine ⟨fun o ho => ?_, by rw [sumSz_cons, sz_d]; have := h.2.1; omega, by have := h.2.2; simp only [List.length_cons]; omega⟩
  rcases List.mem_cons.mp ho with rfl | q
  · exact oG_d
  · exact h.1 o q
theorem adds_ok {v : Tr → Prop} {pre : List Int32} : ∀ (ys : List (Int32 × Tr)) (j : Nat), (∀ y ∈ ys, v y.2) → wOk v (addsL pre ys j) 0 (szL ys)
  | [], _, _ => wOk.nil
  | y :: ys, j, h => by
    rw [szL_cons]
    exact wOk.a (h y List.mem_cons_self) (adds_ok ys (j + 1) fun z hz => h z (List.mem_cons_of_mem _ hz))
theorem Wl_ok {f : Tr → Tr → Nat} {w : List Int32 → Tr → Tr → List OpT} {v px : Tr → Prop} {pre : List Int32} (hw : ∀ (p : List Int32) (x y : Tr), px x → v y → wOk v (w p x y) (szT x) (szT y)) : ∀ (xs ys : List (Int32 × Tr)) (j : Nat), (∀ x ∈ xs, px x.2) → (∀ y ∈ ys, v y.2) → wOk v (Wl f w pre xs ys j) (szL xs) (szL ys) := by
  intro xs
  induction xs with
  | nil => intro ys j _ h; exact adds_ok ys j h
  | cons x xs ih =>
    intro ys
    induction ys with
    | nil =>
      intro j hx hy
      rw [Wl_nil2, szL_cons]
      exact wOk.d (szT_pos x.2) (ih [] j (fun z hz => hx z (List.mem_cons_of_mem _ hz)) hy)
    | cons y ys ih2 =>
      intro j hx hy
      rw [Wl_cons]
      have hy0 := hy y List.mem_cons_self
      split
      · rw [szL_cons x, szL_cons y]
        exact wOk.app (hw _ x.2 y.2 (hx x List.mem_cons_self) hy0) (ih ys (j + 1) (fun z hz => hx z (List.mem_cons_of_mem _ hz)) (fun z hz => hy z (List.mem_cons_of_mem _ hz)))
      · split
        · rw [szL_cons x]
          exact wOk.d (szT_pos x.2) (ih (y :: ys) j (fun z hz => hx z (List.mem_cons_of_mem _ hz)) hy)
        · rw [szL_cons y]
          exact wOk.a hy0 (ih2 (j + 1) hx (fun z hz => hy z (List.mem_cons_of_mem _ hz)))
theorem Wo_ok {w : List Int32 → Tr → Tr → List OpT} {v px : Tr → Prop} {pre : List Int32} (hw : ∀ (p : List Int32) (x y : Tr), px x → v y → wOk v (w p x y) (szT x) (szT y)) : ∀ (xs ys : List (Int32 × Tr)), (∀ x ∈ xs, px x.2) → (∀ y ∈ ys, v y.2) → wOk v (Wo w pre xs ys) (szL xs) (szL ys) := by
  intro xs
  induction xs with
  | nil =>
    intro ys _ h
    rw [Wo_nil]
    induction ys with
    | nil => exact wOk.nil
    | cons y ys ih =>
      rw [szL_cons]
      exact wOk.a (h y List.mem_cons_self) (ih fun z hz => h z (List.mem_cons_of_mem _ hz))
  | cons x xs ih =>
    intro ys
    induction ys with
    | nil =>
      intro hx hy
      rw [Wo_nil2, szL_cons]
      exact wOk.d (szT_pos x.2) (ih [] (fun z hz => hx z (List.mem_cons_of_mem _ hz)) hy)
    | cons y ys ih2 =>
      intro hx hy
      rw [Wo_cons]
      have hy0 := hy y List.mem_cons_self
      split
      · rw [szL_cons x, szL_cons y]
        exact wOk.app (hw _ x.2 y.2 (hx x List.mem_cons_self) hy0) (ih ys (fun z hz => hx z (List.mem_cons_of_mem _ hz)) (fun z hz => hy z (List.mem_cons_of_mem _ hz)))
      · split
        · rw [szL_cons x]
          exact wOk.d (szT_pos x.2) (ih (y :: ys) (fun z hz => hx z (List.mem_cons_of_mem _ hz)) hy)
        · rw [szL_cons y]
          exact wOk.a hy0 (ih2 hx (fun z hz => hy z (List.mem_cons_of_mem _ hz)))
theorem wOk.mono {v : Tr → Prop} {os : List OpT} {a b a2 b2 : Nat} (h : wOk v os a b) (ha : a ≤ a2) (hb : b ≤ b2) : wOk v os a2 b2 := ⟨h.1, Nat.le_trans h.2.1 hb, by have := h.2.2; omega⟩
theorem Wr_ok : ∀ (n : Nat) (pre : List Int32) (t u : Tr), wfT u → wOk wfT (Wr n pre t u) (szT t) (szT u)
  | 0, _, _, _, _ => wOk.nil
  | n + 1, pre, t, u, hu => by
    have ih := Wr_ok n
    have hw : ∀ (p : List Int32) (x y : Tr), True → wfT y → wOk wfT (Wr n p x y) (szT x) (szT y) := fun p x y _ h => ih p x y h
    by_cases he : t = u
    · subst he; rw [Wr_same]; exact wOk.nil
    · have e1 := szT_kids t
      have e2 := szT_kids u
      by_cases h3 : t.1 = 3 ∧ u.1 = 3
      · rw [Wr_l he h3]
        exact (Wl_ok (f := Df n) (px := fun _ => True) hw (kids t.2.2) (kids u.2.2) 0 (fun _ _ => trivial) (fun y hy => hu.2.kid y hy)).mono (by omega) (by omega)
      · by_cases h4 : t.1 = 4 ∧ u.1 = 4
        · rw [Wr_o he h4]
          exact (Wo_ok (px := fun _ => True) hw (kids t.2.2) (kids u.2.2) (fun _ _ => trivial) (fun y hy => hu.2.kid y hy)).mono (by omega) (by omega)
        · rw [Wr_s he h3 h4]
          refine ⟨fun o ho => ?_, ?_, ?_⟩
          · rw [List.mem_singleton.mp ho]
            exact ⟨Or.inr (Or.inr ⟨rfl, _, rfl⟩), fun x hx => by cases hx; exact hu⟩
          · rw [sumSz_cons]; exact Nat.le_refl _
          · have := szT_pos t
            simp only [List.length_cons, List.length_nil]; omega
