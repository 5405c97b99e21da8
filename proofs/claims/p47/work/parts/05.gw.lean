/-! THE GHOST LAYER: a judgement GW over W whose heap is a ghost: what never changes any more (im), what may change, by roles r at the addresses ad r (mc) -/
/-- a cell: an object (number of its class, fields), or an array (number of its kind, length, ints or references) -/
abbrev gC : Type := (Nat × List Value) ⊕ (Nat × Nat × ((Nat → Int32) ⊕ (Nat → Option Nat)))
abbrev gG : Type := (Nat → Option gC) × (Nat → Nat) × (Nat → Option gC)
def gE (dA : Nat → ClassId) : gC → va_E
  | .inl o => .inr o
  | .inr (k, n, .inl f) => .inl (dA k, n, .inl f)
  | .inr (k, n, .inr r) => .inl (dA k, n, .inr (.inr (.inr (.inr r))))
/-- c lies at a -/
def gL (G : gG) (a : Nat) (c : gC) : Prop := G.1 a = some c ∨ ∃ r, G.2.1 r = a ∧ G.2.2 r = some c
def gH (D : va_G) (dA : Nat → ClassId) (b0 : Nat) (G : gG) (H : Heap) : Prop :=
  (∀ a c, gL G a c → b0 ≤ a ∧ va_at D vwCl (a, gE dA c) H) ∧ (∀ r c, G.2.2 r = some c → G.1 (G.2.1 r) = none) ∧ (∀ r r' c c', G.2.2 r = some c → G.2.2 r' = some c' → G.2.1 r = G.2.1 r' → r = r')
def gT (dA : Nat → ClassId) : List (ClassId × FieldType) := [(dA 0, .int), (dA 1, .object "MarlStore$Value"), (dA 2, .object "MarlStore$Operation"), (dA 3, .object "MarlStore$Patch"), (dA 4, .object "MarlStore$Query"), (dA 5, .object "MarlStore$Schema"), (dA 6, .boolean)]
/-- the class, in the list, of what an array of kind k holds -/
def gKo : Nat → Nat
  | 1 => 8
  | 2 => 3
  | 3 => 4
  | 4 => 6
  | _ => 7
def gNkOk : Cond → Bool
  | .methodLinkNest .. => true
  | .declares _ => true
  | .castable .. => true
  | _ => false
def gNk : List Cond := lw_tbl.filter gNkOk
def gSt : List (Nat × String) := [(138, "the path has no such step"), (391, "there is no such document"), (393, "there is no such patch"), (240, "there is no such operation"), (242, "only 0 to 3 can be asked"), (395, "there is no such schema"), (397, "there is no such query"), (174, "there is no such place"), (114, "there is no such child"), (125, "the path has no steps"), (142, "there is no such value"), (231, "the patch would have too many operations"), (399, "there is no room for a patch"), (237, "there is no patch"), (314, "there is no room for a query"), (324, "there is no such part"), (328, "the query is full")]
def gAO : List String := ["MarlStore$Value", "MarlStore$Operation", "MarlStore$Patch", "MarlStore$Query", "MarlStore$Schema"]
def gB (b0 : Nat) : Nat → Prop := fun q => b0 ≤ q
/-- what holds of the tables, and of what lies outside, all the time -/
def gA (D : va_G) (dA : Nat → ClassId) (b0 : Nat) (U : State) (H : Heap) : Prop :=
  va_K D vwCl (gT dA) U ∧ vx_Zq Bundle.tN "UNASSIGNED_STACK" Bundle.steD (gB b0) U H ∧ vx_Zq Bundle.tN "SUPPRESSED_SENTINEL" Bundle.listD (gB b0) U H ∧ (∀ w ∈ gNk, va_Nw w U) ∧ (∀ C ∈ gAO, va_AO C U) ∧ (∀ q ∈ gSt, ∃ sa, vk_R RX10 q.1 q.2 sa U) ∧ va_Nc "java/lang/IllegalStateException" "java/lang/IndexOutOfBoundsException" U
theorem gA.warm {D dA b0} {s U : State} {H : Heap} (hW : s.WarmedH U.vm) (h : gA D dA b0 s H) : gA D dA b0 U H := by
  obtain ⟨h1, h2, h3, h4, h5, h6, h7⟩ := h
  refine ⟨va_K.moved hW.alike h1, h2.moved hW.alike, h3.moved hW.alike, fun w hw => ?_, fun C hC => (h5 C hC).moved hW.alike, fun q hq => ?_, h7.moved hW.alike⟩
  · have hk := (List.mem_filter.mp hw).2
    have hn := h4 w hw
    cases w <;> first | exact va_Nw.warmM hW hn | exact va_Nw.warmD hW hn | exact va_Nw.warmC hW hn | (simp [gNkOk] at hk)
  · obtain ⟨sa, h⟩ := h6 q hq
    exact ⟨sa, h.warm hW⟩
theorem gA.kept {D dA b0} {s : State} {H H1 : Heap} (h : gA D dA b0 s H) (hq : ∀ a : Nat, a < H.size → ¬ gB b0 a → H1[a]? = H[a]?) : gA D dA b0 s H1 :=
  ⟨h.1, h.2.1.kept hq, h.2.2.1.kept hq, h.2.2.2⟩
/-- a method that is walked: class, bytes, locals, answer's type, table, name, depth, cells, slots -/
abbrev gM : Type := String × ByteArray × Nat × Option FieldType × List ExceptionTableEntry × String × Nat × Nat × Nat
abbrev gM.own (M : gM) : String := M.1
abbrev gM.cc (M : gM) : ByteArray := M.2.1
abbrev gM.nL (M : gM) : Nat := M.2.2.1
abbrev gM.ret (M : gM) : Option FieldType := M.2.2.2.1
abbrev gM.tab (M : gM) : List ExceptionTableEntry := M.2.2.2.2.1
abbrev gM.nm (M : gM) : String := M.2.2.2.2.2.1
abbrev gM.dp (M : gM) : Nat := M.2.2.2.2.2.2.1
abbrev gM.kc (M : gM) : Nat := M.2.2.2.2.2.2.2.1
abbrev gM.ks (M : gM) : Nat := M.2.2.2.2.2.2.2.2
def gRm (d kc ks : Nat) : Room := { frames := d, cells := kc, slots := ks, locals := 100 * d }
def gX (M : gM) (D : va_G) (dA : Nat → ClassId) (b0 : Nat) (p : Program) (l : Launch) (R : Room) (s : State) (m : MethodId) (args : Array Value) (meth : Method) (c : Code) : Prop :=
  p.tables.exec = Jvm.exec ∧ c.code = M.cc ∧ c.maxLocals = M.nL ∧ s.vm.findClass M.own = some m.cls ∧ (∀ w ∈ gW, w.before args s = true) ∧ gA D dA b0 s s.heap ∧ meth.sig.returnType = M.ret ∧ meth.locks = false ∧ l.flags = flags0 ∧ R = gRm M.dp M.kc M.ks ∧ c.exceptionTable.toList = M.tab ∧ meth.name = M.nm ∧ b0 ≤ s.heap.size
def gQ (D : va_G) (dA : Nat → ClassId) (b0 : Nat) (Q : Option Value → gG → Prop) : Array Value → State → Outcome → State → Prop := fun _ st o t =>
  (∃ v G', o = .returned v ∧ Q v G' ∧ gH D dA b0 G' t.heap) ∧ va_F (gB b0) st t
def gXC (D : va_G) (dA : Nat → ClassId) (b0 : Nat) (X : String → gG → Prop) : String → State → State → Prop := fun E st t =>
  (∃ G', X E G' ∧ gH D dA b0 G' t.heap) ∧ va_F (gB b0) st t
def gHas (ls : Array Slot) (nL : Nat) (L : List (Option Value)) : Prop := ls.size = nL ∧ lv_wf ls ∧ ∀ (i : Nat) (v : Value), L[i]? = some (some v) → ls[i]? = some (Slot.val v)
def GW (M : gM) (Q : Option Value → gG → Prop) (X : String → gG → Prop) (G : gG) (k n pc : Nat) (L : List (Option Value)) (st : List Value) : Prop :=
  ∀ (p : Program) (l : Launch) (e : Env) (R : Room) (s : State) (m : MethodId) (args : Array Value) (below : List Frame) (meth : Method) (c : Code) (D : va_G) (dA : Nat → ClassId) (b0 : Nat), gX M D dA b0 p l R s m args meth c →
    ∀ (H : Heap) (locs : List Loc) (ls : Array Slot), gH D dA b0 G H → va_S (gB b0) s.heap H locs → gHas ls M.nL L →
      W p l e R s m args below meth c H locs k n (vx_MQ below (gQ D dA b0 Q) (gXC D dA b0 X) args s M.kc M.ks (gB b0)) (F0 m pc ls st)
/-- a contract: from the ghost G, with these arguments, the method comes to an answer and a ghost with Q, or throws with X -/
def gWs (y : MethodName) (cc : ByteArray) (mL : Nat) (ret : Option FieldType) : List Cond := Cond.code y cc mL ret :: gW
def Ctr (y : MethodName) (cc : ByteArray) (mL : Nat) (ret : Option FieldType) (d kc ks : Nat) (as : List Value) (G : gG) (Q : Option Value → gG → Prop) (X : String → gG → Prop) : Prop :=
  ∀ (l : Launch) (D : va_G) (dA : Nat → ClassId) (b0 : Nat), l.flags = flags0 →
    vx_Met l y (gWs y cc mL ret) (gRm d kc ks) (va_Pc as (fun U => gA D dA b0 U U.heap ∧ gH D dA b0 G U.heap ∧ b0 ≤ U.heap.size)) (gQ D dA b0 Q) (gXC D dA b0 X) kc ks (gB b0)
section GWR
variable {M : gM} {Q : Option Value → gG → Prop} {X : String → gG → Prop} {G : gG} {k n pc : Nat} {L : List (Option Value)} {st : List Value}
/-- a row that changes neither heap nor room -/
theorem GW.pure {pc' : Nat} {L' : List (Option Value)} {st' : List Value}
    (h : ∀ (p : Program) (l : Launch) (e : Env) (R : Room) (s : State) (m : MethodId) (args : Array Value) (below : List Frame) (meth : Method) (c : Code) (D : va_G) (dA : Nat → ClassId) (b0 : Nat), gX M D dA b0 p l R s m args meth c → ∀ (H : Heap) (locs : List Loc) (ls : Array Slot), gHas ls M.nL L → ∀ (QQ : State → Prop), (∀ ls', gHas ls' M.nL L' → W p l e R s m args below meth c H locs k n QQ (F0 m pc' ls' st')) → W p l e R s m args below meth c H locs k n QQ (F0 m pc ls st))
    (g : GW M Q X G k n pc' L' st') : GW M Q X G k n pc L st := by
  intro p l e R s m args below meth c D dA b0 hX H locs ls hG hS hL
  exact h p l e R s m args below meth c D dA b0 hX H locs ls hL _ (fun ls' hL' => g p l e R s m args below meth c D dA b0 hX H locs ls' hG hS hL')
theorem gHas.store1 {ls : Array Slot} {nL i : Nat} {v : Value} (h : gHas ls nL L) (hi : i < nL) (hc : v.category = 1) (hp : ∀ (j : Nat) (w : Value), i = j + 1 → L[j]? = some (some w) → w.category ≠ 2) :
    ∃ ls', storeLocals ls i v = some ls' ∧ gHas ls' nL (L.set i (some v)) := by
  obtain ⟨h1, h2, h3⟩ := h
  obtain ⟨ls', e1, s1, w1, m1⟩ := lv_store1 (l := []) (⟨h1, h2, fun _ z => by cases z⟩ : lv_has ls nL []) hi hc
  refine ⟨ls', e1, s1, w1, fun j w hj => ?_⟩
  by_cases hji : j = i
  · subst hji
    rw [List.getElem?_set] at hj
    simp only [if_true] at hj
    by_cases hl : j < L.length
    · rw [if_pos hl] at hj
      cases hj
      exact m1 (j, v) List.mem_cons_self
    · rw [if_neg hl] at hj
      cases hj
  · rw [List.getElem?_set, if_neg (Ne.symm hji)] at hj
    obtain ⟨ls2, e2, -, -, m2⟩ := lv_store1 (l := [(j, w)]) (v := v) (⟨h1, h2, fun q hq => by rw [List.mem_singleton.mp hq]; exact h3 j w hj⟩ : lv_has ls nL [(j, w)]) hi hc
    cases Option.some.inj (e2.symm.trans e1)
    refine m2 (j, w) (List.mem_cons_of_mem _ ?_)
    rw [List.mem_filter]
    refine ⟨List.mem_singleton.mpr rfl, ?_⟩
    have q1 : (j == i) = false := by simp [hji]
    simp only [q1, Bool.not_false, Bool.true_and]
    by_cases hj1 : i = j + 1
    · have := hp j w hj1 hj
      simp [this]
    · have : (j + 1 == i) = false := by simp [Ne.symm hj1]
      simp [this]
theorem gHas.store2 {ls : Array Slot} {nL i : Nat} {v : Value} (h : gHas ls nL L) (hi : i + 1 < nL) (hc : v.category = 2) (hp : ∀ (j : Nat) (w : Value), i = j + 1 → L[j]? = some (some w) → w.category ≠ 2) :
    ∃ ls', storeLocals ls i v = some ls' ∧ gHas ls' nL ((L.set i (some v)).set (i + 1) none) := by
  obtain ⟨h1, h2, h3⟩ := h
  obtain ⟨ls', e1, s1, w1, m1⟩ := lv_store2 (l := []) (⟨h1, h2, fun _ z => by cases z⟩ : lv_has ls nL []) hi hc
  refine ⟨ls', e1, s1, w1, fun j w hj => ?_⟩
  by_cases hj2 : j = i + 1
  · subst hj2
    rw [List.getElem?_set] at hj
    simp only [if_true] at hj
    split at hj <;> cases hj
  · rw [List.getElem?_set, if_neg (Ne.symm hj2)] at hj
    by_cases hji : j = i
    · subst hji
      rw [List.getElem?_set] at hj
      simp only [if_true] at hj
      by_cases hl : j < L.length
      · rw [if_pos hl] at hj
        cases hj
        exact m1 (j, v) List.mem_cons_self
      · rw [if_neg hl] at hj
        cases hj
    · rw [List.getElem?_set, if_neg (Ne.symm hji)] at hj
      obtain ⟨ls2, e2, -, -, m2⟩ := lv_store2 (l := [(j, w)]) (v := v) (⟨h1, h2, fun q hq => by rw [List.mem_singleton.mp hq]; exact h3 j w hj⟩ : lv_has ls nL [(j, w)]) hi hc
      cases Option.some.inj (e2.symm.trans e1)
      refine m2 (j, w) (List.mem_cons_of_mem _ ?_)
      rw [List.mem_filter]
      refine ⟨List.mem_singleton.mpr rfl, ?_⟩
      have q1 : (j == i) = false := by simp [hji]
      have q2 : (j == i + 1) = false := by simp [hj2]
      simp only [q1, q2, Bool.not_false, Bool.true_and]
      by_cases hj1 : i = j + 1
      · have := hp j w hj1 hj
        simp [this]
      · have : (j + 1 == i) = false := by simp [Ne.symm hj1]
        simp [this]
theorem gHas.weak {ls : Array Slot} {nL : Nat} {L L' : List (Option Value)} (h : gHas ls nL L) (hs : ∀ (i : Nat) (v : Value), L'[i]? = some (some v) → L[i]? = some (some v)) : gHas ls nL L' := ⟨h.1, h.2.1, fun i v hi => h.2.2 i v (hs i v hi)⟩
theorem GW.weak {L' : List (Option Value)} (hs : ∀ (i : Nat) (v : Value), L'[i]? = some (some v) → L[i]? = some (some v)) (g : GW M Q X G k n pc L' st) : GW M Q X G k n pc L st :=
  fun p l e R s m args below meth c D dA b0 hX H locs ls hG hS hL => g p l e R s m args below meth c D dA b0 hX H locs ls hG hS (hL.weak hs)
theorem GW.drop (i : Nat) (g : GW M Q X G k n pc (L.set i none) st) : GW M Q X G k n pc L st := g.weak fun j v hj => by
  rw [List.getElem?_set] at hj
  split at hj
  · split at hj <;> cases hj
  · exact hj
theorem GW.post {Q' : Option Value → gG → Prop} {X' : String → gG → Prop} (hQ : ∀ v G, Q' v G → Q v G) (hX : ∀ E G, X' E G → X E G) (g : GW M Q' X' G k n pc L st) : GW M Q X G k n pc L st := by
  intro p l e R s m args below meth c D dA b0 hXX H locs ls hG hS hL T hT XX
  obtain ⟨t, a, o, b1, b2, b3⟩ := g p l e R s m args below meth c D dA b0 hXX H locs ls hG hS hL T hT XX
  refine ⟨t, a, o, b1, b2, ?_⟩
  rcases b3 with ⟨⟨⟨v, G', e1, q1, q2⟩, f⟩, r⟩ | ⟨q, e1, E, ce, L1, ⟨⟨G', q1, q2⟩, f⟩, r⟩
  · exact Or.inl ⟨⟨⟨v, G', e1, hQ _ _ q1, q2⟩, f⟩, r⟩
  · exact Or.inr ⟨q, e1, E, ce, L1, ⟨⟨G', hX _ _ q1, q2⟩, f⟩, r⟩
theorem GW.widen {k' n' : Nat} (hk : k ≤ k') (hn : n ≤ n') (g : GW M Q X G k' n' pc L st) : GW M Q X G k n pc L st :=
  fun p l e R s m args below meth c D dA b0 hX H locs ls hG hS hL => W.widen hk hn (g p l e R s m args below meth c D dA b0 hX H locs ls hG hS hL)
/-- the ghost may be seen otherwise, when the heap holds it as well -/
theorem GW.ghost {G' : gG} (h : ∀ D dA b0 H, gH D dA b0 G H → gH D dA b0 G' H) (g : GW M Q X G' k n pc L st) : GW M Q X G k n pc L st :=
  fun p l e R s m args below meth c D dA b0 hX H locs ls hG hS hL => g p l e R s m args below meth c D dA b0 hX H locs ls (h D dA b0 H hG) hS hL

theorem GW.iconst {z : Int} {v : Int32} (hd : decode M.cc pc = .ok (.iconst z, 1)) (hv : Int32.ofInt z = v) (g : GW M Q X G k n (pc + 1) L (.int v :: st)) : GW M Q X G k n pc L (st) :=
  g.pure fun p l e R s m args below meth c D dA b0 hX H locs ls hL QQ kk => lv_iconst hX.1 hX.2.1 hd hv (kk ls hL)
theorem GW.bipush {z : Int} {v : Int32} (hd : decode M.cc pc = .ok (.bipush z, 2)) (hv : (Int8.ofInt z).toInt32 = v) (g : GW M Q X G k n (pc + 2) L (.int v :: st)) : GW M Q X G k n pc L (st) :=
  g.pure fun p l e R s m args below meth c D dA b0 hX H locs ls hL QQ kk => lv_bipush hX.1 hX.2.1 hd hv (kk ls hL)
theorem GW.sipush {z : Int} {v : Int32} (hd : decode M.cc pc = .ok (.sipush z, 3)) (hv : (Int16.ofInt z).toInt32 = v) (g : GW M Q X G k n (pc + 3) L (.int v :: st)) : GW M Q X G k n pc L (st) :=
  g.pure fun p l e R s m args below meth c D dA b0 hX H locs ls hL QQ kk => lv_sipush hX.1 hX.2.1 hd hv (kk ls hL)
theorem GW.lconst {z : Fin 2} {v : Int64} (hd : decode M.cc pc = .ok (.lconst z, 1)) (hv : Int64.ofNat (z : Nat) = v) (g : GW M Q X G k n (pc + 1) L (.long v :: st)) : GW M Q X G k n pc L (st) :=
  g.pure fun p l e R s m args below meth c D dA b0 hX H locs ls hL QQ kk => lv_lconst hX.1 hX.2.1 hd hv (kk ls hL)
theorem GW.null (hd : decode M.cc pc = .ok (.aconst_null, 1)) (g : GW M Q X G k n (pc + 1) L (.null :: st)) : GW M Q X G k n pc L (st) :=
  g.pure fun p l e R s m args below meth c D dA b0 hX H locs ls hL QQ kk => lv_null hX.1 hX.2.1 hd (kk ls hL)
theorem GW.iadd {x y : Int32} (hd : decode M.cc pc = .ok (.iadd, 1)) (g : GW M Q X G k n (pc + 1) L (.int (x + y) :: st)) : GW M Q X G k n pc L (.int y :: .int x :: st) :=
  g.pure fun p l e R s m args below meth c D dA b0 hX H locs ls hL QQ kk => lv_iadd hX.1 hX.2.1 hd (kk ls hL)
theorem GW.isub {x y : Int32} (hd : decode M.cc pc = .ok (.isub, 1)) (g : GW M Q X G k n (pc + 1) L (.int (x - y) :: st)) : GW M Q X G k n pc L (.int y :: .int x :: st) :=
  g.pure fun p l e R s m args below meth c D dA b0 hX H locs ls hL QQ kk => lv_isub hX.1 hX.2.1 hd (kk ls hL)
theorem GW.imul {x y : Int32} (hd : decode M.cc pc = .ok (.imul, 1)) (g : GW M Q X G k n (pc + 1) L (.int (x * y) :: st)) : GW M Q X G k n pc L (.int y :: .int x :: st) :=
  g.pure fun p l e R s m args below meth c D dA b0 hX H locs ls hL QQ kk => lv_imul hX.1 hX.2.1 hd (kk ls hL)
theorem GW.iand {x y : Int32} (hd : decode M.cc pc = .ok (.iand, 1)) (g : GW M Q X G k n (pc + 1) L (.int (x &&& y) :: st)) : GW M Q X G k n pc L (.int y :: .int x :: st) :=
  g.pure fun p l e R s m args below meth c D dA b0 hX H locs ls hL QQ kk => lv_iand hX.1 hX.2.1 hd (kk ls hL)
theorem GW.ior {x y : Int32} (hd : decode M.cc pc = .ok (.ior, 1)) (g : GW M Q X G k n (pc + 1) L (.int (x ||| y) :: st)) : GW M Q X G k n pc L (.int y :: .int x :: st) :=
  g.pure fun p l e R s m args below meth c D dA b0 hX H locs ls hL QQ kk => lv_ior hX.1 hX.2.1 hd (kk ls hL)
theorem GW.ishl {x y : Int32} (hd : decode M.cc pc = .ok (.ishl, 1)) (g : GW M Q X G k n (pc + 1) L (.int (x <<< (y &&& 31)) :: st)) : GW M Q X G k n pc L (.int y :: .int x :: st) :=
  g.pure fun p l e R s m args below meth c D dA b0 hX H locs ls hL QQ kk => lv_ishl hX.1 hX.2.1 hd (kk ls hL)
theorem GW.ishr {x y : Int32} (hd : decode M.cc pc = .ok (.ishr, 1)) (g : GW M Q X G k n (pc + 1) L (.int (x >>> (y &&& 31)) :: st)) : GW M Q X G k n pc L (.int y :: .int x :: st) :=
  g.pure fun p l e R s m args below meth c D dA b0 hX H locs ls hL QQ kk => lv_ishr hX.1 hX.2.1 hd (kk ls hL)
theorem GW.idiv {x y : Int32} (hd : decode M.cc pc = .ok (.idiv, 1)) (hne : ¬ y = 0) (g : GW M Q X G k n (pc + 1) L (.int (x / y) :: st)) : GW M Q X G k n pc L (.int y :: .int x :: st) :=
  g.pure fun p l e R s m args below meth c D dA b0 hX H locs ls hL QQ kk => lv_idiv hX.1 hX.2.1 hd hne (kk ls hL)
theorem GW.irem {x y : Int32} (hd : decode M.cc pc = .ok (.irem, 1)) (hne : ¬ y = 0) (g : GW M Q X G k n (pc + 1) L (.int (x - x / y * y) :: st)) : GW M Q X G k n pc L (.int y :: .int x :: st) :=
  g.pure fun p l e R s m args below meth c D dA b0 hX H locs ls hL QQ kk => lv_irem hX.1 hX.2.1 hd hne (kk ls hL)
theorem GW.ladd {x y : Int64} (hd : decode M.cc pc = .ok (.ladd, 1)) (g : GW M Q X G k n (pc + 1) L (.long (x + y) :: st)) : GW M Q X G k n pc L (.long y :: .long x :: st) :=
  g.pure fun p l e R s m args below meth c D dA b0 hX H locs ls hL QQ kk => lv_ladd hX.1 hX.2.1 hd (kk ls hL)
theorem GW.lsub {x y : Int64} (hd : decode M.cc pc = .ok (.lsub, 1)) (g : GW M Q X G k n (pc + 1) L (.long (x - y) :: st)) : GW M Q X G k n pc L (.long y :: .long x :: st) :=
  g.pure fun p l e R s m args below meth c D dA b0 hX H locs ls hL QQ kk => lv_lsub hX.1 hX.2.1 hd (kk ls hL)
theorem GW.lmul {x y : Int64} (hd : decode M.cc pc = .ok (.lmul, 1)) (g : GW M Q X G k n (pc + 1) L (.long (x * y) :: st)) : GW M Q X G k n pc L (.long y :: .long x :: st) :=
  g.pure fun p l e R s m args below meth c D dA b0 hX H locs ls hL QQ kk => lv_lmul hX.1 hX.2.1 hd (kk ls hL)
theorem GW.land {x y : Int64} (hd : decode M.cc pc = .ok (.land, 1)) (g : GW M Q X G k n (pc + 1) L (.long (x &&& y) :: st)) : GW M Q X G k n pc L (.long y :: .long x :: st) :=
  g.pure fun p l e R s m args below meth c D dA b0 hX H locs ls hL QQ kk => lv_land hX.1 hX.2.1 hd (kk ls hL)
theorem GW.lor {x y : Int64} (hd : decode M.cc pc = .ok (.lor, 1)) (g : GW M Q X G k n (pc + 1) L (.long (x ||| y) :: st)) : GW M Q X G k n pc L (.long y :: .long x :: st) :=
  g.pure fun p l e R s m args below meth c D dA b0 hX H locs ls hL QQ kk => lv_lor hX.1 hX.2.1 hd (kk ls hL)
theorem GW.lshl {x v : Int64} {y : Int32} (hd : decode M.cc pc = .ok (.lshl, 1)) (hv : x <<< (y.toInt64 &&& 63) = v) (g : GW M Q X G k n (pc + 1) L (.long v :: st)) : GW M Q X G k n pc L (.int y :: .long x :: st) :=
  g.pure fun p l e R s m args below meth c D dA b0 hX H locs ls hL QQ kk => lv_lshl hX.1 hX.2.1 hd hv (kk ls hL)
theorem GW.lshr {x v : Int64} {y : Int32} (hd : decode M.cc pc = .ok (.lshr, 1)) (hv : x >>> (y.toInt64 &&& 63) = v) (g : GW M Q X G k n (pc + 1) L (.long v :: st)) : GW M Q X G k n pc L (.int y :: .long x :: st) :=
  g.pure fun p l e R s m args below meth c D dA b0 hX H locs ls hL QQ kk => lv_lshr hX.1 hX.2.1 hd hv (kk ls hL)
theorem GW.lushr {x v : Int64} {y : Int32} (hd : decode M.cc pc = .ok (.lushr, 1)) (hv : (x.toUInt64 >>> (y.toInt64.toUInt64 &&& Int64.toUInt64 63)).toInt64 = v) (g : GW M Q X G k n (pc + 1) L (.long v :: st)) : GW M Q X G k n pc L (.int y :: .long x :: st) :=
  g.pure fun p l e R s m args below meth c D dA b0 hX H locs ls hL QQ kk => lv_lushr hX.1 hX.2.1 hd hv (kk ls hL)
theorem GW.i2l {x : Int32} (hd : decode M.cc pc = .ok (.i2l, 1)) (g : GW M Q X G k n (pc + 1) L (.long x.toInt64 :: st)) : GW M Q X G k n pc L (.int x :: st) :=
  g.pure fun p l e R s m args below meth c D dA b0 hX H locs ls hL QQ kk => lv_i2l hX.1 hX.2.1 hd rfl (kk ls hL)
theorem GW.l2i {x : Int64} (hd : decode M.cc pc = .ok (.l2i, 1)) (g : GW M Q X G k n (pc + 1) L (.int x.toInt32 :: st)) : GW M Q X G k n pc L (.long x :: st) :=
  g.pure fun p l e R s m args below meth c D dA b0 hX H locs ls hL QQ kk => lv_l2i hX.1 hX.2.1 hd rfl (kk ls hL)
theorem GW.lcmp {x y : Int64} (hd : decode M.cc pc = .ok (.lcmp, 1)) (g : GW M Q X G k n (pc + 1) L (.int (lg_cmp x y) :: st)) : GW M Q X G k n pc L (.long y :: .long x :: st) :=
  g.pure fun p l e R s m args below meth c D dA b0 hX H locs ls hL QQ kk => W.lcmp hX.1 hX.2.1 hd (kk ls hL)
theorem GW.dup {v : Value} (hd : decode M.cc pc = .ok (.dup, 1)) (hv : v.category = 1 := by rfl) (g : GW M Q X G k n (pc + 1) L (v :: v :: st)) : GW M Q X G k n pc L (v :: st) :=
  g.pure fun p l e R s m args below meth c D dA b0 hX H locs ls hL QQ kk => lv_dup hX.1 hX.2.1 hd hv (kk ls hL)
theorem GW.pop {v : Value} (hd : decode M.cc pc = .ok (.pop, 1)) (hv : v.category = 1 := by rfl) (g : GW M Q X G k n (pc + 1) L (st)) : GW M Q X G k n pc L (v :: st) :=
  g.pure fun p l e R s m args below meth c D dA b0 hX H locs ls hL QQ kk => lv_pop hX.1 hX.2.1 hd hv (kk ls hL)
theorem GW.if_eq {x : Int32} {off : Int} {tgt : Nat} (hd : decode M.cc pc = .ok (.ifCond .eq off, 3)) (ht : (pc : Int) + off = (tgt : Int)) (gt : x = 0 → GW M Q X G k n tgt L st) (gf : ¬ x = 0 → GW M Q X G k n (pc + 3) L st) : GW M Q X G k n pc L (.int x :: st) :=
  fun p l e R s m args below meth c D dA b0 hX H locs ls hG hS hL => lv_if_eq hX.1 hX.2.1 hd ht (fun q => gt q p l e R s m args below meth c D dA b0 hX H locs ls hG hS hL) (fun q => gf q p l e R s m args below meth c D dA b0 hX H locs ls hG hS hL)
theorem GW.icmp_eq {x y : Int32} {off : Int} {tgt : Nat} (hd : decode M.cc pc = .ok (.if_icmp .eq off, 3)) (ht : (pc : Int) + off = (tgt : Int)) (gt : x = y → GW M Q X G k n tgt L st) (gf : ¬ x = y → GW M Q X G k n (pc + 3) L st) : GW M Q X G k n pc L (.int y :: .int x :: st) :=
  fun p l e R s m args below meth c D dA b0 hX H locs ls hG hS hL => lv_icmp_eq hX.1 hX.2.1 hd ht (fun q => gt q p l e R s m args below meth c D dA b0 hX H locs ls hG hS hL) (fun q => gf q p l e R s m args below meth c D dA b0 hX H locs ls hG hS hL)
theorem GW.if_ne {x : Int32} {off : Int} {tgt : Nat} (hd : decode M.cc pc = .ok (.ifCond .ne off, 3)) (ht : (pc : Int) + off = (tgt : Int)) (gt : ¬ x = 0 → GW M Q X G k n tgt L st) (gf : x = 0 → GW M Q X G k n (pc + 3) L st) : GW M Q X G k n pc L (.int x :: st) :=
  fun p l e R s m args below meth c D dA b0 hX H locs ls hG hS hL => lv_if_ne hX.1 hX.2.1 hd ht (fun q => gt q p l e R s m args below meth c D dA b0 hX H locs ls hG hS hL) (fun q => gf q p l e R s m args below meth c D dA b0 hX H locs ls hG hS hL)
theorem GW.icmp_ne {x y : Int32} {off : Int} {tgt : Nat} (hd : decode M.cc pc = .ok (.if_icmp .ne off, 3)) (ht : (pc : Int) + off = (tgt : Int)) (gt : ¬ x = y → GW M Q X G k n tgt L st) (gf : x = y → GW M Q X G k n (pc + 3) L st) : GW M Q X G k n pc L (.int y :: .int x :: st) :=
  fun p l e R s m args below meth c D dA b0 hX H locs ls hG hS hL => lv_icmp_ne hX.1 hX.2.1 hd ht (fun q => gt q p l e R s m args below meth c D dA b0 hX H locs ls hG hS hL) (fun q => gf q p l e R s m args below meth c D dA b0 hX H locs ls hG hS hL)
theorem GW.if_lt {x : Int32} {off : Int} {tgt : Nat} (hd : decode M.cc pc = .ok (.ifCond .lt off, 3)) (ht : (pc : Int) + off = (tgt : Int)) (gt : x < 0 → GW M Q X G k n tgt L st) (gf : ¬ x < 0 → GW M Q X G k n (pc + 3) L st) : GW M Q X G k n pc L (.int x :: st) :=
  fun p l e R s m args below meth c D dA b0 hX H locs ls hG hS hL => lv_if_lt hX.1 hX.2.1 hd ht (fun q => gt q p l e R s m args below meth c D dA b0 hX H locs ls hG hS hL) (fun q => gf q p l e R s m args below meth c D dA b0 hX H locs ls hG hS hL)
theorem GW.icmp_lt {x y : Int32} {off : Int} {tgt : Nat} (hd : decode M.cc pc = .ok (.if_icmp .lt off, 3)) (ht : (pc : Int) + off = (tgt : Int)) (gt : x < y → GW M Q X G k n tgt L st) (gf : ¬ x < y → GW M Q X G k n (pc + 3) L st) : GW M Q X G k n pc L (.int y :: .int x :: st) :=
  fun p l e R s m args below meth c D dA b0 hX H locs ls hG hS hL => lv_icmp_lt hX.1 hX.2.1 hd ht (fun q => gt q p l e R s m args below meth c D dA b0 hX H locs ls hG hS hL) (fun q => gf q p l e R s m args below meth c D dA b0 hX H locs ls hG hS hL)
theorem GW.if_ge {x : Int32} {off : Int} {tgt : Nat} (hd : decode M.cc pc = .ok (.ifCond .ge off, 3)) (ht : (pc : Int) + off = (tgt : Int)) (gt : 0 ≤ x → GW M Q X G k n tgt L st) (gf : ¬ 0 ≤ x → GW M Q X G k n (pc + 3) L st) : GW M Q X G k n pc L (.int x :: st) :=
  fun p l e R s m args below meth c D dA b0 hX H locs ls hG hS hL => lv_if_ge hX.1 hX.2.1 hd ht (fun q => gt q p l e R s m args below meth c D dA b0 hX H locs ls hG hS hL) (fun q => gf q p l e R s m args below meth c D dA b0 hX H locs ls hG hS hL)
theorem GW.icmp_ge {x y : Int32} {off : Int} {tgt : Nat} (hd : decode M.cc pc = .ok (.if_icmp .ge off, 3)) (ht : (pc : Int) + off = (tgt : Int)) (gt : y ≤ x → GW M Q X G k n tgt L st) (gf : ¬ y ≤ x → GW M Q X G k n (pc + 3) L st) : GW M Q X G k n pc L (.int y :: .int x :: st) :=
  fun p l e R s m args below meth c D dA b0 hX H locs ls hG hS hL => lv_icmp_ge hX.1 hX.2.1 hd ht (fun q => gt q p l e R s m args below meth c D dA b0 hX H locs ls hG hS hL) (fun q => gf q p l e R s m args below meth c D dA b0 hX H locs ls hG hS hL)
theorem GW.if_gt {x : Int32} {off : Int} {tgt : Nat} (hd : decode M.cc pc = .ok (.ifCond .gt off, 3)) (ht : (pc : Int) + off = (tgt : Int)) (gt : 0 < x → GW M Q X G k n tgt L st) (gf : ¬ 0 < x → GW M Q X G k n (pc + 3) L st) : GW M Q X G k n pc L (.int x :: st) :=
  fun p l e R s m args below meth c D dA b0 hX H locs ls hG hS hL => lv_if_gt hX.1 hX.2.1 hd ht (fun q => gt q p l e R s m args below meth c D dA b0 hX H locs ls hG hS hL) (fun q => gf q p l e R s m args below meth c D dA b0 hX H locs ls hG hS hL)
theorem GW.icmp_gt {x y : Int32} {off : Int} {tgt : Nat} (hd : decode M.cc pc = .ok (.if_icmp .gt off, 3)) (ht : (pc : Int) + off = (tgt : Int)) (gt : y < x → GW M Q X G k n tgt L st) (gf : ¬ y < x → GW M Q X G k n (pc + 3) L st) : GW M Q X G k n pc L (.int y :: .int x :: st) :=
  fun p l e R s m args below meth c D dA b0 hX H locs ls hG hS hL => lv_icmp_gt hX.1 hX.2.1 hd ht (fun q => gt q p l e R s m args below meth c D dA b0 hX H locs ls hG hS hL) (fun q => gf q p l e R s m args below meth c D dA b0 hX H locs ls hG hS hL)
theorem GW.if_le {x : Int32} {off : Int} {tgt : Nat} (hd : decode M.cc pc = .ok (.ifCond .le off, 3)) (ht : (pc : Int) + off = (tgt : Int)) (gt : x ≤ 0 → GW M Q X G k n tgt L st) (gf : ¬ x ≤ 0 → GW M Q X G k n (pc + 3) L st) : GW M Q X G k n pc L (.int x :: st) :=
  fun p l e R s m args below meth c D dA b0 hX H locs ls hG hS hL => lv_if_le hX.1 hX.2.1 hd ht (fun q => gt q p l e R s m args below meth c D dA b0 hX H locs ls hG hS hL) (fun q => gf q p l e R s m args below meth c D dA b0 hX H locs ls hG hS hL)
theorem GW.icmp_le {x y : Int32} {off : Int} {tgt : Nat} (hd : decode M.cc pc = .ok (.if_icmp .le off, 3)) (ht : (pc : Int) + off = (tgt : Int)) (gt : x ≤ y → GW M Q X G k n tgt L st) (gf : ¬ x ≤ y → GW M Q X G k n (pc + 3) L st) : GW M Q X G k n pc L (.int y :: .int x :: st) :=
  fun p l e R s m args below meth c D dA b0 hX H locs ls hG hS hL => lv_icmp_le hX.1 hX.2.1 hd ht (fun q => gt q p l e R s m args below meth c D dA b0 hX H locs ls hG hS hL) (fun q => gf q p l e R s m args below meth c D dA b0 hX H locs ls hG hS hL)
theorem GW.goto {off : Int} {tgt : Nat} (hd : decode M.cc pc = .ok (.goto off, 3)) (ht : (pc : Int) + off = (tgt : Int)) (g : GW M Q X G k n tgt L st) : GW M Q X G k n pc L st :=
  g.pure fun p l e R s m args below meth c D dA b0 hX H locs ls hL QQ kk => lv_goto hX.1 hX.2.1 hd ht (kk ls hL)
theorem GW.ifnull {r : Option Nat} {off : Int} {tgt : Nat} (hd : decode M.cc pc = .ok (.ifnull off, 3)) (ht : (pc : Int) + off = (tgt : Int)) (gt : r = none → GW M Q X G k n tgt L st) (gf : ∀ a, r = some a → GW M Q X G k n (pc + 3) L st) : GW M Q X G k n pc L (va_rf r :: st) := by
  intro p l e R s m args below meth c D dA b0 hX H locs ls hG hS hL
  cases r with
  | none => exact lv_ifnullN hX.1 hX.2.1 hd ht (gt rfl p l e R s m args below meth c D dA b0 hX H locs ls hG hS hL)
  | some a => exact lv_ifnull hX.1 hX.2.1 hd (gf a rfl p l e R s m args below meth c D dA b0 hX H locs ls hG hS hL)
theorem GW.ifnonnull {r : Option Nat} {off : Int} {tgt : Nat} (hd : decode M.cc pc = .ok (.ifnonnull off, 3)) (ht : (pc : Int) + off = (tgt : Int)) (gt : ∀ a, r = some a → GW M Q X G k n tgt L st) (gf : r = none → GW M Q X G k n (pc + 3) L st) : GW M Q X G k n pc L (va_rf r :: st) := by
  intro p l e R s m args below meth c D dA b0 hX H locs ls hG hS hL
  cases r with
  | none => exact lv_ifnonnullN hX.1 hX.2.1 hd (gf rfl p l e R s m args below meth c D dA b0 hX H locs ls hG hS hL)
  | some a => exact lv_ifnonnull hX.1 hX.2.1 hd ht (gt a rfl p l e R s m args below meth c D dA b0 hX H locs ls hG hS hL)
/-- at a reference that is there -/
theorem GW.ifnullR {a : Nat} {off : Int} (hd : decode M.cc pc = .ok (.ifnull off, 3)) (g : GW M Q X G k n (pc + 3) L st) : GW M Q X G k n pc L (.ref a :: st) :=
  g.pure fun p l e R s m args below meth c D dA b0 hX H locs ls hL QQ kk => lv_ifnull hX.1 hX.2.1 hd (kk ls hL)
theorem GW.ifnullN {off : Int} {tgt : Nat} (hd : decode M.cc pc = .ok (.ifnull off, 3)) (ht : (pc : Int) + off = (tgt : Int)) (g : GW M Q X G k n tgt L st) : GW M Q X G k n pc L (.null :: st) :=
  g.pure fun p l e R s m args below meth c D dA b0 hX H locs ls hL QQ kk => lv_ifnullN hX.1 hX.2.1 hd ht (kk ls hL)
theorem GW.ifnonnullR {a : Nat} {off : Int} {tgt : Nat} (hd : decode M.cc pc = .ok (.ifnonnull off, 3)) (ht : (pc : Int) + off = (tgt : Int)) (g : GW M Q X G k n tgt L st) : GW M Q X G k n pc L (.ref a :: st) :=
  g.pure fun p l e R s m args below meth c D dA b0 hX H locs ls hL QQ kk => lv_ifnonnull hX.1 hX.2.1 hd ht (kk ls hL)
theorem GW.ifnonnullN {off : Int} (hd : decode M.cc pc = .ok (.ifnonnull off, 3)) (g : GW M Q X G k n (pc + 3) L st) : GW M Q X G k n pc L (.null :: st) :=
  g.pure fun p l e R s m args below meth c D dA b0 hX H locs ls hL QQ kk => lv_ifnonnullN hX.1 hX.2.1 hd (kk ls hL)
theorem GW.acmp_eq {rx ry : Option Nat} {off : Int} {tgt : Nat} (hd : decode M.cc pc = .ok (.if_acmp .eq off, 3)) (ht : (pc : Int) + off = (tgt : Int)) (gt : rx = ry → GW M Q X G k n tgt L st) (gf : ¬ rx = ry → GW M Q X G k n (pc + 3) L st) : GW M Q X G k n pc L (va_rf ry :: va_rf rx :: st) :=
  fun p l e R s m args below meth c D dA b0 hX H locs ls hG hS hL => lv_acmp_eq hX.1 hX.2.1 hd ht (fun q => gt q p l e R s m args below meth c D dA b0 hX H locs ls hG hS hL) (fun q => gf q p l e R s m args below meth c D dA b0 hX H locs ls hG hS hL)
theorem GW.acmp_ne {rx ry : Option Nat} {off : Int} {tgt : Nat} (hd : decode M.cc pc = .ok (.if_acmp .ne off, 3)) (ht : (pc : Int) + off = (tgt : Int)) (gt : ¬ rx = ry → GW M Q X G k n tgt L st) (gf : rx = ry → GW M Q X G k n (pc + 3) L st) : GW M Q X G k n pc L (va_rf ry :: va_rf rx :: st) :=
  fun p l e R s m args below meth c D dA b0 hX H locs ls hG hS hL => lv_acmp_ne hX.1 hX.2.1 hd ht (fun q => gt q p l e R s m args below meth c D dA b0 hX H locs ls hG hS hL) (fun q => gf q p l e R s m args below meth c D dA b0 hX H locs ls hG hS hL)
theorem GW.tableIn {dflt lo hi : Int} {offs : Array Int} {len : Nat} {x : Int32} {off : Int} {tgt : Nat} (hd : decode M.cc pc = .ok (.tableswitch dflt lo hi offs, len)) (h1 : ¬ x.toInt < lo) (h2 : ¬ hi < x.toInt) (ho : offs[(x.toInt - lo).toNat]? = some off) (ht : (pc : Int) + off = (tgt : Int)) (g : GW M Q X G k n tgt L st) : GW M Q X G k n pc L (.int x :: st) :=
  g.pure fun p l e R s m args below meth c D dA b0 hX H locs ls hL QQ kk => lv_tableIn hX.1 hX.2.1 hd h1 h2 ho ht (kk ls hL)
theorem GW.tableOut {dflt lo hi : Int} {offs : Array Int} {len : Nat} {x : Int32} {tgt : Nat} (hd : decode M.cc pc = .ok (.tableswitch dflt lo hi offs, len)) (h : x.toInt < lo ∨ hi < x.toInt) (ht : (pc : Int) + dflt = (tgt : Int)) (g : GW M Q X G k n tgt L st) : GW M Q X G k n pc L (.int x :: st) :=
  g.pure fun p l e R s m args below meth c D dA b0 hX H locs ls hL QQ kk => lv_tableOut hX.1 hX.2.1 hd h ht (kk ls hL)
theorem GW.ldc2 {idx : Nat} {v : Int64} (hw : Cond.constantLong M.own idx v ∈ gW) (hd : decode M.cc pc = .ok (.ldc2_w idx, 3)) (g : GW M Q X G k n (pc + 3) L (.long v :: st)) : GW M Q X G k n pc L st :=
  g.pure fun p l e R s m args below meth c D dA b0 hX H locs ls hL QQ kk => lv_ldc2 hX.1 hX.2.1 hX.2.2.2.1 (hX.2.2.2.2.1 _ hw) hd (kk ls hL)
theorem GW.ldc {idx : Nat} {v : Int32} (hw : Cond.constant M.own idx v ∈ gW) (hd : decode M.cc pc = .ok (.ldc idx, 2)) (g : GW M Q X G k n (pc + 2) L (.int v :: st)) : GW M Q X G k n pc L st :=
  g.pure fun p l e R s m args below meth c D dA b0 hX H locs ls hL QQ kk => lv_ldc hX.1 hX.2.1 hX.2.2.2.1 (hX.2.2.2.2.1 _ hw) hd (kk ls hL)
variable {a0 a1 a2 a3 a4 a5 a6 a7 a8 a9 a10 a11 : Option Value}
theorem GW.iload0 {x : Int32} (hd : decode M.cc pc = .ok (.iload_n 0, 1)) (g : GW M Q X G k n (pc + 1) [some (.int x), a1, a2, a3, a4, a5, a6, a7, a8, a9, a10, a11] (.int x :: st)) : GW M Q X G k n pc [some (.int x), a1, a2, a3, a4, a5, a6, a7, a8, a9, a10, a11] st :=
  g.pure fun p l e R s m args below meth c D dA b0 hX H locs ls hL QQ kk => lv_iload_n hX.1 hX.2.1 hd rfl (hL.2.2 0 _ rfl) (kk ls hL)
theorem GW.lload0 {x : Int64} (hd : decode M.cc pc = .ok (.lload_n 0, 1)) (g : GW M Q X G k n (pc + 1) [some (.long x), a1, a2, a3, a4, a5, a6, a7, a8, a9, a10, a11] (.long x :: st)) : GW M Q X G k n pc [some (.long x), a1, a2, a3, a4, a5, a6, a7, a8, a9, a10, a11] st :=
  g.pure fun p l e R s m args below meth c D dA b0 hX H locs ls hL QQ kk => lv_lload_n hX.1 hX.2.1 hd rfl (hL.2.2 0 _ rfl) (kk ls hL)
theorem GW.aload0 {v : Value} (hd : decode M.cc pc = .ok (.aload_n 0, 1)) (hv : v = .null ∨ ∃ a, v = .ref a := by first | exact Or.inr ⟨_, rfl⟩ | exact Or.inl rfl | exact va_rf_or _) (g : GW M Q X G k n (pc + 1) [some v, a1, a2, a3, a4, a5, a6, a7, a8, a9, a10, a11] (v :: st)) : GW M Q X G k n pc [some v, a1, a2, a3, a4, a5, a6, a7, a8, a9, a10, a11] st :=
  g.pure fun p l e R s m args below meth c D dA b0 hX H locs ls hL QQ kk => by
    rcases hv with rfl | ⟨a, rfl⟩
    · exact lv_aload_nN hX.1 hX.2.1 hd rfl (hL.2.2 0 _ rfl) (kk ls hL)
    · exact lv_aload_n hX.1 hX.2.1 hd rfl (hL.2.2 0 _ rfl) (kk ls hL)
theorem GW.iload1 {x : Int32} (hd : decode M.cc pc = .ok (.iload_n 1, 1)) (g : GW M Q X G k n (pc + 1) [a0, some (.int x), a2, a3, a4, a5, a6, a7, a8, a9, a10, a11] (.int x :: st)) : GW M Q X G k n pc [a0, some (.int x), a2, a3, a4, a5, a6, a7, a8, a9, a10, a11] st :=
  g.pure fun p l e R s m args below meth c D dA b0 hX H locs ls hL QQ kk => lv_iload_n hX.1 hX.2.1 hd rfl (hL.2.2 1 _ rfl) (kk ls hL)
theorem GW.lload1 {x : Int64} (hd : decode M.cc pc = .ok (.lload_n 1, 1)) (g : GW M Q X G k n (pc + 1) [a0, some (.long x), a2, a3, a4, a5, a6, a7, a8, a9, a10, a11] (.long x :: st)) : GW M Q X G k n pc [a0, some (.long x), a2, a3, a4, a5, a6, a7, a8, a9, a10, a11] st :=
  g.pure fun p l e R s m args below meth c D dA b0 hX H locs ls hL QQ kk => lv_lload_n hX.1 hX.2.1 hd rfl (hL.2.2 1 _ rfl) (kk ls hL)
theorem GW.aload1 {v : Value} (hd : decode M.cc pc = .ok (.aload_n 1, 1)) (hv : v = .null ∨ ∃ a, v = .ref a := by first | exact Or.inr ⟨_, rfl⟩ | exact Or.inl rfl | exact va_rf_or _) (g : GW M Q X G k n (pc + 1) [a0, some v, a2, a3, a4, a5, a6, a7, a8, a9, a10, a11] (v :: st)) : GW M Q X G k n pc [a0, some v, a2, a3, a4, a5, a6, a7, a8, a9, a10, a11] st :=
  g.pure fun p l e R s m args below meth c D dA b0 hX H locs ls hL QQ kk => by
    rcases hv with rfl | ⟨a, rfl⟩
    · exact lv_aload_nN hX.1 hX.2.1 hd rfl (hL.2.2 1 _ rfl) (kk ls hL)
    · exact lv_aload_n hX.1 hX.2.1 hd rfl (hL.2.2 1 _ rfl) (kk ls hL)
theorem GW.iload2 {x : Int32} (hd : decode M.cc pc = .ok (.iload_n 2, 1)) (g : GW M Q X G k n (pc + 1) [a0, a1, some (.int x), a3, a4, a5, a6, a7, a8, a9, a10, a11] (.int x :: st)) : GW M Q X G k n pc [a0, a1, some (.int x), a3, a4, a5, a6, a7, a8, a9, a10, a11] st :=
  g.pure fun p l e R s m args below meth c D dA b0 hX H locs ls hL QQ kk => lv_iload_n hX.1 hX.2.1 hd rfl (hL.2.2 2 _ rfl) (kk ls hL)
theorem GW.lload2 {x : Int64} (hd : decode M.cc pc = .ok (.lload_n 2, 1)) (g : GW M Q X G k n (pc + 1) [a0, a1, some (.long x), a3, a4, a5, a6, a7, a8, a9, a10, a11] (.long x :: st)) : GW M Q X G k n pc [a0, a1, some (.long x), a3, a4, a5, a6, a7, a8, a9, a10, a11] st :=
  g.pure fun p l e R s m args below meth c D dA b0 hX H locs ls hL QQ kk => lv_lload_n hX.1 hX.2.1 hd rfl (hL.2.2 2 _ rfl) (kk ls hL)
theorem GW.aload2 {v : Value} (hd : decode M.cc pc = .ok (.aload_n 2, 1)) (hv : v = .null ∨ ∃ a, v = .ref a := by first | exact Or.inr ⟨_, rfl⟩ | exact Or.inl rfl | exact va_rf_or _) (g : GW M Q X G k n (pc + 1) [a0, a1, some v, a3, a4, a5, a6, a7, a8, a9, a10, a11] (v :: st)) : GW M Q X G k n pc [a0, a1, some v, a3, a4, a5, a6, a7, a8, a9, a10, a11] st :=
  g.pure fun p l e R s m args below meth c D dA b0 hX H locs ls hL QQ kk => by
    rcases hv with rfl | ⟨a, rfl⟩
    · exact lv_aload_nN hX.1 hX.2.1 hd rfl (hL.2.2 2 _ rfl) (kk ls hL)
    · exact lv_aload_n hX.1 hX.2.1 hd rfl (hL.2.2 2 _ rfl) (kk ls hL)
theorem GW.iload3 {x : Int32} (hd : decode M.cc pc = .ok (.iload_n 3, 1)) (g : GW M Q X G k n (pc + 1) [a0, a1, a2, some (.int x), a4, a5, a6, a7, a8, a9, a10, a11] (.int x :: st)) : GW M Q X G k n pc [a0, a1, a2, some (.int x), a4, a5, a6, a7, a8, a9, a10, a11] st :=
  g.pure fun p l e R s m args below meth c D dA b0 hX H locs ls hL QQ kk => lv_iload_n hX.1 hX.2.1 hd rfl (hL.2.2 3 _ rfl) (kk ls hL)
theorem GW.lload3 {x : Int64} (hd : decode M.cc pc = .ok (.lload_n 3, 1)) (g : GW M Q X G k n (pc + 1) [a0, a1, a2, some (.long x), a4, a5, a6, a7, a8, a9, a10, a11] (.long x :: st)) : GW M Q X G k n pc [a0, a1, a2, some (.long x), a4, a5, a6, a7, a8, a9, a10, a11] st :=
  g.pure fun p l e R s m args below meth c D dA b0 hX H locs ls hL QQ kk => lv_lload_n hX.1 hX.2.1 hd rfl (hL.2.2 3 _ rfl) (kk ls hL)
theorem GW.aload3 {v : Value} (hd : decode M.cc pc = .ok (.aload_n 3, 1)) (hv : v = .null ∨ ∃ a, v = .ref a := by first | exact Or.inr ⟨_, rfl⟩ | exact Or.inl rfl | exact va_rf_or _) (g : GW M Q X G k n (pc + 1) [a0, a1, a2, some v, a4, a5, a6, a7, a8, a9, a10, a11] (v :: st)) : GW M Q X G k n pc [a0, a1, a2, some v, a4, a5, a6, a7, a8, a9, a10, a11] st :=
  g.pure fun p l e R s m args below meth c D dA b0 hX H locs ls hL QQ kk => by
    rcases hv with rfl | ⟨a, rfl⟩
    · exact lv_aload_nN hX.1 hX.2.1 hd rfl (hL.2.2 3 _ rfl) (kk ls hL)
    · exact lv_aload_n hX.1 hX.2.1 hd rfl (hL.2.2 3 _ rfl) (kk ls hL)
theorem GW.iload4 {x : Int32} (hd : decode M.cc pc = .ok (.iload 4, 2)) (g : GW M Q X G k n (pc + 2) [a0, a1, a2, a3, some (.int x), a5, a6, a7, a8, a9, a10, a11] (.int x :: st)) : GW M Q X G k n pc [a0, a1, a2, a3, some (.int x), a5, a6, a7, a8, a9, a10, a11] st :=
  g.pure fun p l e R s m args below meth c D dA b0 hX H locs ls hL QQ kk => lv_iload hX.1 hX.2.1 hd (hL.2.2 4 _ rfl) (kk ls hL)
theorem GW.lload4 {x : Int64} (hd : decode M.cc pc = .ok (.lload 4, 2)) (g : GW M Q X G k n (pc + 2) [a0, a1, a2, a3, some (.long x), a5, a6, a7, a8, a9, a10, a11] (.long x :: st)) : GW M Q X G k n pc [a0, a1, a2, a3, some (.long x), a5, a6, a7, a8, a9, a10, a11] st :=
  g.pure fun p l e R s m args below meth c D dA b0 hX H locs ls hL QQ kk => lv_lload hX.1 hX.2.1 hd (hL.2.2 4 _ rfl) (kk ls hL)
theorem GW.aload4 {v : Value} (hd : decode M.cc pc = .ok (.aload 4, 2)) (hv : v = .null ∨ ∃ a, v = .ref a := by first | exact Or.inr ⟨_, rfl⟩ | exact Or.inl rfl | exact va_rf_or _) (g : GW M Q X G k n (pc + 2) [a0, a1, a2, a3, some v, a5, a6, a7, a8, a9, a10, a11] (v :: st)) : GW M Q X G k n pc [a0, a1, a2, a3, some v, a5, a6, a7, a8, a9, a10, a11] st :=
  g.pure fun p l e R s m args below meth c D dA b0 hX H locs ls hL QQ kk => by
    rcases hv with rfl | ⟨a, rfl⟩
    · exact lv_aloadN hX.1 hX.2.1 hd (hL.2.2 4 _ rfl) (kk ls hL)
    · exact lv_aload hX.1 hX.2.1 hd (hL.2.2 4 _ rfl) (kk ls hL)
theorem GW.iload5 {x : Int32} (hd : decode M.cc pc = .ok (.iload 5, 2)) (g : GW M Q X G k n (pc + 2) [a0, a1, a2, a3, a4, some (.int x), a6, a7, a8, a9, a10, a11] (.int x :: st)) : GW M Q X G k n pc [a0, a1, a2, a3, a4, some (.int x), a6, a7, a8, a9, a10, a11] st :=
  g.pure fun p l e R s m args below meth c D dA b0 hX H locs ls hL QQ kk => lv_iload hX.1 hX.2.1 hd (hL.2.2 5 _ rfl) (kk ls hL)
theorem GW.lload5 {x : Int64} (hd : decode M.cc pc = .ok (.lload 5, 2)) (g : GW M Q X G k n (pc + 2) [a0, a1, a2, a3, a4, some (.long x), a6, a7, a8, a9, a10, a11] (.long x :: st)) : GW M Q X G k n pc [a0, a1, a2, a3, a4, some (.long x), a6, a7, a8, a9, a10, a11] st :=
  g.pure fun p l e R s m args below meth c D dA b0 hX H locs ls hL QQ kk => lv_lload hX.1 hX.2.1 hd (hL.2.2 5 _ rfl) (kk ls hL)
theorem GW.aload5 {v : Value} (hd : decode M.cc pc = .ok (.aload 5, 2)) (hv : v = .null ∨ ∃ a, v = .ref a := by first | exact Or.inr ⟨_, rfl⟩ | exact Or.inl rfl | exact va_rf_or _) (g : GW M Q X G k n (pc + 2) [a0, a1, a2, a3, a4, some v, a6, a7, a8, a9, a10, a11] (v :: st)) : GW M Q X G k n pc [a0, a1, a2, a3, a4, some v, a6, a7, a8, a9, a10, a11] st :=
  g.pure fun p l e R s m args below meth c D dA b0 hX H locs ls hL QQ kk => by
    rcases hv with rfl | ⟨a, rfl⟩
    · exact lv_aloadN hX.1 hX.2.1 hd (hL.2.2 5 _ rfl) (kk ls hL)
    · exact lv_aload hX.1 hX.2.1 hd (hL.2.2 5 _ rfl) (kk ls hL)
theorem GW.iload6 {x : Int32} (hd : decode M.cc pc = .ok (.iload 6, 2)) (g : GW M Q X G k n (pc + 2) [a0, a1, a2, a3, a4, a5, some (.int x), a7, a8, a9, a10, a11] (.int x :: st)) : GW M Q X G k n pc [a0, a1, a2, a3, a4, a5, some (.int x), a7, a8, a9, a10, a11] st :=
  g.pure fun p l e R s m args below meth c D dA b0 hX H locs ls hL QQ kk => lv_iload hX.1 hX.2.1 hd (hL.2.2 6 _ rfl) (kk ls hL)
theorem GW.lload6 {x : Int64} (hd : decode M.cc pc = .ok (.lload 6, 2)) (g : GW M Q X G k n (pc + 2) [a0, a1, a2, a3, a4, a5, some (.long x), a7, a8, a9, a10, a11] (.long x :: st)) : GW M Q X G k n pc [a0, a1, a2, a3, a4, a5, some (.long x), a7, a8, a9, a10, a11] st :=
  g.pure fun p l e R s m args below meth c D dA b0 hX H locs ls hL QQ kk => lv_lload hX.1 hX.2.1 hd (hL.2.2 6 _ rfl) (kk ls hL)
theorem GW.aload6 {v : Value} (hd : decode M.cc pc = .ok (.aload 6, 2)) (hv : v = .null ∨ ∃ a, v = .ref a := by first | exact Or.inr ⟨_, rfl⟩ | exact Or.inl rfl | exact va_rf_or _) (g : GW M Q X G k n (pc + 2) [a0, a1, a2, a3, a4, a5, some v, a7, a8, a9, a10, a11] (v :: st)) : GW M Q X G k n pc [a0, a1, a2, a3, a4, a5, some v, a7, a8, a9, a10, a11] st :=
  g.pure fun p l e R s m args below meth c D dA b0 hX H locs ls hL QQ kk => by
    rcases hv with rfl | ⟨a, rfl⟩
    · exact lv_aloadN hX.1 hX.2.1 hd (hL.2.2 6 _ rfl) (kk ls hL)
    · exact lv_aload hX.1 hX.2.1 hd (hL.2.2 6 _ rfl) (kk ls hL)
theorem GW.iload7 {x : Int32} (hd : decode M.cc pc = .ok (.iload 7, 2)) (g : GW M Q X G k n (pc + 2) [a0, a1, a2, a3, a4, a5, a6, some (.int x), a8, a9, a10, a11] (.int x :: st)) : GW M Q X G k n pc [a0, a1, a2, a3, a4, a5, a6, some (.int x), a8, a9, a10, a11] st :=
  g.pure fun p l e R s m args below meth c D dA b0 hX H locs ls hL QQ kk => lv_iload hX.1 hX.2.1 hd (hL.2.2 7 _ rfl) (kk ls hL)
theorem GW.lload7 {x : Int64} (hd : decode M.cc pc = .ok (.lload 7, 2)) (g : GW M Q X G k n (pc + 2) [a0, a1, a2, a3, a4, a5, a6, some (.long x), a8, a9, a10, a11] (.long x :: st)) : GW M Q X G k n pc [a0, a1, a2, a3, a4, a5, a6, some (.long x), a8, a9, a10, a11] st :=
  g.pure fun p l e R s m args below meth c D dA b0 hX H locs ls hL QQ kk => lv_lload hX.1 hX.2.1 hd (hL.2.2 7 _ rfl) (kk ls hL)
theorem GW.aload7 {v : Value} (hd : decode M.cc pc = .ok (.aload 7, 2)) (hv : v = .null ∨ ∃ a, v = .ref a := by first | exact Or.inr ⟨_, rfl⟩ | exact Or.inl rfl | exact va_rf_or _) (g : GW M Q X G k n (pc + 2) [a0, a1, a2, a3, a4, a5, a6, some v, a8, a9, a10, a11] (v :: st)) : GW M Q X G k n pc [a0, a1, a2, a3, a4, a5, a6, some v, a8, a9, a10, a11] st :=
  g.pure fun p l e R s m args below meth c D dA b0 hX H locs ls hL QQ kk => by
    rcases hv with rfl | ⟨a, rfl⟩
    · exact lv_aloadN hX.1 hX.2.1 hd (hL.2.2 7 _ rfl) (kk ls hL)
    · exact lv_aload hX.1 hX.2.1 hd (hL.2.2 7 _ rfl) (kk ls hL)
theorem GW.iload8 {x : Int32} (hd : decode M.cc pc = .ok (.iload 8, 2)) (g : GW M Q X G k n (pc + 2) [a0, a1, a2, a3, a4, a5, a6, a7, some (.int x), a9, a10, a11] (.int x :: st)) : GW M Q X G k n pc [a0, a1, a2, a3, a4, a5, a6, a7, some (.int x), a9, a10, a11] st :=
  g.pure fun p l e R s m args below meth c D dA b0 hX H locs ls hL QQ kk => lv_iload hX.1 hX.2.1 hd (hL.2.2 8 _ rfl) (kk ls hL)
theorem GW.lload8 {x : Int64} (hd : decode M.cc pc = .ok (.lload 8, 2)) (g : GW M Q X G k n (pc + 2) [a0, a1, a2, a3, a4, a5, a6, a7, some (.long x), a9, a10, a11] (.long x :: st)) : GW M Q X G k n pc [a0, a1, a2, a3, a4, a5, a6, a7, some (.long x), a9, a10, a11] st :=
  g.pure fun p l e R s m args below meth c D dA b0 hX H locs ls hL QQ kk => lv_lload hX.1 hX.2.1 hd (hL.2.2 8 _ rfl) (kk ls hL)
theorem GW.aload8 {v : Value} (hd : decode M.cc pc = .ok (.aload 8, 2)) (hv : v = .null ∨ ∃ a, v = .ref a := by first | exact Or.inr ⟨_, rfl⟩ | exact Or.inl rfl | exact va_rf_or _) (g : GW M Q X G k n (pc + 2) [a0, a1, a2, a3, a4, a5, a6, a7, some v, a9, a10, a11] (v :: st)) : GW M Q X G k n pc [a0, a1, a2, a3, a4, a5, a6, a7, some v, a9, a10, a11] st :=
  g.pure fun p l e R s m args below meth c D dA b0 hX H locs ls hL QQ kk => by
    rcases hv with rfl | ⟨a, rfl⟩
    · exact lv_aloadN hX.1 hX.2.1 hd (hL.2.2 8 _ rfl) (kk ls hL)
    · exact lv_aload hX.1 hX.2.1 hd (hL.2.2 8 _ rfl) (kk ls hL)
theorem GW.iload9 {x : Int32} (hd : decode M.cc pc = .ok (.iload 9, 2)) (g : GW M Q X G k n (pc + 2) [a0, a1, a2, a3, a4, a5, a6, a7, a8, some (.int x), a10, a11] (.int x :: st)) : GW M Q X G k n pc [a0, a1, a2, a3, a4, a5, a6, a7, a8, some (.int x), a10, a11] st :=
  g.pure fun p l e R s m args below meth c D dA b0 hX H locs ls hL QQ kk => lv_iload hX.1 hX.2.1 hd (hL.2.2 9 _ rfl) (kk ls hL)
theorem GW.lload9 {x : Int64} (hd : decode M.cc pc = .ok (.lload 9, 2)) (g : GW M Q X G k n (pc + 2) [a0, a1, a2, a3, a4, a5, a6, a7, a8, some (.long x), a10, a11] (.long x :: st)) : GW M Q X G k n pc [a0, a1, a2, a3, a4, a5, a6, a7, a8, some (.long x), a10, a11] st :=
  g.pure fun p l e R s m args below meth c D dA b0 hX H locs ls hL QQ kk => lv_lload hX.1 hX.2.1 hd (hL.2.2 9 _ rfl) (kk ls hL)
theorem GW.aload9 {v : Value} (hd : decode M.cc pc = .ok (.aload 9, 2)) (hv : v = .null ∨ ∃ a, v = .ref a := by first | exact Or.inr ⟨_, rfl⟩ | exact Or.inl rfl | exact va_rf_or _) (g : GW M Q X G k n (pc + 2) [a0, a1, a2, a3, a4, a5, a6, a7, a8, some v, a10, a11] (v :: st)) : GW M Q X G k n pc [a0, a1, a2, a3, a4, a5, a6, a7, a8, some v, a10, a11] st :=
  g.pure fun p l e R s m args below meth c D dA b0 hX H locs ls hL QQ kk => by
    rcases hv with rfl | ⟨a, rfl⟩
    · exact lv_aloadN hX.1 hX.2.1 hd (hL.2.2 9 _ rfl) (kk ls hL)
    · exact lv_aload hX.1 hX.2.1 hd (hL.2.2 9 _ rfl) (kk ls hL)
theorem GW.iload10 {x : Int32} (hd : decode M.cc pc = .ok (.iload 10, 2)) (g : GW M Q X G k n (pc + 2) [a0, a1, a2, a3, a4, a5, a6, a7, a8, a9, some (.int x), a11] (.int x :: st)) : GW M Q X G k n pc [a0, a1, a2, a3, a4, a5, a6, a7, a8, a9, some (.int x), a11] st :=
  g.pure fun p l e R s m args below meth c D dA b0 hX H locs ls hL QQ kk => lv_iload hX.1 hX.2.1 hd (hL.2.2 10 _ rfl) (kk ls hL)
theorem GW.lload10 {x : Int64} (hd : decode M.cc pc = .ok (.lload 10, 2)) (g : GW M Q X G k n (pc + 2) [a0, a1, a2, a3, a4, a5, a6, a7, a8, a9, some (.long x), a11] (.long x :: st)) : GW M Q X G k n pc [a0, a1, a2, a3, a4, a5, a6, a7, a8, a9, some (.long x), a11] st :=
  g.pure fun p l e R s m args below meth c D dA b0 hX H locs ls hL QQ kk => lv_lload hX.1 hX.2.1 hd (hL.2.2 10 _ rfl) (kk ls hL)
theorem GW.aload10 {v : Value} (hd : decode M.cc pc = .ok (.aload 10, 2)) (hv : v = .null ∨ ∃ a, v = .ref a := by first | exact Or.inr ⟨_, rfl⟩ | exact Or.inl rfl | exact va_rf_or _) (g : GW M Q X G k n (pc + 2) [a0, a1, a2, a3, a4, a5, a6, a7, a8, a9, some v, a11] (v :: st)) : GW M Q X G k n pc [a0, a1, a2, a3, a4, a5, a6, a7, a8, a9, some v, a11] st :=
  g.pure fun p l e R s m args below meth c D dA b0 hX H locs ls hL QQ kk => by
    rcases hv with rfl | ⟨a, rfl⟩
    · exact lv_aloadN hX.1 hX.2.1 hd (hL.2.2 10 _ rfl) (kk ls hL)
    · exact lv_aload hX.1 hX.2.1 hd (hL.2.2 10 _ rfl) (kk ls hL)
theorem GW.iload11 {x : Int32} (hd : decode M.cc pc = .ok (.iload 11, 2)) (g : GW M Q X G k n (pc + 2) [a0, a1, a2, a3, a4, a5, a6, a7, a8, a9, a10, some (.int x)] (.int x :: st)) : GW M Q X G k n pc [a0, a1, a2, a3, a4, a5, a6, a7, a8, a9, a10, some (.int x)] st :=
  g.pure fun p l e R s m args below meth c D dA b0 hX H locs ls hL QQ kk => lv_iload hX.1 hX.2.1 hd (hL.2.2 11 _ rfl) (kk ls hL)
theorem GW.lload11 {x : Int64} (hd : decode M.cc pc = .ok (.lload 11, 2)) (g : GW M Q X G k n (pc + 2) [a0, a1, a2, a3, a4, a5, a6, a7, a8, a9, a10, some (.long x)] (.long x :: st)) : GW M Q X G k n pc [a0, a1, a2, a3, a4, a5, a6, a7, a8, a9, a10, some (.long x)] st :=
  g.pure fun p l e R s m args below meth c D dA b0 hX H locs ls hL QQ kk => lv_lload hX.1 hX.2.1 hd (hL.2.2 11 _ rfl) (kk ls hL)
theorem GW.aload11 {v : Value} (hd : decode M.cc pc = .ok (.aload 11, 2)) (hv : v = .null ∨ ∃ a, v = .ref a := by first | exact Or.inr ⟨_, rfl⟩ | exact Or.inl rfl | exact va_rf_or _) (g : GW M Q X G k n (pc + 2) [a0, a1, a2, a3, a4, a5, a6, a7, a8, a9, a10, some v] (v :: st)) : GW M Q X G k n pc [a0, a1, a2, a3, a4, a5, a6, a7, a8, a9, a10, some v] st :=
  g.pure fun p l e R s m args below meth c D dA b0 hX H locs ls hL QQ kk => by
    rcases hv with rfl | ⟨a, rfl⟩
    · exact lv_aloadN hX.1 hX.2.1 hd (hL.2.2 11 _ rfl) (kk ls hL)
    · exact lv_aload hX.1 hX.2.1 hd (hL.2.2 11 _ rfl) (kk ls hL)
theorem va_rf_cat (r : Option Nat) : (va_rf r).category = 1 := by cases r <;> rfl
theorem GW.istore0 {x : Int32} (hd : decode M.cc pc = .ok (.istore_n 0, 1)) (hn : 0 < M.nL := by exact Nat.le_of_ble_eq_true rfl) (g : GW M Q X G k n (pc + 1) [some (.int x), a1, a2, a3, a4, a5, a6, a7, a8, a9, a10, a11] st) : GW M Q X G k n pc [a0, a1, a2, a3, a4, a5, a6, a7, a8, a9, a10, a11] (.int x :: st) := by
  intro p l e R s m args below meth c D dA b0 hX H locs ls hG hS hL T hT XX
  obtain ⟨ls', e1, h1⟩ := gHas.store1 (i := 0) (v := .int x) hL hn rfl (fun j w hj hw => absurd hj (by omega))
  obtain ⟨t, q1, q2⟩ := g p l e R s m args below meth c D dA b0 hX H locs ls' hG hS h1 T hT XX
  refine ⟨t, ?_, q2⟩
  jvm_step XX.here [XX.here.top, ↓top_set XX.here.top, hX.1, hX.2.1, hd, e1]
  exact q1
theorem GW.astore0 {v : Value} (hd : decode M.cc pc = .ok (.astore_n 0, 1)) (hn : 0 < M.nL := by exact Nat.le_of_ble_eq_true rfl) (hv : v = .null ∨ ∃ a, v = .ref a := by first | exact Or.inr ⟨_, rfl⟩ | exact Or.inl rfl | exact va_rf_or _) (g : GW M Q X G k n (pc + 1) [some v, a1, a2, a3, a4, a5, a6, a7, a8, a9, a10, a11] st) : GW M Q X G k n pc [a0, a1, a2, a3, a4, a5, a6, a7, a8, a9, a10, a11] (v :: st) := by
  intro p l e R s m args below meth c D dA b0 hX H locs ls hG hS hL T hT XX
  obtain ⟨ls', e1, h1⟩ := gHas.store1 (i := 0) (v := v) hL hn (by rcases hv with rfl | ⟨a, rfl⟩ <;> rfl) (fun j w hj hw => absurd hj (by omega))
  obtain ⟨t, q1, q2⟩ := g p l e R s m args below meth c D dA b0 hX H locs ls' hG hS h1 T hT XX
  refine ⟨t, ?_, q2⟩
  rcases hv with rfl | ⟨a, rfl⟩ <;>
    (jvm_step XX.here [XX.here.top, ↓top_set XX.here.top, hX.1, hX.2.1, hd, e1, Value.isRef]
     exact q1)
theorem GW.iinc0 {z : Int} {x v : Int32} (hd : decode M.cc pc = .ok (.iinc 0 z, 3)) (hv : x + Int32.ofInt z = v) (hn : 0 < M.nL := by exact Nat.le_of_ble_eq_true rfl) (g : GW M Q X G k n (pc + 3) [some (.int v), a1, a2, a3, a4, a5, a6, a7, a8, a9, a10, a11] st) : GW M Q X G k n pc [some (.int x), a1, a2, a3, a4, a5, a6, a7, a8, a9, a10, a11] st := by
  subst hv
  intro p l e R s m args below meth c D dA b0 hX H locs ls hG hS hL T hT XX
  obtain ⟨ls', e1, h1⟩ := gHas.store1 (i := 0) (v := .int (x + Int32.ofInt z)) hL hn rfl (fun j w hj hw => absurd hj (by omega))
  have hx := hL.2.2 0 (.int x) rfl
  obtain ⟨t, q1, q2⟩ := g p l e R s m args below meth c D dA b0 hX H locs ls' hG hS h1 T hT XX
  refine ⟨t, ?_, q2⟩
  jvm_step XX.here [XX.here.top, ↓top_set XX.here.top, hX.1, hX.2.1, hd, hx, e1]
  exact q1
theorem GW.lstore0 {x : Int64} (hd : decode M.cc pc = .ok (.lstore_n 0, 1)) (hn : 1 < M.nL := by exact Nat.le_of_ble_eq_true rfl) (g : GW M Q X G k n (pc + 1) [some (.long x), none, a2, a3, a4, a5, a6, a7, a8, a9, a10, a11] st) : GW M Q X G k n pc [a0, a1, a2, a3, a4, a5, a6, a7, a8, a9, a10, a11] (.long x :: st) := by
  intro p l e R s m args below meth c D dA b0 hX H locs ls hG hS hL T hT XX
  obtain ⟨ls', e1, h1⟩ := gHas.store2 (i := 0) (v := .long x) hL hn rfl (fun j w hj hw => absurd hj (by omega))
  obtain ⟨t, q1, q2⟩ := g p l e R s m args below meth c D dA b0 hX H locs ls' hG hS h1 T hT XX
  refine ⟨t, ?_, q2⟩
  jvm_step XX.here [XX.here.top, ↓top_set XX.here.top, hX.1, hX.2.1, hd, e1]
  exact q1
theorem GW.istore1 {x : Int32} (hd : decode M.cc pc = .ok (.istore_n 1, 1)) (hn : 1 < M.nL := by exact Nat.le_of_ble_eq_true rfl) (hp : ∀ w : Value, a0 = some w → w.category ≠ 2 := by intro w h; first | (cases h; first | (show ¬ ((1 : Nat) = 2); decide) | (rw [va_rf_cat]; decide)) | (cases h)) (g : GW M Q X G k n (pc + 1) [a0, some (.int x), a2, a3, a4, a5, a6, a7, a8, a9, a10, a11] st) : GW M Q X G k n pc [a0, a1, a2, a3, a4, a5, a6, a7, a8, a9, a10, a11] (.int x :: st) := by
  intro p l e R s m args below meth c D dA b0 hX H locs ls hG hS hL T hT XX
  obtain ⟨ls', e1, h1⟩ := gHas.store1 (i := 1) (v := .int x) hL hn rfl (fun j w hj hw => by cases (show j = 0 by omega); exact hp w (Option.some.inj hw))
  obtain ⟨t, q1, q2⟩ := g p l e R s m args below meth c D dA b0 hX H locs ls' hG hS h1 T hT XX
  refine ⟨t, ?_, q2⟩
  jvm_step XX.here [XX.here.top, ↓top_set XX.here.top, hX.1, hX.2.1, hd, e1]
  exact q1
theorem GW.astore1 {v : Value} (hd : decode M.cc pc = .ok (.astore_n 1, 1)) (hn : 1 < M.nL := by exact Nat.le_of_ble_eq_true rfl) (hp : ∀ w : Value, a0 = some w → w.category ≠ 2 := by intro w h; first | (cases h; first | (show ¬ ((1 : Nat) = 2); decide) | (rw [va_rf_cat]; decide)) | (cases h)) (hv : v = .null ∨ ∃ a, v = .ref a := by first | exact Or.inr ⟨_, rfl⟩ | exact Or.inl rfl | exact va_rf_or _) (g : GW M Q X G k n (pc + 1) [a0, some v, a2, a3, a4, a5, a6, a7, a8, a9, a10, a11] st) : GW M Q X G k n pc [a0, a1, a2, a3, a4, a5, a6, a7, a8, a9, a10, a11] (v :: st) := by
  intro p l e R s m args below meth c D dA b0 hX H locs ls hG hS hL T hT XX
  obtain ⟨ls', e1, h1⟩ := gHas.store1 (i := 1) (v := v) hL hn (by rcases hv with rfl | ⟨a, rfl⟩ <;> rfl) (fun j w hj hw => by cases (show j = 0 by omega); exact hp w (Option.some.inj hw))
  obtain ⟨t, q1, q2⟩ := g p l e R s m args below meth c D dA b0 hX H locs ls' hG hS h1 T hT XX
  refine ⟨t, ?_, q2⟩
  rcases hv with rfl | ⟨a, rfl⟩ <;>
    (jvm_step XX.here [XX.here.top, ↓top_set XX.here.top, hX.1, hX.2.1, hd, e1, Value.isRef]
     exact q1)
theorem GW.iinc1 {z : Int} {x v : Int32} (hd : decode M.cc pc = .ok (.iinc 1 z, 3)) (hv : x + Int32.ofInt z = v) (hn : 1 < M.nL := by exact Nat.le_of_ble_eq_true rfl) (hp : ∀ w : Value, a0 = some w → w.category ≠ 2 := by intro w h; first | (cases h; first | (show ¬ ((1 : Nat) = 2); decide) | (rw [va_rf_cat]; decide)) | (cases h)) (g : GW M Q X G k n (pc + 3) [a0, some (.int v), a2, a3, a4, a5, a6, a7, a8, a9, a10, a11] st) : GW M Q X G k n pc [a0, some (.int x), a2, a3, a4, a5, a6, a7, a8, a9, a10, a11] st := by
  subst hv
  intro p l e R s m args below meth c D dA b0 hX H locs ls hG hS hL T hT XX
  obtain ⟨ls', e1, h1⟩ := gHas.store1 (i := 1) (v := .int (x + Int32.ofInt z)) hL hn rfl (fun j w hj hw => by cases (show j = 0 by omega); exact hp w (Option.some.inj hw))
  have hx := hL.2.2 1 (.int x) rfl
  obtain ⟨t, q1, q2⟩ := g p l e R s m args below meth c D dA b0 hX H locs ls' hG hS h1 T hT XX
  refine ⟨t, ?_, q2⟩
  jvm_step XX.here [XX.here.top, ↓top_set XX.here.top, hX.1, hX.2.1, hd, hx, e1]
  exact q1
theorem GW.lstore1 {x : Int64} (hd : decode M.cc pc = .ok (.lstore_n 1, 1)) (hn : 2 < M.nL := by exact Nat.le_of_ble_eq_true rfl) (hp : ∀ w : Value, a0 = some w → w.category ≠ 2 := by intro w h; first | (cases h; first | (show ¬ ((1 : Nat) = 2); decide) | (rw [va_rf_cat]; decide)) | (cases h)) (g : GW M Q X G k n (pc + 1) [a0, some (.long x), none, a3, a4, a5, a6, a7, a8, a9, a10, a11] st) : GW M Q X G k n pc [a0, a1, a2, a3, a4, a5, a6, a7, a8, a9, a10, a11] (.long x :: st) := by
  intro p l e R s m args below meth c D dA b0 hX H locs ls hG hS hL T hT XX
  obtain ⟨ls', e1, h1⟩ := gHas.store2 (i := 1) (v := .long x) hL hn rfl (fun j w hj hw => by cases (show j = 0 by omega); exact hp w (Option.some.inj hw))
  obtain ⟨t, q1, q2⟩ := g p l e R s m args below meth c D dA b0 hX H locs ls' hG hS h1 T hT XX
  refine ⟨t, ?_, q2⟩
  jvm_step XX.here [XX.here.top, ↓top_set XX.here.top, hX.1, hX.2.1, hd, e1]
  exact q1
theorem GW.istore2 {x : Int32} (hd : decode M.cc pc = .ok (.istore_n 2, 1)) (hn : 2 < M.nL := by exact Nat.le_of_ble_eq_true rfl) (hp : ∀ w : Value, a1 = some w → w.category ≠ 2 := by intro w h; first | (cases h; first | (show ¬ ((1 : Nat) = 2); decide) | (rw [va_rf_cat]; decide)) | (cases h)) (g : GW M Q X G k n (pc + 1) [a0, a1, some (.int x), a3, a4, a5, a6, a7, a8, a9, a10, a11] st) : GW M Q X G k n pc [a0, a1, a2, a3, a4, a5, a6, a7, a8, a9, a10, a11] (.int x :: st) := by
  intro p l e R s m args below meth c D dA b0 hX H locs ls hG hS hL T hT XX
  obtain ⟨ls', e1, h1⟩ := gHas.store1 (i := 2) (v := .int x) hL hn rfl (fun j w hj hw => by cases (show j = 1 by omega); exact hp w (Option.some.inj hw))
  obtain ⟨t, q1, q2⟩ := g p l e R s m args below meth c D dA b0 hX H locs ls' hG hS h1 T hT XX
  refine ⟨t, ?_, q2⟩
  jvm_step XX.here [XX.here.top, ↓top_set XX.here.top, hX.1, hX.2.1, hd, e1]
  exact q1
theorem GW.astore2 {v : Value} (hd : decode M.cc pc = .ok (.astore_n 2, 1)) (hn : 2 < M.nL := by exact Nat.le_of_ble_eq_true rfl) (hp : ∀ w : Value, a1 = some w → w.category ≠ 2 := by intro w h; first | (cases h; first | (show ¬ ((1 : Nat) = 2); decide) | (rw [va_rf_cat]; decide)) | (cases h)) (hv : v = .null ∨ ∃ a, v = .ref a := by first | exact Or.inr ⟨_, rfl⟩ | exact Or.inl rfl | exact va_rf_or _) (g : GW M Q X G k n (pc + 1) [a0, a1, some v, a3, a4, a5, a6, a7, a8, a9, a10, a11] st) : GW M Q X G k n pc [a0, a1, a2, a3, a4, a5, a6, a7, a8, a9, a10, a11] (v :: st) := by
  intro p l e R s m args below meth c D dA b0 hX H locs ls hG hS hL T hT XX
  obtain ⟨ls', e1, h1⟩ := gHas.store1 (i := 2) (v := v) hL hn (by rcases hv with rfl | ⟨a, rfl⟩ <;> rfl) (fun j w hj hw => by cases (show j = 1 by omega); exact hp w (Option.some.inj hw))
  obtain ⟨t, q1, q2⟩ := g p l e R s m args below meth c D dA b0 hX H locs ls' hG hS h1 T hT XX
  refine ⟨t, ?_, q2⟩
  rcases hv with rfl | ⟨a, rfl⟩ <;>
    (jvm_step XX.here [XX.here.top, ↓top_set XX.here.top, hX.1, hX.2.1, hd, e1, Value.isRef]
     exact q1)
theorem GW.iinc2 {z : Int} {x v : Int32} (hd : decode M.cc pc = .ok (.iinc 2 z, 3)) (hv : x + Int32.ofInt z = v) (hn : 2 < M.nL := by exact Nat.le_of_ble_eq_true rfl) (hp : ∀ w : Value, a1 = some w → w.category ≠ 2 := by intro w h; first | (cases h; first | (show ¬ ((1 : Nat) = 2); decide) | (rw [va_rf_cat]; decide)) | (cases h)) (g : GW M Q X G k n (pc + 3) [a0, a1, some (.int v), a3, a4, a5, a6, a7, a8, a9, a10, a11] st) : GW M Q X G k n pc [a0, a1, some (.int x), a3, a4, a5, a6, a7, a8, a9, a10, a11] st := by
  subst hv
  intro p l e R s m args below meth c D dA b0 hX H locs ls hG hS hL T hT XX
  obtain ⟨ls', e1, h1⟩ := gHas.store1 (i := 2) (v := .int (x + Int32.ofInt z)) hL hn rfl (fun j w hj hw => by cases (show j = 1 by omega); exact hp w (Option.some.inj hw))
  have hx := hL.2.2 2 (.int x) rfl
  obtain ⟨t, q1, q2⟩ := g p l e R s m args below meth c D dA b0 hX H locs ls' hG hS h1 T hT XX
  refine ⟨t, ?_, q2⟩
  jvm_step XX.here [XX.here.top, ↓top_set XX.here.top, hX.1, hX.2.1, hd, hx, e1]
  exact q1
theorem GW.lstore2 {x : Int64} (hd : decode M.cc pc = .ok (.lstore_n 2, 1)) (hn : 3 < M.nL := by exact Nat.le_of_ble_eq_true rfl) (hp : ∀ w : Value, a1 = some w → w.category ≠ 2 := by intro w h; first | (cases h; first | (show ¬ ((1 : Nat) = 2); decide) | (rw [va_rf_cat]; decide)) | (cases h)) (g : GW M Q X G k n (pc + 1) [a0, a1, some (.long x), none, a4, a5, a6, a7, a8, a9, a10, a11] st) : GW M Q X G k n pc [a0, a1, a2, a3, a4, a5, a6, a7, a8, a9, a10, a11] (.long x :: st) := by
  intro p l e R s m args below meth c D dA b0 hX H locs ls hG hS hL T hT XX
  obtain ⟨ls', e1, h1⟩ := gHas.store2 (i := 2) (v := .long x) hL hn rfl (fun j w hj hw => by cases (show j = 1 by omega); exact hp w (Option.some.inj hw))
  obtain ⟨t, q1, q2⟩ := g p l e R s m args below meth c D dA b0 hX H locs ls' hG hS h1 T hT XX
  refine ⟨t, ?_, q2⟩
  jvm_step XX.here [XX.here.top, ↓top_set XX.here.top, hX.1, hX.2.1, hd, e1]
  exact q1
theorem GW.istore3 {x : Int32} (hd : decode M.cc pc = .ok (.istore_n 3, 1)) (hn : 3 < M.nL := by exact Nat.le_of_ble_eq_true rfl) (hp : ∀ w : Value, a2 = some w → w.category ≠ 2 := by intro w h; first | (cases h; first | (show ¬ ((1 : Nat) = 2); decide) | (rw [va_rf_cat]; decide)) | (cases h)) (g : GW M Q X G k n (pc + 1) [a0, a1, a2, some (.int x), a4, a5, a6, a7, a8, a9, a10, a11] st) : GW M Q X G k n pc [a0, a1, a2, a3, a4, a5, a6, a7, a8, a9, a10, a11] (.int x :: st) := by
  intro p l e R s m args below meth c D dA b0 hX H locs ls hG hS hL T hT XX
  obtain ⟨ls', e1, h1⟩ := gHas.store1 (i := 3) (v := .int x) hL hn rfl (fun j w hj hw => by cases (show j = 2 by omega); exact hp w (Option.some.inj hw))
  obtain ⟨t, q1, q2⟩ := g p l e R s m args below meth c D dA b0 hX H locs ls' hG hS h1 T hT XX
  refine ⟨t, ?_, q2⟩
  jvm_step XX.here [XX.here.top, ↓top_set XX.here.top, hX.1, hX.2.1, hd, e1]
  exact q1
theorem GW.astore3 {v : Value} (hd : decode M.cc pc = .ok (.astore_n 3, 1)) (hn : 3 < M.nL := by exact Nat.le_of_ble_eq_true rfl) (hp : ∀ w : Value, a2 = some w → w.category ≠ 2 := by intro w h; first | (cases h; first | (show ¬ ((1 : Nat) = 2); decide) | (rw [va_rf_cat]; decide)) | (cases h)) (hv : v = .null ∨ ∃ a, v = .ref a := by first | exact Or.inr ⟨_, rfl⟩ | exact Or.inl rfl | exact va_rf_or _) (g : GW M Q X G k n (pc + 1) [a0, a1, a2, some v, a4, a5, a6, a7, a8, a9, a10, a11] st) : GW M Q X G k n pc [a0, a1, a2, a3, a4, a5, a6, a7, a8, a9, a10, a11] (v :: st) := by
  intro p l e R s m args below meth c D dA b0 hX H locs ls hG hS hL T hT XX
  obtain ⟨ls', e1, h1⟩ := gHas.store1 (i := 3) (v := v) hL hn (by rcases hv with rfl | ⟨a, rfl⟩ <;> rfl) (fun j w hj hw => by cases (show j = 2 by omega); exact hp w (Option.some.inj hw))
  obtain ⟨t, q1, q2⟩ := g p l e R s m args below meth c D dA b0 hX H locs ls' hG hS h1 T hT XX
  refine ⟨t, ?_, q2⟩
  rcases hv with rfl | ⟨a, rfl⟩ <;>
    (jvm_step XX.here [XX.here.top, ↓top_set XX.here.top, hX.1, hX.2.1, hd, e1, Value.isRef]
     exact q1)
theorem GW.iinc3 {z : Int} {x v : Int32} (hd : decode M.cc pc = .ok (.iinc 3 z, 3)) (hv : x + Int32.ofInt z = v) (hn : 3 < M.nL := by exact Nat.le_of_ble_eq_true rfl) (hp : ∀ w : Value, a2 = some w → w.category ≠ 2 := by intro w h; first | (cases h; first | (show ¬ ((1 : Nat) = 2); decide) | (rw [va_rf_cat]; decide)) | (cases h)) (g : GW M Q X G k n (pc + 3) [a0, a1, a2, some (.int v), a4, a5, a6, a7, a8, a9, a10, a11] st) : GW M Q X G k n pc [a0, a1, a2, some (.int x), a4, a5, a6, a7, a8, a9, a10, a11] st := by
  subst hv
  intro p l e R s m args below meth c D dA b0 hX H locs ls hG hS hL T hT XX
  obtain ⟨ls', e1, h1⟩ := gHas.store1 (i := 3) (v := .int (x + Int32.ofInt z)) hL hn rfl (fun j w hj hw => by cases (show j = 2 by omega); exact hp w (Option.some.inj hw))
  have hx := hL.2.2 3 (.int x) rfl
  obtain ⟨t, q1, q2⟩ := g p l e R s m args below meth c D dA b0 hX H locs ls' hG hS h1 T hT XX
  refine ⟨t, ?_, q2⟩
  jvm_step XX.here [XX.here.top, ↓top_set XX.here.top, hX.1, hX.2.1, hd, hx, e1]
  exact q1
theorem GW.lstore3 {x : Int64} (hd : decode M.cc pc = .ok (.lstore_n 3, 1)) (hn : 4 < M.nL := by exact Nat.le_of_ble_eq_true rfl) (hp : ∀ w : Value, a2 = some w → w.category ≠ 2 := by intro w h; first | (cases h; first | (show ¬ ((1 : Nat) = 2); decide) | (rw [va_rf_cat]; decide)) | (cases h)) (g : GW M Q X G k n (pc + 1) [a0, a1, a2, some (.long x), none, a5, a6, a7, a8, a9, a10, a11] st) : GW M Q X G k n pc [a0, a1, a2, a3, a4, a5, a6, a7, a8, a9, a10, a11] (.long x :: st) := by
  intro p l e R s m args below meth c D dA b0 hX H locs ls hG hS hL T hT XX
  obtain ⟨ls', e1, h1⟩ := gHas.store2 (i := 3) (v := .long x) hL hn rfl (fun j w hj hw => by cases (show j = 2 by omega); exact hp w (Option.some.inj hw))
  obtain ⟨t, q1, q2⟩ := g p l e R s m args below meth c D dA b0 hX H locs ls' hG hS h1 T hT XX
  refine ⟨t, ?_, q2⟩
  jvm_step XX.here [XX.here.top, ↓top_set XX.here.top, hX.1, hX.2.1, hd, e1]
  exact q1
theorem GW.istore4 {x : Int32} (hd : decode M.cc pc = .ok (.istore 4, 2)) (hn : 4 < M.nL := by exact Nat.le_of_ble_eq_true rfl) (hp : ∀ w : Value, a3 = some w → w.category ≠ 2 := by intro w h; first | (cases h; first | (show ¬ ((1 : Nat) = 2); decide) | (rw [va_rf_cat]; decide)) | (cases h)) (g : GW M Q X G k n (pc + 2) [a0, a1, a2, a3, some (.int x), a5, a6, a7, a8, a9, a10, a11] st) : GW M Q X G k n pc [a0, a1, a2, a3, a4, a5, a6, a7, a8, a9, a10, a11] (.int x :: st) := by
  intro p l e R s m args below meth c D dA b0 hX H locs ls hG hS hL T hT XX
  obtain ⟨ls', e1, h1⟩ := gHas.store1 (i := 4) (v := .int x) hL hn rfl (fun j w hj hw => by cases (show j = 3 by omega); exact hp w (Option.some.inj hw))
  obtain ⟨t, q1, q2⟩ := g p l e R s m args below meth c D dA b0 hX H locs ls' hG hS h1 T hT XX
  refine ⟨t, ?_, q2⟩
  jvm_step XX.here [XX.here.top, ↓top_set XX.here.top, hX.1, hX.2.1, hd, e1]
  exact q1
theorem GW.astore4 {v : Value} (hd : decode M.cc pc = .ok (.astore 4, 2)) (hn : 4 < M.nL := by exact Nat.le_of_ble_eq_true rfl) (hp : ∀ w : Value, a3 = some w → w.category ≠ 2 := by intro w h; first | (cases h; first | (show ¬ ((1 : Nat) = 2); decide) | (rw [va_rf_cat]; decide)) | (cases h)) (hv : v = .null ∨ ∃ a, v = .ref a := by first | exact Or.inr ⟨_, rfl⟩ | exact Or.inl rfl | exact va_rf_or _) (g : GW M Q X G k n (pc + 2) [a0, a1, a2, a3, some v, a5, a6, a7, a8, a9, a10, a11] st) : GW M Q X G k n pc [a0, a1, a2, a3, a4, a5, a6, a7, a8, a9, a10, a11] (v :: st) := by
  intro p l e R s m args below meth c D dA b0 hX H locs ls hG hS hL T hT XX
  obtain ⟨ls', e1, h1⟩ := gHas.store1 (i := 4) (v := v) hL hn (by rcases hv with rfl | ⟨a, rfl⟩ <;> rfl) (fun j w hj hw => by cases (show j = 3 by omega); exact hp w (Option.some.inj hw))
  obtain ⟨t, q1, q2⟩ := g p l e R s m args below meth c D dA b0 hX H locs ls' hG hS h1 T hT XX
  refine ⟨t, ?_, q2⟩
  rcases hv with rfl | ⟨a, rfl⟩ <;>
    (jvm_step XX.here [XX.here.top, ↓top_set XX.here.top, hX.1, hX.2.1, hd, e1, Value.isRef]
     exact q1)
theorem GW.iinc4 {z : Int} {x v : Int32} (hd : decode M.cc pc = .ok (.iinc 4 z, 3)) (hv : x + Int32.ofInt z = v) (hn : 4 < M.nL := by exact Nat.le_of_ble_eq_true rfl) (hp : ∀ w : Value, a3 = some w → w.category ≠ 2 := by intro w h; first | (cases h; first | (show ¬ ((1 : Nat) = 2); decide) | (rw [va_rf_cat]; decide)) | (cases h)) (g : GW M Q X G k n (pc + 3) [a0, a1, a2, a3, some (.int v), a5, a6, a7, a8, a9, a10, a11] st) : GW M Q X G k n pc [a0, a1, a2, a3, some (.int x), a5, a6, a7, a8, a9, a10, a11] st := by
  subst hv
  intro p l e R s m args below meth c D dA b0 hX H locs ls hG hS hL T hT XX
  obtain ⟨ls', e1, h1⟩ := gHas.store1 (i := 4) (v := .int (x + Int32.ofInt z)) hL hn rfl (fun j w hj hw => by cases (show j = 3 by omega); exact hp w (Option.some.inj hw))
  have hx := hL.2.2 4 (.int x) rfl
  obtain ⟨t, q1, q2⟩ := g p l e R s m args below meth c D dA b0 hX H locs ls' hG hS h1 T hT XX
  refine ⟨t, ?_, q2⟩
  jvm_step XX.here [XX.here.top, ↓top_set XX.here.top, hX.1, hX.2.1, hd, hx, e1]
  exact q1
theorem GW.lstore4 {x : Int64} (hd : decode M.cc pc = .ok (.lstore 4, 2)) (hn : 5 < M.nL := by exact Nat.le_of_ble_eq_true rfl) (hp : ∀ w : Value, a3 = some w → w.category ≠ 2 := by intro w h; first | (cases h; first | (show ¬ ((1 : Nat) = 2); decide) | (rw [va_rf_cat]; decide)) | (cases h)) (g : GW M Q X G k n (pc + 2) [a0, a1, a2, a3, some (.long x), none, a6, a7, a8, a9, a10, a11] st) : GW M Q X G k n pc [a0, a1, a2, a3, a4, a5, a6, a7, a8, a9, a10, a11] (.long x :: st) := by
  intro p l e R s m args below meth c D dA b0 hX H locs ls hG hS hL T hT XX
  obtain ⟨ls', e1, h1⟩ := gHas.store2 (i := 4) (v := .long x) hL hn rfl (fun j w hj hw => by cases (show j = 3 by omega); exact hp w (Option.some.inj hw))
  obtain ⟨t, q1, q2⟩ := g p l e R s m args below meth c D dA b0 hX H locs ls' hG hS h1 T hT XX
  refine ⟨t, ?_, q2⟩
  jvm_step XX.here [XX.here.top, ↓top_set XX.here.top, hX.1, hX.2.1, hd, e1]
  exact q1
theorem GW.istore5 {x : Int32} (hd : decode M.cc pc = .ok (.istore 5, 2)) (hn : 5 < M.nL := by exact Nat.le_of_ble_eq_true rfl) (hp : ∀ w : Value, a4 = some w → w.category ≠ 2 := by intro w h; first | (cases h; first | (show ¬ ((1 : Nat) = 2); decide) | (rw [va_rf_cat]; decide)) | (cases h)) (g : GW M Q X G k n (pc + 2) [a0, a1, a2, a3, a4, some (.int x), a6, a7, a8, a9, a10, a11] st) : GW M Q X G k n pc [a0, a1, a2, a3, a4, a5, a6, a7, a8, a9, a10, a11] (.int x :: st) := by
  intro p l e R s m args below meth c D dA b0 hX H locs ls hG hS hL T hT XX
  obtain ⟨ls', e1, h1⟩ := gHas.store1 (i := 5) (v := .int x) hL hn rfl (fun j w hj hw => by cases (show j = 4 by omega); exact hp w (Option.some.inj hw))
  obtain ⟨t, q1, q2⟩ := g p l e R s m args below meth c D dA b0 hX H locs ls' hG hS h1 T hT XX
  refine ⟨t, ?_, q2⟩
  jvm_step XX.here [XX.here.top, ↓top_set XX.here.top, hX.1, hX.2.1, hd, e1]
  exact q1
theorem GW.astore5 {v : Value} (hd : decode M.cc pc = .ok (.astore 5, 2)) (hn : 5 < M.nL := by exact Nat.le_of_ble_eq_true rfl) (hp : ∀ w : Value, a4 = some w → w.category ≠ 2 := by intro w h; first | (cases h; first | (show ¬ ((1 : Nat) = 2); decide) | (rw [va_rf_cat]; decide)) | (cases h)) (hv : v = .null ∨ ∃ a, v = .ref a := by first | exact Or.inr ⟨_, rfl⟩ | exact Or.inl rfl | exact va_rf_or _) (g : GW M Q X G k n (pc + 2) [a0, a1, a2, a3, a4, some v, a6, a7, a8, a9, a10, a11] st) : GW M Q X G k n pc [a0, a1, a2, a3, a4, a5, a6, a7, a8, a9, a10, a11] (v :: st) := by
  intro p l e R s m args below meth c D dA b0 hX H locs ls hG hS hL T hT XX
  obtain ⟨ls', e1, h1⟩ := gHas.store1 (i := 5) (v := v) hL hn (by rcases hv with rfl | ⟨a, rfl⟩ <;> rfl) (fun j w hj hw => by cases (show j = 4 by omega); exact hp w (Option.some.inj hw))
  obtain ⟨t, q1, q2⟩ := g p l e R s m args below meth c D dA b0 hX H locs ls' hG hS h1 T hT XX
  refine ⟨t, ?_, q2⟩
  rcases hv with rfl | ⟨a, rfl⟩ <;>
    (jvm_step XX.here [XX.here.top, ↓top_set XX.here.top, hX.1, hX.2.1, hd, e1, Value.isRef]
     exact q1)
theorem GW.iinc5 {z : Int} {x v : Int32} (hd : decode M.cc pc = .ok (.iinc 5 z, 3)) (hv : x + Int32.ofInt z = v) (hn : 5 < M.nL := by exact Nat.le_of_ble_eq_true rfl) (hp : ∀ w : Value, a4 = some w → w.category ≠ 2 := by intro w h; first | (cases h; first | (show ¬ ((1 : Nat) = 2); decide) | (rw [va_rf_cat]; decide)) | (cases h)) (g : GW M Q X G k n (pc + 3) [a0, a1, a2, a3, a4, some (.int v), a6, a7, a8, a9, a10, a11] st) : GW M Q X G k n pc [a0, a1, a2, a3, a4, some (.int x), a6, a7, a8, a9, a10, a11] st := by
  subst hv
  intro p l e R s m args below meth c D dA b0 hX H locs ls hG hS hL T hT XX
  obtain ⟨ls', e1, h1⟩ := gHas.store1 (i := 5) (v := .int (x + Int32.ofInt z)) hL hn rfl (fun j w hj hw => by cases (show j = 4 by omega); exact hp w (Option.some.inj hw))
  have hx := hL.2.2 5 (.int x) rfl
  obtain ⟨t, q1, q2⟩ := g p l e R s m args below meth c D dA b0 hX H locs ls' hG hS h1 T hT XX
  refine ⟨t, ?_, q2⟩
  jvm_step XX.here [XX.here.top, ↓top_set XX.here.top, hX.1, hX.2.1, hd, hx, e1]
  exact q1
theorem GW.lstore5 {x : Int64} (hd : decode M.cc pc = .ok (.lstore 5, 2)) (hn : 6 < M.nL := by exact Nat.le_of_ble_eq_true rfl) (hp : ∀ w : Value, a4 = some w → w.category ≠ 2 := by intro w h; first | (cases h; first | (show ¬ ((1 : Nat) = 2); decide) | (rw [va_rf_cat]; decide)) | (cases h)) (g : GW M Q X G k n (pc + 2) [a0, a1, a2, a3, a4, some (.long x), none, a7, a8, a9, a10, a11] st) : GW M Q X G k n pc [a0, a1, a2, a3, a4, a5, a6, a7, a8, a9, a10, a11] (.long x :: st) := by
  intro p l e R s m args below meth c D dA b0 hX H locs ls hG hS hL T hT XX
  obtain ⟨ls', e1, h1⟩ := gHas.store2 (i := 5) (v := .long x) hL hn rfl (fun j w hj hw => by cases (show j = 4 by omega); exact hp w (Option.some.inj hw))
  obtain ⟨t, q1, q2⟩ := g p l e R s m args below meth c D dA b0 hX H locs ls' hG hS h1 T hT XX
  refine ⟨t, ?_, q2⟩
  jvm_step XX.here [XX.here.top, ↓top_set XX.here.top, hX.1, hX.2.1, hd, e1]
  exact q1
theorem GW.istore6 {x : Int32} (hd : decode M.cc pc = .ok (.istore 6, 2)) (hn : 6 < M.nL := by exact Nat.le_of_ble_eq_true rfl) (hp : ∀ w : Value, a5 = some w → w.category ≠ 2 := by intro w h; first | (cases h; first | (show ¬ ((1 : Nat) = 2); decide) | (rw [va_rf_cat]; decide)) | (cases h)) (g : GW M Q X G k n (pc + 2) [a0, a1, a2, a3, a4, a5, some (.int x), a7, a8, a9, a10, a11] st) : GW M Q X G k n pc [a0, a1, a2, a3, a4, a5, a6, a7, a8, a9, a10, a11] (.int x :: st) := by
  intro p l e R s m args below meth c D dA b0 hX H locs ls hG hS hL T hT XX
  obtain ⟨ls', e1, h1⟩ := gHas.store1 (i := 6) (v := .int x) hL hn rfl (fun j w hj hw => by cases (show j = 5 by omega); exact hp w (Option.some.inj hw))
  obtain ⟨t, q1, q2⟩ := g p l e R s m args below meth c D dA b0 hX H locs ls' hG hS h1 T hT XX
  refine ⟨t, ?_, q2⟩
  jvm_step XX.here [XX.here.top, ↓top_set XX.here.top, hX.1, hX.2.1, hd, e1]
  exact q1
theorem GW.astore6 {v : Value} (hd : decode M.cc pc = .ok (.astore 6, 2)) (hn : 6 < M.nL := by exact Nat.le_of_ble_eq_true rfl) (hp : ∀ w : Value, a5 = some w → w.category ≠ 2 := by intro w h; first | (cases h; first | (show ¬ ((1 : Nat) = 2); decide) | (rw [va_rf_cat]; decide)) | (cases h)) (hv : v = .null ∨ ∃ a, v = .ref a := by first | exact Or.inr ⟨_, rfl⟩ | exact Or.inl rfl | exact va_rf_or _) (g : GW M Q X G k n (pc + 2) [a0, a1, a2, a3, a4, a5, some v, a7, a8, a9, a10, a11] st) : GW M Q X G k n pc [a0, a1, a2, a3, a4, a5, a6, a7, a8, a9, a10, a11] (v :: st) := by
  intro p l e R s m args below meth c D dA b0 hX H locs ls hG hS hL T hT XX
  obtain ⟨ls', e1, h1⟩ := gHas.store1 (i := 6) (v := v) hL hn (by rcases hv with rfl | ⟨a, rfl⟩ <;> rfl) (fun j w hj hw => by cases (show j = 5 by omega); exact hp w (Option.some.inj hw))
  obtain ⟨t, q1, q2⟩ := g p l e R s m args below meth c D dA b0 hX H locs ls' hG hS h1 T hT XX
  refine ⟨t, ?_, q2⟩
  rcases hv with rfl | ⟨a, rfl⟩ <;>
    (jvm_step XX.here [XX.here.top, ↓top_set XX.here.top, hX.1, hX.2.1, hd, e1, Value.isRef]
     exact q1)
theorem GW.iinc6 {z : Int} {x v : Int32} (hd : decode M.cc pc = .ok (.iinc 6 z, 3)) (hv : x + Int32.ofInt z = v) (hn : 6 < M.nL := by exact Nat.le_of_ble_eq_true rfl) (hp : ∀ w : Value, a5 = some w → w.category ≠ 2 := by intro w h; first | (cases h; first | (show ¬ ((1 : Nat) = 2); decide) | (rw [va_rf_cat]; decide)) | (cases h)) (g : GW M Q X G k n (pc + 3) [a0, a1, a2, a3, a4, a5, some (.int v), a7, a8, a9, a10, a11] st) : GW M Q X G k n pc [a0, a1, a2, a3, a4, a5, some (.int x), a7, a8, a9, a10, a11] st := by
  subst hv
  intro p l e R s m args below meth c D dA b0 hX H locs ls hG hS hL T hT XX
  obtain ⟨ls', e1, h1⟩ := gHas.store1 (i := 6) (v := .int (x + Int32.ofInt z)) hL hn rfl (fun j w hj hw => by cases (show j = 5 by omega); exact hp w (Option.some.inj hw))
  have hx := hL.2.2 6 (.int x) rfl
  obtain ⟨t, q1, q2⟩ := g p l e R s m args below meth c D dA b0 hX H locs ls' hG hS h1 T hT XX
  refine ⟨t, ?_, q2⟩
  jvm_step XX.here [XX.here.top, ↓top_set XX.here.top, hX.1, hX.2.1, hd, hx, e1]
  exact q1
theorem GW.lstore6 {x : Int64} (hd : decode M.cc pc = .ok (.lstore 6, 2)) (hn : 7 < M.nL := by exact Nat.le_of_ble_eq_true rfl) (hp : ∀ w : Value, a5 = some w → w.category ≠ 2 := by intro w h; first | (cases h; first | (show ¬ ((1 : Nat) = 2); decide) | (rw [va_rf_cat]; decide)) | (cases h)) (g : GW M Q X G k n (pc + 2) [a0, a1, a2, a3, a4, a5, some (.long x), none, a8, a9, a10, a11] st) : GW M Q X G k n pc [a0, a1, a2, a3, a4, a5, a6, a7, a8, a9, a10, a11] (.long x :: st) := by
  intro p l e R s m args below meth c D dA b0 hX H locs ls hG hS hL T hT XX
  obtain ⟨ls', e1, h1⟩ := gHas.store2 (i := 6) (v := .long x) hL hn rfl (fun j w hj hw => by cases (show j = 5 by omega); exact hp w (Option.some.inj hw))
  obtain ⟨t, q1, q2⟩ := g p l e R s m args below meth c D dA b0 hX H locs ls' hG hS h1 T hT XX
  refine ⟨t, ?_, q2⟩
  jvm_step XX.here [XX.here.top, ↓top_set XX.here.top, hX.1, hX.2.1, hd, e1]
  exact q1
theorem GW.istore7 {x : Int32} (hd : decode M.cc pc = .ok (.istore 7, 2)) (hn : 7 < M.nL := by exact Nat.le_of_ble_eq_true rfl) (hp : ∀ w : Value, a6 = some w → w.category ≠ 2 := by intro w h; first | (cases h; first | (show ¬ ((1 : Nat) = 2); decide) | (rw [va_rf_cat]; decide)) | (cases h)) (g : GW M Q X G k n (pc + 2) [a0, a1, a2, a3, a4, a5, a6, some (.int x), a8, a9, a10, a11] st) : GW M Q X G k n pc [a0, a1, a2, a3, a4, a5, a6, a7, a8, a9, a10, a11] (.int x :: st) := by
  intro p l e R s m args below meth c D dA b0 hX H locs ls hG hS hL T hT XX
  obtain ⟨ls', e1, h1⟩ := gHas.store1 (i := 7) (v := .int x) hL hn rfl (fun j w hj hw => by cases (show j = 6 by omega); exact hp w (Option.some.inj hw))
  obtain ⟨t, q1, q2⟩ := g p l e R s m args below meth c D dA b0 hX H locs ls' hG hS h1 T hT XX
  refine ⟨t, ?_, q2⟩
  jvm_step XX.here [XX.here.top, ↓top_set XX.here.top, hX.1, hX.2.1, hd, e1]
  exact q1
theorem GW.astore7 {v : Value} (hd : decode M.cc pc = .ok (.astore 7, 2)) (hn : 7 < M.nL := by exact Nat.le_of_ble_eq_true rfl) (hp : ∀ w : Value, a6 = some w → w.category ≠ 2 := by intro w h; first | (cases h; first | (show ¬ ((1 : Nat) = 2); decide) | (rw [va_rf_cat]; decide)) | (cases h)) (hv : v = .null ∨ ∃ a, v = .ref a := by first | exact Or.inr ⟨_, rfl⟩ | exact Or.inl rfl | exact va_rf_or _) (g : GW M Q X G k n (pc + 2) [a0, a1, a2, a3, a4, a5, a6, some v, a8, a9, a10, a11] st) : GW M Q X G k n pc [a0, a1, a2, a3, a4, a5, a6, a7, a8, a9, a10, a11] (v :: st) := by
  intro p l e R s m args below meth c D dA b0 hX H locs ls hG hS hL T hT XX
  obtain ⟨ls', e1, h1⟩ := gHas.store1 (i := 7) (v := v) hL hn (by rcases hv with rfl | ⟨a, rfl⟩ <;> rfl) (fun j w hj hw => by cases (show j = 6 by omega); exact hp w (Option.some.inj hw))
  obtain ⟨t, q1, q2⟩ := g p l e R s m args below meth c D dA b0 hX H locs ls' hG hS h1 T hT XX
  refine ⟨t, ?_, q2⟩
  rcases hv with rfl | ⟨a, rfl⟩ <;>
    (jvm_step XX.here [XX.here.top, ↓top_set XX.here.top, hX.1, hX.2.1, hd, e1, Value.isRef]
     exact q1)
theorem GW.iinc7 {z : Int} {x v : Int32} (hd : decode M.cc pc = .ok (.iinc 7 z, 3)) (hv : x + Int32.ofInt z = v) (hn : 7 < M.nL := by exact Nat.le_of_ble_eq_true rfl) (hp : ∀ w : Value, a6 = some w → w.category ≠ 2 := by intro w h; first | (cases h; first | (show ¬ ((1 : Nat) = 2); decide) | (rw [va_rf_cat]; decide)) | (cases h)) (g : GW M Q X G k n (pc + 3) [a0, a1, a2, a3, a4, a5, a6, some (.int v), a8, a9, a10, a11] st) : GW M Q X G k n pc [a0, a1, a2, a3, a4, a5, a6, some (.int x), a8, a9, a10, a11] st := by
  subst hv
  intro p l e R s m args below meth c D dA b0 hX H locs ls hG hS hL T hT XX
  obtain ⟨ls', e1, h1⟩ := gHas.store1 (i := 7) (v := .int (x + Int32.ofInt z)) hL hn rfl (fun j w hj hw => by cases (show j = 6 by omega); exact hp w (Option.some.inj hw))
  have hx := hL.2.2 7 (.int x) rfl
  obtain ⟨t, q1, q2⟩ := g p l e R s m args below meth c D dA b0 hX H locs ls' hG hS h1 T hT XX
  refine ⟨t, ?_, q2⟩
  jvm_step XX.here [XX.here.top, ↓top_set XX.here.top, hX.1, hX.2.1, hd, hx, e1]
  exact q1
theorem GW.lstore7 {x : Int64} (hd : decode M.cc pc = .ok (.lstore 7, 2)) (hn : 8 < M.nL := by exact Nat.le_of_ble_eq_true rfl) (hp : ∀ w : Value, a6 = some w → w.category ≠ 2 := by intro w h; first | (cases h; first | (show ¬ ((1 : Nat) = 2); decide) | (rw [va_rf_cat]; decide)) | (cases h)) (g : GW M Q X G k n (pc + 2) [a0, a1, a2, a3, a4, a5, a6, some (.long x), none, a9, a10, a11] st) : GW M Q X G k n pc [a0, a1, a2, a3, a4, a5, a6, a7, a8, a9, a10, a11] (.long x :: st) := by
  intro p l e R s m args below meth c D dA b0 hX H locs ls hG hS hL T hT XX
  obtain ⟨ls', e1, h1⟩ := gHas.store2 (i := 7) (v := .long x) hL hn rfl (fun j w hj hw => by cases (show j = 6 by omega); exact hp w (Option.some.inj hw))
  obtain ⟨t, q1, q2⟩ := g p l e R s m args below meth c D dA b0 hX H locs ls' hG hS h1 T hT XX
  refine ⟨t, ?_, q2⟩
  jvm_step XX.here [XX.here.top, ↓top_set XX.here.top, hX.1, hX.2.1, hd, e1]
  exact q1
theorem GW.istore8 {x : Int32} (hd : decode M.cc pc = .ok (.istore 8, 2)) (hn : 8 < M.nL := by exact Nat.le_of_ble_eq_true rfl) (hp : ∀ w : Value, a7 = some w → w.category ≠ 2 := by intro w h; first | (cases h; first | (show ¬ ((1 : Nat) = 2); decide) | (rw [va_rf_cat]; decide)) | (cases h)) (g : GW M Q X G k n (pc + 2) [a0, a1, a2, a3, a4, a5, a6, a7, some (.int x), a9, a10, a11] st) : GW M Q X G k n pc [a0, a1, a2, a3, a4, a5, a6, a7, a8, a9, a10, a11] (.int x :: st) := by
  intro p l e R s m args below meth c D dA b0 hX H locs ls hG hS hL T hT XX
  obtain ⟨ls', e1, h1⟩ := gHas.store1 (i := 8) (v := .int x) hL hn rfl (fun j w hj hw => by cases (show j = 7 by omega); exact hp w (Option.some.inj hw))
  obtain ⟨t, q1, q2⟩ := g p l e R s m args below meth c D dA b0 hX H locs ls' hG hS h1 T hT XX
  refine ⟨t, ?_, q2⟩
  jvm_step XX.here [XX.here.top, ↓top_set XX.here.top, hX.1, hX.2.1, hd, e1]
  exact q1
theorem GW.astore8 {v : Value} (hd : decode M.cc pc = .ok (.astore 8, 2)) (hn : 8 < M.nL := by exact Nat.le_of_ble_eq_true rfl) (hp : ∀ w : Value, a7 = some w → w.category ≠ 2 := by intro w h; first | (cases h; first | (show ¬ ((1 : Nat) = 2); decide) | (rw [va_rf_cat]; decide)) | (cases h)) (hv : v = .null ∨ ∃ a, v = .ref a := by first | exact Or.inr ⟨_, rfl⟩ | exact Or.inl rfl | exact va_rf_or _) (g : GW M Q X G k n (pc + 2) [a0, a1, a2, a3, a4, a5, a6, a7, some v, a9, a10, a11] st) : GW M Q X G k n pc [a0, a1, a2, a3, a4, a5, a6, a7, a8, a9, a10, a11] (v :: st) := by
  intro p l e R s m args below meth c D dA b0 hX H locs ls hG hS hL T hT XX
  obtain ⟨ls', e1, h1⟩ := gHas.store1 (i := 8) (v := v) hL hn (by rcases hv with rfl | ⟨a, rfl⟩ <;> rfl) (fun j w hj hw => by cases (show j = 7 by omega); exact hp w (Option.some.inj hw))
  obtain ⟨t, q1, q2⟩ := g p l e R s m args below meth c D dA b0 hX H locs ls' hG hS h1 T hT XX
  refine ⟨t, ?_, q2⟩
  rcases hv with rfl | ⟨a, rfl⟩ <;>
    (jvm_step XX.here [XX.here.top, ↓top_set XX.here.top, hX.1, hX.2.1, hd, e1, Value.isRef]
     exact q1)
theorem GW.iinc8 {z : Int} {x v : Int32} (hd : decode M.cc pc = .ok (.iinc 8 z, 3)) (hv : x + Int32.ofInt z = v) (hn : 8 < M.nL := by exact Nat.le_of_ble_eq_true rfl) (hp : ∀ w : Value, a7 = some w → w.category ≠ 2 := by intro w h; first | (cases h; first | (show ¬ ((1 : Nat) = 2); decide) | (rw [va_rf_cat]; decide)) | (cases h)) (g : GW M Q X G k n (pc + 3) [a0, a1, a2, a3, a4, a5, a6, a7, some (.int v), a9, a10, a11] st) : GW M Q X G k n pc [a0, a1, a2, a3, a4, a5, a6, a7, some (.int x), a9, a10, a11] st := by
  subst hv
  intro p l e R s m args below meth c D dA b0 hX H locs ls hG hS hL T hT XX
  obtain ⟨ls', e1, h1⟩ := gHas.store1 (i := 8) (v := .int (x + Int32.ofInt z)) hL hn rfl (fun j w hj hw => by cases (show j = 7 by omega); exact hp w (Option.some.inj hw))
  have hx := hL.2.2 8 (.int x) rfl
  obtain ⟨t, q1, q2⟩ := g p l e R s m args below meth c D dA b0 hX H locs ls' hG hS h1 T hT XX
  refine ⟨t, ?_, q2⟩
  jvm_step XX.here [XX.here.top, ↓top_set XX.here.top, hX.1, hX.2.1, hd, hx, e1]
  exact q1
theorem GW.lstore8 {x : Int64} (hd : decode M.cc pc = .ok (.lstore 8, 2)) (hn : 9 < M.nL := by exact Nat.le_of_ble_eq_true rfl) (hp : ∀ w : Value, a7 = some w → w.category ≠ 2 := by intro w h; first | (cases h; first | (show ¬ ((1 : Nat) = 2); decide) | (rw [va_rf_cat]; decide)) | (cases h)) (g : GW M Q X G k n (pc + 2) [a0, a1, a2, a3, a4, a5, a6, a7, some (.long x), none, a10, a11] st) : GW M Q X G k n pc [a0, a1, a2, a3, a4, a5, a6, a7, a8, a9, a10, a11] (.long x :: st) := by
  intro p l e R s m args below meth c D dA b0 hX H locs ls hG hS hL T hT XX
  obtain ⟨ls', e1, h1⟩ := gHas.store2 (i := 8) (v := .long x) hL hn rfl (fun j w hj hw => by cases (show j = 7 by omega); exact hp w (Option.some.inj hw))
  obtain ⟨t, q1, q2⟩ := g p l e R s m args below meth c D dA b0 hX H locs ls' hG hS h1 T hT XX
  refine ⟨t, ?_, q2⟩
  jvm_step XX.here [XX.here.top, ↓top_set XX.here.top, hX.1, hX.2.1, hd, e1]
  exact q1
theorem GW.istore9 {x : Int32} (hd : decode M.cc pc = .ok (.istore 9, 2)) (hn : 9 < M.nL := by exact Nat.le_of_ble_eq_true rfl) (hp : ∀ w : Value, a8 = some w → w.category ≠ 2 := by intro w h; first | (cases h; first | (show ¬ ((1 : Nat) = 2); decide) | (rw [va_rf_cat]; decide)) | (cases h)) (g : GW M Q X G k n (pc + 2) [a0, a1, a2, a3, a4, a5, a6, a7, a8, some (.int x), a10, a11] st) : GW M Q X G k n pc [a0, a1, a2, a3, a4, a5, a6, a7, a8, a9, a10, a11] (.int x :: st) := by
  intro p l e R s m args below meth c D dA b0 hX H locs ls hG hS hL T hT XX
  obtain ⟨ls', e1, h1⟩ := gHas.store1 (i := 9) (v := .int x) hL hn rfl (fun j w hj hw => by cases (show j = 8 by omega); exact hp w (Option.some.inj hw))
  obtain ⟨t, q1, q2⟩ := g p l e R s m args below meth c D dA b0 hX H locs ls' hG hS h1 T hT XX
  refine ⟨t, ?_, q2⟩
  jvm_step XX.here [XX.here.top, ↓top_set XX.here.top, hX.1, hX.2.1, hd, e1]
  exact q1
theorem GW.astore9 {v : Value} (hd : decode M.cc pc = .ok (.astore 9, 2)) (hn : 9 < M.nL := by exact Nat.le_of_ble_eq_true rfl) (hp : ∀ w : Value, a8 = some w → w.category ≠ 2 := by intro w h; first | (cases h; first | (show ¬ ((1 : Nat) = 2); decide) | (rw [va_rf_cat]; decide)) | (cases h)) (hv : v = .null ∨ ∃ a, v = .ref a := by first | exact Or.inr ⟨_, rfl⟩ | exact Or.inl rfl | exact va_rf_or _) (g : GW M Q X G k n (pc + 2) [a0, a1, a2, a3, a4, a5, a6, a7, a8, some v, a10, a11] st) : GW M Q X G k n pc [a0, a1, a2, a3, a4, a5, a6, a7, a8, a9, a10, a11] (v :: st) := by
  intro p l e R s m args below meth c D dA b0 hX H locs ls hG hS hL T hT XX
  obtain ⟨ls', e1, h1⟩ := gHas.store1 (i := 9) (v := v) hL hn (by rcases hv with rfl | ⟨a, rfl⟩ <;> rfl) (fun j w hj hw => by cases (show j = 8 by omega); exact hp w (Option.some.inj hw))
  obtain ⟨t, q1, q2⟩ := g p l e R s m args below meth c D dA b0 hX H locs ls' hG hS h1 T hT XX
  refine ⟨t, ?_, q2⟩
  rcases hv with rfl | ⟨a, rfl⟩ <;>
    (jvm_step XX.here [XX.here.top, ↓top_set XX.here.top, hX.1, hX.2.1, hd, e1, Value.isRef]
     exact q1)
theorem GW.iinc9 {z : Int} {x v : Int32} (hd : decode M.cc pc = .ok (.iinc 9 z, 3)) (hv : x + Int32.ofInt z = v) (hn : 9 < M.nL := by exact Nat.le_of_ble_eq_true rfl) (hp : ∀ w : Value, a8 = some w → w.category ≠ 2 := by intro w h; first | (cases h; first | (show ¬ ((1 : Nat) = 2); decide) | (rw [va_rf_cat]; decide)) | (cases h)) (g : GW M Q X G k n (pc + 3) [a0, a1, a2, a3, a4, a5, a6, a7, a8, some (.int v), a10, a11] st) : GW M Q X G k n pc [a0, a1, a2, a3, a4, a5, a6, a7, a8, some (.int x), a10, a11] st := by
  subst hv
  intro p l e R s m args below meth c D dA b0 hX H locs ls hG hS hL T hT XX
  obtain ⟨ls', e1, h1⟩ := gHas.store1 (i := 9) (v := .int (x + Int32.ofInt z)) hL hn rfl (fun j w hj hw => by cases (show j = 8 by omega); exact hp w (Option.some.inj hw))
  have hx := hL.2.2 9 (.int x) rfl
  obtain ⟨t, q1, q2⟩ := g p l e R s m args below meth c D dA b0 hX H locs ls' hG hS h1 T hT XX
  refine ⟨t, ?_, q2⟩
  jvm_step XX.here [XX.here.top, ↓top_set XX.here.top, hX.1, hX.2.1, hd, hx, e1]
  exact q1
theorem GW.lstore9 {x : Int64} (hd : decode M.cc pc = .ok (.lstore 9, 2)) (hn : 10 < M.nL := by exact Nat.le_of_ble_eq_true rfl) (hp : ∀ w : Value, a8 = some w → w.category ≠ 2 := by intro w h; first | (cases h; first | (show ¬ ((1 : Nat) = 2); decide) | (rw [va_rf_cat]; decide)) | (cases h)) (g : GW M Q X G k n (pc + 2) [a0, a1, a2, a3, a4, a5, a6, a7, a8, some (.long x), none, a11] st) : GW M Q X G k n pc [a0, a1, a2, a3, a4, a5, a6, a7, a8, a9, a10, a11] (.long x :: st) := by
  intro p l e R s m args below meth c D dA b0 hX H locs ls hG hS hL T hT XX
  obtain ⟨ls', e1, h1⟩ := gHas.store2 (i := 9) (v := .long x) hL hn rfl (fun j w hj hw => by cases (show j = 8 by omega); exact hp w (Option.some.inj hw))
  obtain ⟨t, q1, q2⟩ := g p l e R s m args below meth c D dA b0 hX H locs ls' hG hS h1 T hT XX
  refine ⟨t, ?_, q2⟩
  jvm_step XX.here [XX.here.top, ↓top_set XX.here.top, hX.1, hX.2.1, hd, e1]
  exact q1
theorem GW.istore10 {x : Int32} (hd : decode M.cc pc = .ok (.istore 10, 2)) (hn : 10 < M.nL := by exact Nat.le_of_ble_eq_true rfl) (hp : ∀ w : Value, a9 = some w → w.category ≠ 2 := by intro w h; first | (cases h; first | (show ¬ ((1 : Nat) = 2); decide) | (rw [va_rf_cat]; decide)) | (cases h)) (g : GW M Q X G k n (pc + 2) [a0, a1, a2, a3, a4, a5, a6, a7, a8, a9, some (.int x), a11] st) : GW M Q X G k n pc [a0, a1, a2, a3, a4, a5, a6, a7, a8, a9, a10, a11] (.int x :: st) := by
  intro p l e R s m args below meth c D dA b0 hX H locs ls hG hS hL T hT XX
  obtain ⟨ls', e1, h1⟩ := gHas.store1 (i := 10) (v := .int x) hL hn rfl (fun j w hj hw => by cases (show j = 9 by omega); exact hp w (Option.some.inj hw))
  obtain ⟨t, q1, q2⟩ := g p l e R s m args below meth c D dA b0 hX H locs ls' hG hS h1 T hT XX
  refine ⟨t, ?_, q2⟩
  jvm_step XX.here [XX.here.top, ↓top_set XX.here.top, hX.1, hX.2.1, hd, e1]
  exact q1
theorem GW.astore10 {v : Value} (hd : decode M.cc pc = .ok (.astore 10, 2)) (hn : 10 < M.nL := by exact Nat.le_of_ble_eq_true rfl) (hp : ∀ w : Value, a9 = some w → w.category ≠ 2 := by intro w h; first | (cases h; first | (show ¬ ((1 : Nat) = 2); decide) | (rw [va_rf_cat]; decide)) | (cases h)) (hv : v = .null ∨ ∃ a, v = .ref a := by first | exact Or.inr ⟨_, rfl⟩ | exact Or.inl rfl | exact va_rf_or _) (g : GW M Q X G k n (pc + 2) [a0, a1, a2, a3, a4, a5, a6, a7, a8, a9, some v, a11] st) : GW M Q X G k n pc [a0, a1, a2, a3, a4, a5, a6, a7, a8, a9, a10, a11] (v :: st) := by
  intro p l e R s m args below meth c D dA b0 hX H locs ls hG hS hL T hT XX
  obtain ⟨ls', e1, h1⟩ := gHas.store1 (i := 10) (v := v) hL hn (by rcases hv with rfl | ⟨a, rfl⟩ <;> rfl) (fun j w hj hw => by cases (show j = 9 by omega); exact hp w (Option.some.inj hw))
  obtain ⟨t, q1, q2⟩ := g p l e R s m args below meth c D dA b0 hX H locs ls' hG hS h1 T hT XX
  refine ⟨t, ?_, q2⟩
  rcases hv with rfl | ⟨a, rfl⟩ <;>
    (jvm_step XX.here [XX.here.top, ↓top_set XX.here.top, hX.1, hX.2.1, hd, e1, Value.isRef]
     exact q1)
theorem GW.iinc10 {z : Int} {x v : Int32} (hd : decode M.cc pc = .ok (.iinc 10 z, 3)) (hv : x + Int32.ofInt z = v) (hn : 10 < M.nL := by exact Nat.le_of_ble_eq_true rfl) (hp : ∀ w : Value, a9 = some w → w.category ≠ 2 := by intro w h; first | (cases h; first | (show ¬ ((1 : Nat) = 2); decide) | (rw [va_rf_cat]; decide)) | (cases h)) (g : GW M Q X G k n (pc + 3) [a0, a1, a2, a3, a4, a5, a6, a7, a8, a9, some (.int v), a11] st) : GW M Q X G k n pc [a0, a1, a2, a3, a4, a5, a6, a7, a8, a9, some (.int x), a11] st := by
  subst hv
  intro p l e R s m args below meth c D dA b0 hX H locs ls hG hS hL T hT XX
  obtain ⟨ls', e1, h1⟩ := gHas.store1 (i := 10) (v := .int (x + Int32.ofInt z)) hL hn rfl (fun j w hj hw => by cases (show j = 9 by omega); exact hp w (Option.some.inj hw))
  have hx := hL.2.2 10 (.int x) rfl
  obtain ⟨t, q1, q2⟩ := g p l e R s m args below meth c D dA b0 hX H locs ls' hG hS h1 T hT XX
  refine ⟨t, ?_, q2⟩
  jvm_step XX.here [XX.here.top, ↓top_set XX.here.top, hX.1, hX.2.1, hd, hx, e1]
  exact q1
theorem GW.lstore10 {x : Int64} (hd : decode M.cc pc = .ok (.lstore 10, 2)) (hn : 11 < M.nL := by exact Nat.le_of_ble_eq_true rfl) (hp : ∀ w : Value, a9 = some w → w.category ≠ 2 := by intro w h; first | (cases h; first | (show ¬ ((1 : Nat) = 2); decide) | (rw [va_rf_cat]; decide)) | (cases h)) (g : GW M Q X G k n (pc + 2) [a0, a1, a2, a3, a4, a5, a6, a7, a8, a9, some (.long x), none] st) : GW M Q X G k n pc [a0, a1, a2, a3, a4, a5, a6, a7, a8, a9, a10, a11] (.long x :: st) := by
  intro p l e R s m args below meth c D dA b0 hX H locs ls hG hS hL T hT XX
  obtain ⟨ls', e1, h1⟩ := gHas.store2 (i := 10) (v := .long x) hL hn rfl (fun j w hj hw => by cases (show j = 9 by omega); exact hp w (Option.some.inj hw))
  obtain ⟨t, q1, q2⟩ := g p l e R s m args below meth c D dA b0 hX H locs ls' hG hS h1 T hT XX
  refine ⟨t, ?_, q2⟩
  jvm_step XX.here [XX.here.top, ↓top_set XX.here.top, hX.1, hX.2.1, hd, e1]
  exact q1
theorem GW.istore11 {x : Int32} (hd : decode M.cc pc = .ok (.istore 11, 2)) (hn : 11 < M.nL := by exact Nat.le_of_ble_eq_true rfl) (hp : ∀ w : Value, a10 = some w → w.category ≠ 2 := by intro w h; first | (cases h; first | (show ¬ ((1 : Nat) = 2); decide) | (rw [va_rf_cat]; decide)) | (cases h)) (g : GW M Q X G k n (pc + 2) [a0, a1, a2, a3, a4, a5, a6, a7, a8, a9, a10, some (.int x)] st) : GW M Q X G k n pc [a0, a1, a2, a3, a4, a5, a6, a7, a8, a9, a10, a11] (.int x :: st) := by
  intro p l e R s m args below meth c D dA b0 hX H locs ls hG hS hL T hT XX
  obtain ⟨ls', e1, h1⟩ := gHas.store1 (i := 11) (v := .int x) hL hn rfl (fun j w hj hw => by cases (show j = 10 by omega); exact hp w (Option.some.inj hw))
  obtain ⟨t, q1, q2⟩ := g p l e R s m args below meth c D dA b0 hX H locs ls' hG hS h1 T hT XX
  refine ⟨t, ?_, q2⟩
  jvm_step XX.here [XX.here.top, ↓top_set XX.here.top, hX.1, hX.2.1, hd, e1]
  exact q1
theorem GW.astore11 {v : Value} (hd : decode M.cc pc = .ok (.astore 11, 2)) (hn : 11 < M.nL := by exact Nat.le_of_ble_eq_true rfl) (hp : ∀ w : Value, a10 = some w → w.category ≠ 2 := by intro w h; first | (cases h; first | (show ¬ ((1 : Nat) = 2); decide) | (rw [va_rf_cat]; decide)) | (cases h)) (hv : v = .null ∨ ∃ a, v = .ref a := by first | exact Or.inr ⟨_, rfl⟩ | exact Or.inl rfl | exact va_rf_or _) (g : GW M Q X G k n (pc + 2) [a0, a1, a2, a3, a4, a5, a6, a7, a8, a9, a10, some v] st) : GW M Q X G k n pc [a0, a1, a2, a3, a4, a5, a6, a7, a8, a9, a10, a11] (v :: st) := by
  intro p l e R s m args below meth c D dA b0 hX H locs ls hG hS hL T hT XX
  obtain ⟨ls', e1, h1⟩ := gHas.store1 (i := 11) (v := v) hL hn (by rcases hv with rfl | ⟨a, rfl⟩ <;> rfl) (fun j w hj hw => by cases (show j = 10 by omega); exact hp w (Option.some.inj hw))
  obtain ⟨t, q1, q2⟩ := g p l e R s m args below meth c D dA b0 hX H locs ls' hG hS h1 T hT XX
  refine ⟨t, ?_, q2⟩
  rcases hv with rfl | ⟨a, rfl⟩ <;>
    (jvm_step XX.here [XX.here.top, ↓top_set XX.here.top, hX.1, hX.2.1, hd, e1, Value.isRef]
     exact q1)
theorem GW.iinc11 {z : Int} {x v : Int32} (hd : decode M.cc pc = .ok (.iinc 11 z, 3)) (hv : x + Int32.ofInt z = v) (hn : 11 < M.nL := by exact Nat.le_of_ble_eq_true rfl) (hp : ∀ w : Value, a10 = some w → w.category ≠ 2 := by intro w h; first | (cases h; first | (show ¬ ((1 : Nat) = 2); decide) | (rw [va_rf_cat]; decide)) | (cases h)) (g : GW M Q X G k n (pc + 3) [a0, a1, a2, a3, a4, a5, a6, a7, a8, a9, a10, some (.int v)] st) : GW M Q X G k n pc [a0, a1, a2, a3, a4, a5, a6, a7, a8, a9, a10, some (.int x)] st := by
  subst hv
  intro p l e R s m args below meth c D dA b0 hX H locs ls hG hS hL T hT XX
  obtain ⟨ls', e1, h1⟩ := gHas.store1 (i := 11) (v := .int (x + Int32.ofInt z)) hL hn rfl (fun j w hj hw => by cases (show j = 10 by omega); exact hp w (Option.some.inj hw))
  have hx := hL.2.2 11 (.int x) rfl
  obtain ⟨t, q1, q2⟩ := g p l e R s m args below meth c D dA b0 hX H locs ls' hG hS h1 T hT XX
  refine ⟨t, ?_, q2⟩
  jvm_step XX.here [XX.here.top, ↓top_set XX.here.top, hX.1, hX.2.1, hd, hx, e1]
  exact q1
end GWR
