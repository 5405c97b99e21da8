/-! THE CLAIM OUT OF ONE WALK OF THE LAW'S BODY. Your part is whole_start (and what it stands on); all else here is the same for every law, but numbers. -/
def R_law : String := "MarlStoreLaw"
def lw_P (b : Addr) (xs : List Int32) (args : Array Value) (s : State) : Prop := args = #[.ref b] ∧ s.IntsAt b xs ∧ xs.length ≤ 260 ∧ (Jvm.Cond.and given_1 narrow_1).before args s = true
def lw_Q (_ : Array Value) (s : State) (o : Outcome) (t : State) : Prop := o = .returned (some (.int 1)) ∧ Framed s o t [] 888401 6436494
def lw_Z (below : List Frame) (a : Array Value) (s : State) : State → Prop := fun t => ∃ o, t.status = .running ∧ Ended t below o ∧ lw_Q a s o t
/-- the law's own end, with 1 on the stack, nothing written that was there before, its room as the claim has it -/
theorem lw_ret {p : Program} {l : Launch} {e : Env} {s : State} {m : MethodId} {below : List Frame} {meth : Method} {c : Code} {b : Nat} (hx : p.tables.exec = Jvm.exec) (hb : c.code = code) (hr : meth.sig.returnType = ret) (hlocks : meth.locks = false) {pc : Nat} {H : Heap} {ls : Array Slot} (hdg : decode code pc = .ok (.ireturn, 1)) : W p l e room_1 s m #[Value.ref b] below meth c H [] 888401 6436494 (lw_Z below #[Value.ref b] s) (F0 m pc ls [.int 1]) := by
  intro T hT X
  obtain ⟨fs, hret, hrun, hended, hW, hframe⟩ := X.leave (v := some (.int 1)) (hlocks := hlocks) (fun h => by rw [hr] at h; cases h)
  have hmeth' : T.vm.method? m = some meth := X.method'
  refine ⟨T.setFrames fs, ?_, .returned (some (.int 1)), hrun, hended, rfl, ⟨_, rfl⟩, hW, hframe⟩
  jvm_step X.here [X.here.top, hx, hb, hdg, hmeth', hr, ret, narrow_b1]
  (try refine ⟨rfl, ?_⟩); (try refine ⟨rfl, ?_⟩)
  first | (intro acts; rw [hret _ acts rfl rfl rfl]) | rw [hret _ _ rfl rfl rfl]
  exact Steps.refl _
/-- what holds at the law's entry: the machine, the code, the tables' words (any of lw_tbl by 'hts w (by decide +kernel)'), the script of L ints xs at the cell b, what the Statement gives of the start (any of its parts by flat_of_before) -/
def lw_At (p : Program) (s : State) (m : MethodId) (meth : Method) (c : Code) (b L : Nat) (xs : Nat → Int32) : Prop :=
  p.tables.exec = Jvm.exec ∧ c.code = code ∧ meth.sig.returnType = ret ∧ c.maxLocals = 5 ∧ s.vm.findClass R_law = some m.cls ∧ (∀ w ∈ lw_tbl, w.before #[Value.ref b] s = true) ∧ va_X b L xs s s.heap ∧ b < s.heap.size ∧ meth.locks = false ∧ (Jvm.Cond.and given_1 narrow_1).before #[Value.ref b] s = true
/-! THE LAW ITSELF: cell, rows of its body, its loop -/
theorem vp_at {j n : Nat} (h : j < n) (hn : n < 2 ^ 31) : vp_in (nI j) n := nI_in h hn
set_option maxHeartbeats 4000000 in
theorem c_Lcell (l : Launch) {D : va_G} {dA : Nat → ClassId} {b0 : Nat} {G : gG} {b LL : Nat} {xs : Nat → Int32} {j : Nat} (hj : j < 2 ^ 31) (hLL : LL ≤ 260) :
    Met l yL_cell (gWs yL_cell cL_cell 2 (some .int)) (gRm 0 0 0) (va_Pc [.ref b, .int (nI j)] (fun U => (va_X b LL xs U U.heap ∧ b < b0) ∧ gH D dA b0 G U.heap ∧ b0 ≤ U.heap.size)) (gQ D dA b0 (fun v G' => (∃ w, v = some (.int w)) ∧ G = G')) 0 0 (gB b0) := by
  refine Met.ofW (cc := cL_cell) (maxL := 2) (ret := some .int) (by decide +kernel) rfl ?_
  intro p e s m args below meth c s₁ B hml hv
  obtain ⟨rfl, ⟨hX, hbl⟩, hG, hb0⟩ := hv
  have hx := B.exec
  have hb := B.bytes
  have hr := B.returns
  have hlk := B.notSynchronized
  have hts := atoms_spec (ws := gWs yL_cell cL_cell 2 (some .int)) B.pre
  have hown : s.vm.findClass RL = some m.cls := findClass_of_methodNamed B.named
  have hS : va_S (gB b0) s.heap s.heap [] := va_S.rf
  have hbA : ¬ gB b0 b := Nat.not_le.mpr hbl
  have hbl2 : b < s.heap.size := Nat.lt_of_lt_of_le hbl hb0
  have hl := lv_entry [.ref b, .int (nI j)] (n := 2) (Nat.le_of_ble_eq_true rfl)
  rw [lg_entry_eq]
  generalize (lg_sl [.ref b, .int (nI j)] ++ List.replicate (2 - (lg_sl [.ref b, .int (nI j)]).length) Slot.unset).toArray = ls at hl ⊢
  have k0 : ls[0]? = some (Slot.val (.ref b)) := hl.2.2 (0, .ref b) List.mem_cons_self
  have k1 : ls[1]? = some (Slot.val (.int (nI j))) := hl.2.2 (1, .int (nI j)) (List.mem_cons_of_mem _ List.mem_cons_self)
  have fin : ∀ w : Int32, W p l e (headSpec (gWs yL_cell cL_cell 2 (some .int)) (gRm 0 0 0)).room s m [Value.ref b, .int (nI j)].toArray below meth c s.heap [] 0 0 (MQ below (gQ D dA b0 (fun v G' => (∃ w, v = some (.int w)) ∧ G = G')) [Value.ref b, .int (nI j)].toArray s 0 0 (gB b0)) (F0 m 18 ls [.int w]) := fun w =>
    W.iret hx hb hr (fun t ht hW => ⟨⟨_, G, rfl, ⟨⟨w, rfl⟩, rfl⟩, by rw [ht]; exact hG⟩, hS.F ht⟩) hS.2.2 dL_cell_18 hlk
  refine lv_iload_n hx hb dL_cell_0 rfl k1 ?_
  refine lv_aload_n hx hb dL_cell_1 rfl k0 ?_
  refine va_slen (A := gB b0) hx hb hX hbl2 hbA hS dL_cell_2 ?_
  refine lv_icmp_ge (tgt := 12) hx hb dL_cell_3 (by decide) (fun h => ?_) (fun h => ?_)
  · refine lv_ldc hx hb hown (hts _ (List.mem_cons_of_mem _ kc_L_8)) dL_cell_12 ?_
    refine lv_iload_n hx hb dL_cell_14 rfl k1 ?_
    refine lv_iconst (v := 3) hx hb dL_cell_15 (by decide) ?_
    refine lv_iadd hx hb dL_cell_16 ?_
    refine lv_imul hx hb dL_cell_17 ?_
    exact fin _
  · have hlt : j < LL := by
      rcases Nat.lt_or_ge j LL with q | q
      · exact q
      · exact absurd (nI_le q hj) h
    refine lv_aload_n hx hb dL_cell_6 rfl k0 ?_
    refine lv_iload_n hx hb dL_cell_7 rfl k1 ?_
    refine va_sld (A := gB b0) hx hb hX hbl2 hbA hS (vp_at hlt (by omega)) dL_cell_8 ?_
    refine lv_goto (tgt := 18) hx hb dL_cell_9 (by decide) ?_
    exact fin _
def lCx (p : Program) (l : Launch) (s : State) (m : MethodId) (meth : Method) (c : Code) (b LL : Nat) (xs : Nat → Int32) (D : va_G) (dA : Nat → ClassId) : Prop :=
  lw_At p s m meth c b LL xs ∧ gA D dA s.heap.size s s.heap ∧ l.flags = flags0
/-- the law stands at pc with the ghost G, and comes to its end with 1 -/
def GL (b LL : Nat) (xs : Nat → Int32) (G : gG) (k n pc : Nat) (L : List (Option Value)) (st : List Value) : Prop :=
  ∀ (p : Program) (l : Launch) (e : Env) (s : State) (m : MethodId) (below : List Frame) (meth : Method) (c : Code) (D : va_G) (dA : Nat → ClassId), lCx p l s m meth c b LL xs D dA →
    ∀ (H : Heap) (locs : List Loc) (ls : Array Slot), gH D dA s.heap.size G H → va_S (gB s.heap.size) s.heap H locs → gHas ls 5 L →
      W p l e room_1 s m #[Value.ref b] below meth c H locs k n (lw_Z below #[Value.ref b] s) (F0 m pc ls st)
section GLR
variable {b LL : Nat} {xs : Nat → Int32} {G : gG} {k n pc : Nat} {L : List (Option Value)} {st : List Value}
theorem GL.pure {pc' : Nat} {st' : List Value}
    (h : ∀ (p : Program) (l : Launch) (e : Env) (s : State) (m : MethodId) (below : List Frame) (meth : Method) (c : Code) (H : Heap) (locs : List Loc) (ls : Array Slot) (QQ : State → Prop), p.tables.exec = Jvm.exec → c.code = code → gHas ls 5 L → W p l e room_1 s m #[Value.ref b] below meth c H locs k n QQ (F0 m pc' ls st') → W p l e room_1 s m #[Value.ref b] below meth c H locs k n QQ (F0 m pc ls st))
    (g : GL b LL xs G k n pc' L st') : GL b LL xs G k n pc L st := by
  intro p l e s m below meth c D dA hX H locs ls hG hS hL
  exact h p l e s m below meth c H locs ls _ hX.1.1 hX.1.2.1 hL (g p l e s m below meth c D dA hX H locs ls hG hS hL)
theorem GL.wid {k' n' : Nat} (hk : k ≤ k') (hn : n ≤ n') (g : GL b LL xs G k' n' pc L st) : GL b LL xs G k n pc L st := by
  intro p l e s m below meth c D dA hX H locs ls hG hS hL
  exact W.widen hk hn (g p l e s m below meth c D dA hX H locs ls hG hS hL)
theorem GL.weak {L' : List (Option Value)} (hs : ∀ (i : Nat) (v : Value), L'[i]? = some (some v) → L[i]? = some (some v)) (g : GL b LL xs G k n pc L' st) : GL b LL xs G k n pc L st :=
  fun p l e s m below meth c D dA hX H locs ls hG hS hL => g p l e s m below meth c D dA hX H locs ls hG hS (hL.weak hs)
theorem GL.drop (i : Nat) (g : GL b LL xs G k n pc (L.set i none) st) : GL b LL xs G k n pc L st := g.weak fun j v hj => by
  rw [List.getElem?_set] at hj
  split at hj
  · split at hj <;> cases hj
  · exact hj
theorem GL.iconst {z : Int} {v : Int32} (hd : decode code pc = .ok (.iconst z, 1)) (hv : Int32.ofInt z = v) (g : GL b LL xs G k n (pc + 1) L (.int v :: st)) : GL b LL xs G k n pc L st :=
  g.pure fun p l e s m below meth c H locs ls QQ hx hb hL kk => lv_iconst hx hb hd hv kk
theorem GL.bipush {z : Int} {v : Int32} (hd : decode code pc = .ok (.bipush z, 2)) (hv : (Int8.ofInt z).toInt32 = v) (g : GL b LL xs G k n (pc + 2) L (.int v :: st)) : GL b LL xs G k n pc L st :=
  g.pure fun p l e s m below meth c H locs ls QQ hx hb hL kk => lv_bipush hx hb hd hv kk
theorem GL.dup {v : Value} (hd : decode code pc = .ok (.dup, 1)) (hv : v.category = 1) (g : GL b LL xs G k n (pc + 1) L (v :: v :: st)) : GL b LL xs G k n pc L (v :: st) :=
  g.pure fun p l e s m below meth c H locs ls QQ hx hb hL kk => lv_dup hx hb hd hv kk
theorem GL.irem {x y : Int32} (hd : decode code pc = .ok (.irem, 1)) (hne : ¬ y = 0) (g : GL b LL xs G k n (pc + 1) L (.int (x - x / y * y) :: st)) : GL b LL xs G k n pc L (.int y :: .int x :: st) :=
  g.pure fun p l e s m below meth c H locs ls QQ hx hb hL kk => lv_irem hx hb hd hne kk
theorem GL.idiv {x y : Int32} (hd : decode code pc = .ok (.idiv, 1)) (hne : ¬ y = 0) (g : GL b LL xs G k n (pc + 1) L (.int (x / y) :: st)) : GL b LL xs G k n pc L (.int y :: .int x :: st) :=
  g.pure fun p l e s m below meth c H locs ls QQ hx hb hL kk => lv_idiv hx hb hd hne kk
theorem GL.imul {x y : Int32} (hd : decode code pc = .ok (.imul, 1)) (g : GL b LL xs G k n (pc + 1) L (.int (x * y) :: st)) : GL b LL xs G k n pc L (.int y :: .int x :: st) :=
  g.pure fun p l e s m below meth c H locs ls QQ hx hb hL kk => lv_imul hx hb hd kk
theorem GL.ishr {x y : Int32} (hd : decode code pc = .ok (.ishr, 1)) (g : GL b LL xs G k n (pc + 1) L (.int (x >>> (y &&& 31)) :: st)) : GL b LL xs G k n pc L (.int y :: .int x :: st) :=
  g.pure fun p l e s m below meth c H locs ls QQ hx hb hL kk => lv_ishr hx hb hd kk
theorem GL.lcmp {x y : Int64} (hd : decode code pc = .ok (.lcmp, 1)) (g : GL b LL xs G k n (pc + 1) L (.int (lg_cmp x y) :: st)) : GL b LL xs G k n pc L (.long y :: .long x :: st) :=
  g.pure fun p l e s m below meth c H locs ls QQ hx hb hL kk => W.lcmp hx hb hd kk
theorem GL.goto {off : Int} {tgt : Nat} (hd : decode code pc = .ok (.goto off, 3)) (ht : (pc : Int) + off = (tgt : Int)) (g : GL b LL xs G k n tgt L st) : GL b LL xs G k n pc L st :=
  g.pure fun p l e s m below meth c H locs ls QQ hx hb hL kk => lv_goto hx hb hd ht kk
theorem GL.if_ne {x : Int32} {off : Int} {tgt : Nat} (hd : decode code pc = .ok (.ifCond .ne off, 3)) (ht : (pc : Int) + off = (tgt : Int)) (gt : ¬ x = 0 → GL b LL xs G k n tgt L st) (gf : x = 0 → GL b LL xs G k n (pc + 3) L st) : GL b LL xs G k n pc L (.int x :: st) :=
  fun p l e s m below meth c D dA hX H locs ls hG hS hL => lv_if_ne hX.1.1 hX.1.2.1 hd ht (fun q => gt q p l e s m below meth c D dA hX H locs ls hG hS hL) (fun q => gf q p l e s m below meth c D dA hX H locs ls hG hS hL)
theorem GL.if_eq {x : Int32} {off : Int} {tgt : Nat} (hd : decode code pc = .ok (.ifCond .eq off, 3)) (ht : (pc : Int) + off = (tgt : Int)) (gt : x = 0 → GL b LL xs G k n tgt L st) (gf : ¬ x = 0 → GL b LL xs G k n (pc + 3) L st) : GL b LL xs G k n pc L (.int x :: st) :=
  fun p l e s m below meth c D dA hX H locs ls hG hS hL => lv_if_eq hX.1.1 hX.1.2.1 hd ht (fun q => gt q p l e s m below meth c D dA hX H locs ls hG hS hL) (fun q => gf q p l e s m below meth c D dA hX H locs ls hG hS hL)
theorem GL.icmp_ge {x y : Int32} {off : Int} {tgt : Nat} (hd : decode code pc = .ok (.if_icmp .ge off, 3)) (ht : (pc : Int) + off = (tgt : Int)) (gt : y ≤ x → GL b LL xs G k n tgt L st) (gf : ¬ y ≤ x → GL b LL xs G k n (pc + 3) L st) : GL b LL xs G k n pc L (.int y :: .int x :: st) :=
  fun p l e s m below meth c D dA hX H locs ls hG hS hL => lv_icmp_ge hX.1.1 hX.1.2.1 hd ht (fun q => gt q p l e s m below meth c D dA hX H locs ls hG hS hL) (fun q => gf q p l e s m below meth c D dA hX H locs ls hG hS hL)
theorem GL.icmp_eq {x y : Int32} {off : Int} {tgt : Nat} (hd : decode code pc = .ok (.if_icmp .eq off, 3)) (ht : (pc : Int) + off = (tgt : Int)) (gt : x = y → GL b LL xs G k n tgt L st) (gf : ¬ x = y → GL b LL xs G k n (pc + 3) L st) : GL b LL xs G k n pc L (.int y :: .int x :: st) :=
  fun p l e s m below meth c D dA hX H locs ls hG hS hL => lv_icmp_eq hX.1.1 hX.1.2.1 hd ht (fun q => gt q p l e s m below meth c D dA hX H locs ls hG hS hL) (fun q => gf q p l e s m below meth c D dA hX H locs ls hG hS hL)
theorem GL.ret (hd : decode code pc = .ok (.ireturn, 1)) (hk : k ≤ 888401) (hn : n ≤ 6436494) : GL b LL xs G k n pc L [.int 1] := by
  intro p l e s m below meth c D dA hX H locs ls hG hS hL
  obtain ⟨hx, hb, hr, hml, hown, hts, hXs, hbl, hlocks, hgv⟩ := hX.1
  exact W.widen hk hn (va_forget (fun q hq => hS.2.2 q hq) (lw_ret hx hb hr hlocks hd))
variable {a0 a1 a2 a3 a4 a5 a6 a7 a8 a9 a10 a11 : Option Value}
theorem GL.aload0 {a : Nat} (hd : decode code pc = .ok (.aload_n 0, 1)) (g : GL b LL xs G k n (pc + 1) [some (.ref a), a1, a2, a3, a4, a5, a6, a7, a8, a9, a10, a11] (.ref a :: st)) : GL b LL xs G k n pc [some (.ref a), a1, a2, a3, a4, a5, a6, a7, a8, a9, a10, a11] st :=
  g.pure fun p l e s m below meth c H locs ls QQ hx hb hL kk => lv_aload_n hx hb hd rfl (hL.2.2 0 _ rfl) kk
theorem GL.aload1 {a : Nat} (hd : decode code pc = .ok (.aload_n 1, 1)) (g : GL b LL xs G k n (pc + 1) [a0, some (.ref a), a2, a3, a4, a5, a6, a7, a8, a9, a10, a11] (.ref a :: st)) : GL b LL xs G k n pc [a0, some (.ref a), a2, a3, a4, a5, a6, a7, a8, a9, a10, a11] st :=
  g.pure fun p l e s m below meth c H locs ls QQ hx hb hL kk => lv_aload_n hx hb hd rfl (hL.2.2 1 _ rfl) kk
theorem GL.iload2 {x : Int32} (hd : decode code pc = .ok (.iload_n 2, 1)) (g : GL b LL xs G k n (pc + 1) [a0, a1, some (.int x), a3, a4, a5, a6, a7, a8, a9, a10, a11] (.int x :: st)) : GL b LL xs G k n pc [a0, a1, some (.int x), a3, a4, a5, a6, a7, a8, a9, a10, a11] st :=
  g.pure fun p l e s m below meth c H locs ls QQ hx hb hL kk => lv_iload_n hx hb hd rfl (hL.2.2 2 _ rfl) kk
theorem GL.lload3 {x : Int64} (hd : decode code pc = .ok (.lload_n 3, 1)) (g : GL b LL xs G k n (pc + 1) [a0, a1, a2, some (.long x), a4, a5, a6, a7, a8, a9, a10, a11] (.long x :: st)) : GL b LL xs G k n pc [a0, a1, a2, some (.long x), a4, a5, a6, a7, a8, a9, a10, a11] st :=
  g.pure fun p l e s m below meth c H locs ls QQ hx hb hL kk => lv_lload_n hx hb hd rfl (hL.2.2 3 _ rfl) kk
theorem GL.astore1 {a r : Nat} (hd : decode code pc = .ok (.astore_n 1, 1)) (g : GL b LL xs G k n (pc + 1) [some (.ref r), some (.ref a), a2, a3, a4, a5, a6, a7, a8, a9, a10, a11] st) : GL b LL xs G k n pc [some (.ref r), a1, a2, a3, a4, a5, a6, a7, a8, a9, a10, a11] (.ref a :: st) := by
  intro p l e s m below meth c D dA hX H locs ls hG hS hL T hT XX
  obtain ⟨ls', e1, h1⟩ := gHas.store1 (i := 1) (v := .ref a) hL (by decide) rfl (fun j w hj hw => by cases (show j = 0 by omega); cases hw; show ¬ ((1 : Nat) = 2); decide)
  obtain ⟨t, q1, q2⟩ := g p l e s m below meth c D dA hX H locs ls' hG hS h1 T hT XX
  refine ⟨t, ?_, q2⟩
  jvm_step XX.here [XX.here.top, ↓top_set XX.here.top, hX.1.1, hX.1.2.1, hd, e1, Value.isRef]
  exact q1
theorem GL.istore2 {x : Int32} {a : Nat} (hd : decode code pc = .ok (.istore_n 2, 1)) (g : GL b LL xs G k n (pc + 1) [a0, some (.ref a), some (.int x), a3, a4, a5, a6, a7, a8, a9, a10, a11] st) : GL b LL xs G k n pc [a0, some (.ref a), a2, a3, a4, a5, a6, a7, a8, a9, a10, a11] (.int x :: st) := by
  intro p l e s m below meth c D dA hX H locs ls hG hS hL T hT XX
  obtain ⟨ls', e1, h1⟩ := gHas.store1 (i := 2) (v := .int x) hL (by decide) rfl (fun j w hj hw => by cases (show j = 1 by omega); cases hw; show ¬ ((1 : Nat) = 2); decide)
  obtain ⟨t, q1, q2⟩ := g p l e s m below meth c D dA hX H locs ls' hG hS h1 T hT XX
  refine ⟨t, ?_, q2⟩
  jvm_step XX.here [XX.here.top, ↓top_set XX.here.top, hX.1.1, hX.1.2.1, hd, e1]
  exact q1
theorem GL.lstore3 {x : Int64} {i : Int32} (hd : decode code pc = .ok (.lstore_n 3, 1)) (g : GL b LL xs G k n (pc + 1) [a0, a1, some (.int i), some (.long x), none, a5, a6, a7, a8, a9, a10, a11] st) : GL b LL xs G k n pc [a0, a1, some (.int i), a3, a4, a5, a6, a7, a8, a9, a10, a11] (.long x :: st) := by
  intro p l e s m below meth c D dA hX H locs ls hG hS hL T hT XX
  obtain ⟨ls', e1, h1⟩ := gHas.store2 (i := 3) (v := .long x) hL (by decide) rfl (fun j w hj hw => by cases (show j = 2 by omega); cases hw; show ¬ ((1 : Nat) = 2); decide)
  obtain ⟨t, q1, q2⟩ := g p l e s m below meth c D dA hX H locs ls' hG hS h1 T hT XX
  refine ⟨t, ?_, q2⟩
  jvm_step XX.here [XX.here.top, ↓top_set XX.here.top, hX.1.1, hX.1.2.1, hd, e1]
  exact q1
theorem GL.iinc2 {z : Int} {x v : Int32} {a : Nat} (hd : decode code pc = .ok (.iinc 2 z, 3)) (hv : x + Int32.ofInt z = v) (g : GL b LL xs G k n (pc + 3) [a0, some (.ref a), some (.int v), a3, a4, a5, a6, a7, a8, a9, a10, a11] st) : GL b LL xs G k n pc [a0, some (.ref a), some (.int x), a3, a4, a5, a6, a7, a8, a9, a10, a11] st := by
  subst hv
  intro p l e s m below meth c D dA hX H locs ls hG hS hL T hT XX
  obtain ⟨ls', e1, h1⟩ := gHas.store1 (i := 2) (v := .int (x + Int32.ofInt z)) hL (by decide) rfl (fun j w hj hw => by cases (show j = 1 by omega); cases hw; show ¬ ((1 : Nat) = 2); decide)
  have hx := hL.2.2 2 (.int x) rfl
  obtain ⟨t, q1, q2⟩ := g p l e s m below meth c D dA hX H locs ls' hG hS h1 T hT XX
  refine ⟨t, ?_, q2⟩
  jvm_step XX.here [XX.here.top, ↓top_set XX.here.top, hX.1.1, hX.1.2.1, hd, hx, e1]
  exact q1
theorem GL.inc2 {x : Int32} {a : Nat} (hd : decode code pc = .ok (.iinc 2 1, 3)) (g : GL b LL xs G k n (pc + 3) [a0, some (.ref a), some (.int (x + 1)), a3, a4, a5, a6, a7, a8, a9, a10, a11] st) : GL b LL xs G k n pc [a0, some (.ref a), some (.int x), a3, a4, a5, a6, a7, a8, a9, a10, a11] st := GL.iinc2 hd (i32_inc x) g
theorem GL.newo {idx ci N : Nat} {C : String} {T : u_T} {ty : Nat → FieldType} (hf : gNw RL idx ci C T N ty) (r : Nat) (fs : List Value) (hd : decode code pc = .ok (.new idx, 3)) (hr : G.2.2 r = none) (hfs : ∀ j, j < N → defaultValue (ty j) = vp_V fs j) (hk : k + 1 ≤ 888401) (hn : n + N ≤ 6436494) (g : ∀ a, GL b LL xs (gN G r a (.inl (ci, fs))) (k + 1) (n + N) (pc + 3) L (.ref a :: st)) : GL b LL xs G k n pc L st := by
  intro p l e s m below meth c D dA hX H locs ls hG hS hL
  obtain ⟨⟨hc, hin, hty, hnm⟩, hcl, hinst, hini⟩ := hf
  obtain ⟨hx, hb, -, -, hown, hts0, -⟩ := id hX.1
  have hts : ∀ w ∈ gW, w.before #[Value.ref b] s = true := fun w hw => hts0 w (gW_tbl hw)
  have hown : s.vm.findClass RL = some m.cls := hown
  have hKn := hX.2.1.1.1 ci _ hc
  refine W.newcK hx hb hown (hts _ hcl) (hts _ hinst) (hts _ hini) rfl hd hk hn hKn.2.1 rfl fun H1 kC hkC e1 z1 o1 => ?_
  exact g H.size p l e s m below meth c D dA hX H1 locs ls (hG.new hr hS.1 ⟨_, hc, (u_born ty hts hin hKn hkC e1 hty).to hfs⟩ o1) ⟨Nat.le_trans hS.1 (by omega), fun x h1 h2 => (o1 x (Nat.lt_of_lt_of_le h1 hS.1)).trans (hS.2.1 x h1 h2), hS.2.2⟩ hL
theorem lPre {p : Program} {l : Launch} {s : State} {m : MethodId} {meth : Method} {c : Code} {D : va_G} {dA : Nat → ClassId} {H : Heap} {locs : List Loc} {As : List Value}
    (hX : lCx p l s m meth c b LL xs D dA) (hG : gH D dA s.heap.size G H) (hS : va_S (gB s.heap.size) s.heap H locs) (U : State) (hU : U.heap = H) (hW : s.WarmedH U.vm) : va_Pc As (fun U => gA D dA s.heap.size U U.heap ∧ gH D dA s.heap.size G U.heap ∧ s.heap.size ≤ U.heap.size) As.toArray U := by
  refine ⟨rfl, ?_, by rw [hU]; exact hG, by rw [hU]; exact hS.1⟩
  rw [hU]
  exact (hX.2.1.kept hS.2.1).warm hW
variable {y : MethodName} {cc : ByteArray} {mL N : Nat} {ret : Option FieldType} {d kc ks : Nat} {As rest : List Value} {Qc : Option Value → gG → Prop} {idx : Nat}
theorem GL.callV {a ci : Nat} {fs : List Value} {C : String} {T : u_T} {NN : Nat} (hs : gCv RL idx y) (hm : gMt y cc mL ret N) (hc : Ctr y cc mL ret d kc ks (.ref a :: As) G Qc noX) (hd : decode code pc = .ok (.invokevirtual idx, 3)) (hr : gL G a (.inl (ci, fs))) (hcl : vwCl[ci]? = some (C, T, NN)) (hC : y.cls = C) (hst : st = As.reverse ++ .ref a :: rest) (hN : As.length = N) (hdp : d ≤ 100) (hmL : mL ≤ 60) (hk : k + kc ≤ 888401) (hn : n + ks ≤ 6436494) (hcat : (rest.map fun v => v.category).sum ≤ 8)
    (kk : ∀ v G', Qc v G' → GL b LL xs G' (k + kc) (n + ks) (pc + 3) L (v.toList ++ rest)) : GL b LL xs G k n pc L st := by
  subst hst
  intro p l e s m below meth c D dA hX H locs ls hG hS hL
  obtain ⟨hx, hb, -, hml, hown, hts0, -⟩ := id hX.1
  have hts : ∀ w ∈ gW, w.before #[Value.ref b] s = true := fun w hw => hts0 w (gW_tbl hw)
  have hown : s.vm.findClass RL = some m.cls := hown
  have hrecv : ∃ cellB : Cell, H[a]? = some cellB ∧ cellB.vm.isStatics = false ∧ s.vm.findClass y.cls = some cellB.cls := by
    have := va_recv (q := (C, T, NN)) hX.2.1.1 (hG.one hr) hcl (q0 := 0) rfl
    rw [hC]; exact this
  have hcw : CallW room_1 s #[Value.ref b] RL y.cls idx y cc mL ret (gWs y cc mL ret) (gRm d kc ks) kc ks N :=
    cwV (C := y.cls) N hts (gW_good fun w hw => by
      rcases List.mem_append.mp hw with h | h
      · simp only [List.mem_cons, List.not_mem_nil, or_false] at h
        rcases h with rfl | rfl | rfl | rfl
        · exact hs.1
        · exact hs.2.1
        · exact hs.2.2
        · exact hm.2.1
      · rcases List.mem_cons.mp h with rfl | h
        · exact hm.1
        · exact h) rfl rfl rfl ⟨rfl, hm.2.2.1.1, hm.2.2.1.2, hm.2.2.2⟩ ⟨by show d + 1 ≤ 2048; omega, by show 8 + (mL + 11) + 100 * d ≤ 84000; omega⟩
  exact gRunM (va_runV (g := F0 m pc ls (As.reverse ++ .ref a :: rest)) (rest := rest) ⟨hx, hb, hml, hown, hts⟩ (hc.met (fun _ _ h => h) l D dA s.heap.size hX.2.2) hcw ⟨Ctr.blind, hrecv, lPre hX hG hS⟩ rfl hN hL.1 rfl (lv_room hcat) hd ⟨hk, hn⟩) hS (fun v G' H1 locs1 hq hG1 hS1 => kk v G' hq p l e s m below meth c D dA hX H1 locs1 ls hG1 hS1 hL)
theorem GL.callI {a : Nat} (hs : gCi RL idx y) (hm : gMt y cc mL none N) (hc : Ctr y cc mL none d kc ks (.ref a :: As) G Qc noX) (hd : decode code pc = .ok (.invokespecial idx, 3)) (hst : st = As.reverse ++ .ref a :: rest) (hN : As.length = N) (hdp : d ≤ 100) (hmL : mL ≤ 60) (hk : k + kc ≤ 888401) (hn : n + ks ≤ 6436494) (hcat : (rest.map fun v => v.category).sum ≤ 8)
    (kk : ∀ v G', Qc v G' → GL b LL xs G' (k + kc) (n + ks) (pc + 3) L (v.toList ++ rest)) : GL b LL xs G k n pc L st := by
  subst hst
  intro p l e s m below meth c D dA hX H locs ls hG hS hL
  obtain ⟨hx, hb, -, hml, hown, hts0, -⟩ := id hX.1
  have hts : ∀ w ∈ gW, w.before #[Value.ref b] s = true := fun w hw => hts0 w (gW_tbl hw)
  have hown : s.vm.findClass RL = some m.cls := hown
  have hcw := cwI (R := room_1) (own := RL) (index := idx) (y := y) (bytes := cc) (maxL := mL) (ws := gWs y cc mL none) (rm := gRm d kc ks) (mc := kc) (ms := ks) N hts (gW_good fun w hw => by
      rcases List.mem_cons.mp hw with rfl | h
      · exact hm.1
      · exact h) rfl rfl rfl (hts _ hm.2.1) (hts _ hs.1) (hts _ hs.2.1) hs.2.2 ⟨hm.2.2.1.1, hm.2.2.1.2, hm.2.2.2⟩ ⟨by show d + 1 ≤ 2048; omega, by show 8 + (mL + 11) + 100 * d ≤ 84000; omega⟩
  exact gRunM (va_runI (g := F0 m pc ls (As.reverse ++ .ref a :: rest)) (rest := rest) (b := a) ⟨hx, hb, hml, hown, hts⟩ (hc.met (fun _ _ h => h) l D dA s.heap.size hX.2.2) hcw ⟨Ctr.blind, lPre hX hG hS⟩ rfl hN hL.1 rfl (lv_room hcat) hd ⟨hk, hn⟩) hS (fun v G' H1 locs1 hq hG1 hS1 => kk v G' hq p l e s m below meth c D dA hX H1 locs1 ls hG1 hS1 hL)
theorem lcwS {s : State} (hts : ∀ w ∈ gW, w.before #[Value.ref b] s = true) (hs : gCs RL idx y) (hm : gMt y cc mL ret N) (hdp : d ≤ 100) (hmL : mL ≤ 60) : CallB room_1 s #[Value.ref b] RL idx y cc mL ret (gWs y cc mL ret) (gRm d kc ks) kc ks N ∧ (Cond.static y).before #[Value.ref b] s = true :=
  va_cwS N hts (gW_good fun w hw => by
    rcases List.mem_append.mp hw with h | h
    · simp only [List.mem_cons, List.not_mem_nil, or_false] at h
      rcases h with rfl | rfl | rfl
      · exact hs.1
      · exact hs.2
      · exact hm.2.1
    · rcases List.mem_cons.mp h with rfl | h
      · exact hm.1
      · exact h) rfl rfl rfl ⟨hm.2.2.1.1, hm.2.2.1.2, hm.2.2.2⟩ ⟨by show d + 1 ≤ 2048; omega, by show 8 + (mL + 11) + 100 * d ≤ 84000; omega⟩
theorem GL.callS (hs : gCs RL idx y) (hm : gMt y cc mL ret N) (hc : Ctr y cc mL ret d kc ks As G Qc noX) (hd : decode code pc = .ok (.invokestatic idx, 3)) (hst : st = As.reverse ++ rest) (hN : As.length = N) (hdp : d ≤ 100) (hmL : mL ≤ 60) (hk : k + kc ≤ 888401) (hn : n + ks ≤ 6436494) (hcat : (rest.map fun v => v.category).sum ≤ 8)
    (kk : ∀ v G', Qc v G' → GL b LL xs G' (k + kc) (n + ks) (pc + 3) L (v.toList ++ rest)) : GL b LL xs G k n pc L st := by
  subst hst
  intro p l e s m below meth c D dA hX H locs ls hG hS hL
  obtain ⟨hx, hb, -, hml, hown, hts0, -⟩ := id hX.1
  have hts : ∀ w ∈ gW, w.before #[Value.ref b] s = true := fun w hw => hts0 w (gW_tbl hw)
  have hown : s.vm.findClass RL = some m.cls := hown
  exact gRunM (va_runS (g := F0 m pc ls (As.reverse ++ rest)) (rest := rest) ⟨hx, hb, hml, hown, hts⟩ (hc.met (fun _ _ h => h) l D dA s.heap.size hX.2.2) (lcwS hts hs hm hdp hmL) ⟨Ctr.blind, lPre hX hG hS⟩ rfl hN hL.1 rfl (lv_room hcat) hd ⟨hk, hn⟩) hS (fun v G' H1 locs1 hq hG1 hS1 => kk v G' hq p l e s m below meth c D dA hX H1 locs1 ls hG1 hS1 hL)
theorem GL.cell {j : Nat} (hj : j < 2 ^ 31) (hLL : LL ≤ 260) (hd : decode code pc = .ok (.invokestatic 12, 3)) (hst : st = .int (nI j) :: .ref b :: rest) (hk : k ≤ 888401) (hn : n ≤ 6436494) (hcat : (rest.map fun v => v.category).sum ≤ 8)
    (kk : ∀ w : Int32, GL b LL xs G k n (pc + 3) L (.int w :: rest)) : GL b LL xs G k n pc L st := by
  subst hst
  intro p l e s m below meth c D dA hX H locs ls hG hS hL
  obtain ⟨hx, hb, -, hml, hown, hts0, hXs, hbl, -⟩ := id hX.1
  have hts : ∀ w ∈ gW, w.before #[Value.ref b] s = true := fun w hw => hts0 w (gW_tbl hw)
  have hown : s.vm.findClass RL = some m.cls := hown
  have hbA : ¬ gB s.heap.size b := Nat.not_le.mpr hbl
  refine gRunM (Qc := fun v G' => (∃ w, v = some (.int w)) ∧ G = G') (va_runS (g := F0 m pc ls (.int (nI j) :: .ref b :: rest)) (As := [.ref b, .int (nI j)]) (rest := rest) ⟨hx, hb, hml, hown, hts⟩ (c_Lcell l (D := D) (dA := dA) (b0 := s.heap.size) (G := G) (b := b) (LL := LL) (xs := xs) hj hLL) (lcwS hts cs_L_12 mt_L_cell (by decide) (by decide)) ⟨fun a U g mk h => ⟨h.1, ⟨va_X.moved (u := U) (U := U.calling g mk a) (Vm.Alike.refl U.vm) h.2.1.1, h.2.1.2⟩, h.2.2⟩, fun U hU hW => ⟨rfl, ⟨by rw [hU]; exact (hXs.kept (hS.2.1 b hbl hbA)).moved hW.alike, hbl⟩, by rw [hU]; exact hG, by rw [hU]; exact hS.1⟩⟩ rfl rfl hL.1 rfl (lv_room hcat) hd ⟨hk, hn⟩) hS (fun v G' H1 locs1 hq hG1 hS1 => ?_)
  obtain ⟨⟨w, rfl⟩, rfl⟩ := hq
  exact kk w p l e s m below meth c D dA hX H1 locs1 ls hG1 hS1 hL
theorem CtrH.met {hh : List (Nat × Nat × Nat × Nat)} {as : List Value} (h : CtrH y cc mL ret hh d kc ks as G Qc noX) (l : Launch) (D : va_G) (dA : Nat → ClassId) (b0 : Nat) (hfl : l.flags = flags0) :
    Met l y (Cond.codeWith y cc mL ret hh :: gW) (gRm d kc ks) (va_Pc as (fun U => gA D dA b0 U U.heap ∧ gH D dA b0 G U.heap ∧ b0 ≤ U.heap.size)) (gQ D dA b0 Qc) kc ks (gB b0) := by
  intro p e ha hc hk s m args below hf happ hP hK
  obtain ⟨t, o, h1, h2, h3, h4⟩ := h l D dA b0 hfl p e ha hc hk s m args below hf happ hP hK
  refine ⟨t, o, h1, h2, h3, ?_⟩
  rcases h4 with h4 | ⟨q, e1, E, ce, L1, ⟨⟨G', q1, q2⟩, f⟩, r⟩
  · exact h4
  · exact q1.elim
theorem aw_actG : Cond.codeWith yL_act cL_act 12 (some .boolean) actT ∈ gW := gW_in 658 (by decide +kernel) (by decide +kernel)
theorem GL.act (hc : kL_act d kc ks As G Qc noX) (hd : decode code pc = .ok (.invokestatic 18, 3)) (hst : st = As.reverse ++ rest) (hN : As.length = 2) (hdp : d ≤ 100) (hk : k + kc ≤ 888401) (hn : n + ks ≤ 6436494) (hcat : (rest.map fun v => v.category).sum ≤ 8)
    (kk : ∀ v G', Qc v G' → GL b LL xs G' (k + kc) (n + ks) (pc + 3) L (v.toList ++ rest)) : GL b LL xs G k n pc L st := by
  subst hst
  intro p l e s m below meth c D dA hX H locs ls hG hS hL
  obtain ⟨hx, hb, -, hml, hown, hts0, -⟩ := id hX.1
  have hts : ∀ w ∈ gW, w.before #[Value.ref b] s = true := fun w hw => hts0 w (gW_tbl hw)
  have hown : s.vm.findClass RL = some m.cls := hown
  have hcw : vx_CSW room_1 s #[Value.ref b] RL 18 yL_act cL_act 12 (some .boolean) actT (Cond.codeWith yL_act cL_act 12 (some .boolean) actT :: gW) (gRm d kc ks) kc ks 2 :=
    vx_cwSW 2 hts (gW_good fun w hw => by
      rcases List.mem_append.mp hw with h | h
      · simp only [List.mem_cons, List.not_mem_nil, or_false] at h
        rcases h with rfl | rfl | rfl
        · exact cs_L_18.1
        · exact cs_L_18.2
        · exact mt_L_below.2.1
      · rcases List.mem_cons.mp h with rfl | h
        · exact aw_actG
        · exact h) rfl rfl rfl ⟨by decide +kernel, by decide +kernel, by decide +kernel⟩ ⟨by show d + 1 ≤ 2048; omega, by show 8 + (12 + 11) + 100 * d ≤ 84000; omega⟩
  exact gRunM (vx_runSW (g := F0 m pc ls (As.reverse ++ rest)) (rest := rest) ⟨hx, hb, hml, hown, hts⟩ (CtrH.met hc l D dA s.heap.size hX.2.2) hcw ⟨Ctr.blind, lPre hX hG hS⟩ rfl hN hL.1 rfl (lv_room hcat) hd ⟨hk, hn⟩) hS (fun v G' H1 locs1 hq hG1 hS1 => kk v G' hq p l e s m below meth c D dA hX H1 locs1 ls hG1 hS1 hL)
end GLR
