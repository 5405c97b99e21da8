/-! THE LAW, from its entry to its end -/
section LAWW
variable {b LL : Nat} {xs : Nat → Int32}
theorem e34 {i d : Nat} (hi : i < 2 ^ 31) (h0 : 0 < d) (hd : d < 2 ^ 31) : nI i - nI i / nI d * nI d = nI (i % d) := pk_rem hi h0 hd
set_option maxHeartbeats 4000000 in
theorem law_loop (hLL : LL ≤ 260) {ad : Nat → Nat} : ∀ (m i : Nat) (G : gG), i + m = 60 → stOk ad G → GL b LL xs G (200 + 3300 * i) (4000 + 44000 * i) 10 [some (.ref b), some (.ref (ad 0)), some (.int (nI i)), none, none, none, none, none, none, none, none, none] [] := by
  intro m
  induction m with
  | zero =>
    intro i G hm hG
    have hi : i = 60 := by omega
    subst hi
    refine GL.iload2 dL_law_10 ?_
    refine GL.bipush (v := 60) dL_law_11 (by decide) ?_
    refine GL.icmp_ge (tgt := 89) dL_law_13 (by decide) (fun h13 => ?_) (fun h13 => absurd (by decide) h13)
    refine GL.iconst (v := 1) dL_law_89 (by decide) ?_
    exact GL.ret dL_law_90 (by omega) (by omega)
  | succ m ih =>
    intro i G hm hG
    have k83 : ∀ {k n : Nat} {G2 : gG} {a3 a4 : Option Value}, k ≤ 200 + 3300 * (i + 1) → n ≤ 4000 + 44000 * (i + 1) → stOk ad G2 → GL b LL xs G2 k n 83 [some (.ref b), some (.ref (ad 0)), some (.int (nI i)), a3, a4, none, none, none, none, none, none, none] [] := by
      intro k n G2 a3 a4 hk hn hG2
      refine GL.inc2 dL_law_83 ?_
      refine GL.goto (tgt := 10) dL_law_86 (by decide) ?_
      refine GL.drop 3 ?_
      refine GL.drop 4 ?_
      rw [mI_succ]
      exact GL.wid hk hn (ih (i + 1) G2 (by omega) hG2)
    obtain ⟨im, mc, ds, cl, at_, ss, ps, qs, rfl, hS, hI, hok⟩ := hG
    refine GL.iload2 dL_law_10 ?_
    refine GL.bipush (v := 60) dL_law_11 (by decide) ?_
    refine GL.icmp_ge (tgt := 89) dL_law_13 (by decide) (fun h13 => absurd ((mI_le (a := 60) (by decide) (by omega)).mp h13) (by omega)) (fun h13 => ?_)
    refine GL.aload1 dL_law_16 ?_
    refine GL.aload0 dL_law_17 ?_
    refine GL.iload2 dL_law_18 ?_
    refine GL.bipush (v := nI 34) dL_law_19 (by decide) ?_
    refine GL.irem dL_law_21 (by decide) ?_
    rw [e34 (by omega) (by decide) (by decide)]
    refine GL.cell (j := i % 34) (by omega) hLL dL_law_22 rfl (by omega) (by omega) (Nat.le_of_ble_eq_true rfl) (fun w => ?_)
    refine GL.iload2 dL_law_25 ?_
    refine GL.bipush (v := 34) dL_law_26 (by decide) ?_
    refine GL.idiv dL_law_28 (by decide) ?_
    refine GL.bipush (v := 11) dL_law_29 (by decide) ?_
    refine GL.imul dL_law_31 ?_
    refine GL.ishr dL_law_32 ?_
    refine GL.act (c_act (G := (im, ad, mc)) hS hI hok) dL_law_33 rfl rfl (by decide) (by omega) (by omega) (Nat.le_of_ble_eq_true rfl) (fun v G' hq => ?_)
    obtain ⟨rfl, im1, mc1, ds1, cl1, at1, ss1, ps1, qs1, rfl, hS1, hI1, hok1⟩ := hq
    have hS1 : St im1 ad mc1 ds1 cl1 at1 ss1 ps1 qs1 := hS1
    refine GL.if_ne (tgt := 41) dL_law_36 (by decide) (fun h36 => ?_) (fun h36 => absurd h36 (by decide))
    refine GL.iload2 dL_law_41 ?_
    refine GL.bipush (v := 10) dL_law_42 (by decide) ?_
    refine GL.irem dL_law_44 (by decide) ?_
    refine GL.bipush (v := 9) dL_law_45 (by decide) ?_
    refine GL.icmp_eq (tgt := 53) dL_law_47 (by decide) (fun h47 => ?_) (fun h47 => ?_)
    rotate_left
    · refine GL.goto (tgt := 83) dL_law_50 (by decide) ?_
      exact k83 (by omega) (by omega) ⟨_, _, _, _, _, _, _, _, rfl, hS1, hI1, hok1⟩
    obtain ⟨_, l1⟩ := hS1.g0
    refine GL.aload1 dL_law_53 ?_
    refine GL.callV cv_L_22 mt_X10_digest (c_digest (G := (im1, ad, mc1)) hS1 hI1 hok1) dL_law_54 l1 rfl rfl rfl rfl (by decide) (by decide) (by omega) (by omega) (Nat.le_of_ble_eq_true rfl) (fun v G' hq => ?_)
    obtain ⟨rfl, mc2, rfl, hS2⟩ := hq
    have hS2 : St im1 ad mc2 ds1 cl1 at1 ss1 ps1 qs1 := hS2
    refine GL.lstore3 dL_law_57 ?_
    refine GL.aload1 dL_law_58 ?_
    refine GL.callS cs_L_26 mt_L_areDocumentsRight (c_docsRight (G := (im1, ad, mc2)) hS2 hI1) dL_law_59 rfl rfl (by decide) (by decide) (by omega) (by omega) (Nat.le_of_ble_eq_true rfl) (fun v G' hq => ?_)
    obtain ⟨rfl, im3, mc3, rfl, hS3⟩ := hq
    have hS3 : St im3 ad mc3 ds1 cl1 at1 ss1 ps1 qs1 := hS3
    obtain ⟨_, l3⟩ := hS3.g0
    refine GL.if_eq (tgt := 81) dL_law_62 (by decide) (fun h62 => absurd h62 (by decide)) (fun h62 => ?_)
    refine GL.aload1 dL_law_65 ?_
    refine GL.callS cs_L_30 mt_L_areFewRight (c_fewRight (G := (im3, ad, mc3)) hS3 hI1) dL_law_66 rfl rfl (by decide) (by decide) (by omega) (by omega) (Nat.le_of_ble_eq_true rfl) (fun v G' hq => ?_)
    obtain ⟨rfl, rfl⟩ := hq
    refine GL.if_eq (tgt := 81) dL_law_69 (by decide) (fun h69 => absurd h69 (by decide)) (fun h69 => ?_)
    refine GL.aload1 dL_law_72 ?_
    refine GL.callV cv_L_22 mt_X10_digest (c_digest (G := (im3, ad, mc3)) hS3 hI1 hok1) dL_law_73 l3 rfl rfl rfl rfl (by decide) (by decide) (by omega) (by omega) (Nat.le_of_ble_eq_true rfl) (fun v G' hq => ?_)
    obtain ⟨rfl, mc4, rfl, hS4⟩ := hq
    refine GL.lload3 dL_law_76 ?_
    refine GL.lcmp dL_law_77 ?_
    refine GL.if_eq (tgt := 83) dL_law_78 (by decide) (fun h78 => ?_) (fun h78 => absurd (cmp_same _) h78)
    exact k83 (by omega) (by omega) ⟨_, _, _, _, _, _, _, _, rfl, hS4, hI1, hok1⟩
theorem noT_ok : okD noT := by
  obtain ⟨h1, h2, h3⟩ := fvT_ok (kd := 0) (nb := 0) (by decide) (by decide)
  show okD (fvT 0 0)
  exact ⟨h1, by rw [h2]; decide, by rw [h3]; decide⟩
theorem law_all (hLL : LL ≤ 260) : GL b LL xs (fun _ => none, fun _ => 0, fun _ => none) 0 0 0 [some (.ref b), none, none, none, none, none, none, none, none, none, none, none] [] := by
  refine GL.newo nw_L_9 0 [.null, .null, .null, .null, .null, .int 0, .null, .null, .null, .int 0, .null, .null, .int 0, .null] dL_law_0 rfl (by intro j hj; match j, hj with | 0, _ => rfl | 1, _ => rfl | 2, _ => rfl | 3, _ => rfl | 4, _ => rfl | 5, _ => rfl | 6, _ => rfl | 7, _ => rfl | 8, _ => rfl | 9, _ => rfl | 10, _ => rfl | 11, _ => rfl | 12, _ => rfl | 13, _ => rfl) (by decide) (by decide) (fun a => ?_)
  refine GL.dup dL_law_3 rfl ?_
  refine GL.callI ci_L_11 mt_X10_init (c_MarlStore (im0 := fun _ => none) (ad0 := fun q => if q = 0 then a else 0) (mc0 := fun q => if q = 0 then some (.inl (10, [.null, .null, .null, .null, .null, .int 0, .null, .null, .null, .int 0, .null, .null, .int 0, .null])) else none) (a := a) (if_pos rfl) (if_pos rfl) (fun q h => if_neg h)) dL_law_4 rfl rfl (by decide) (by decide) (by decide) (by decide) (Nat.le_of_ble_eq_true rfl) (fun v G' hq => ?_)
  obtain ⟨rfl, im1, ad1, mc1, hle, rfl, had, hS⟩ := hq
  subst had
  refine GL.astore1 dL_law_7 ?_
  refine GL.iconst (v := nI 0) dL_law_8 (by decide) ?_
  refine GL.istore2 dL_law_9 ?_
  refine GL.wid (k' := 200 + 3300 * 0) (n' := 4000 + 44000 * 0) (by decide) (by decide) ?_
  exact law_loop hLL 60 0 (im1, ad1, mc1) rfl ⟨im1, mc1, _, _, _, _, _, _, rfl, hS, ⟨fun _ _ => noT_ok, noT_ok, ⟨_, rfl⟩, fun os h => absurd h List.not_mem_nil⟩, fun q h => absurd h List.not_mem_nil⟩
end LAWW
set_option maxRecDepth 100000 in
/-- YOUR PART: from the entry, for every script of at most 260 ints, the law comes to its end with true -/
theorem whole_start {p : Program} {e : Env} {s : State} {m : MethodId} {below : List Frame} {meth : Method} {c : Code} (l : Launch) (hflags : l.flags = flags0) {b L : Nat} {xs : Nat → Int32} (hL : L ≤ 260) (C0 : lw_At p s m meth c b L xs) : W p l e room_1 s m #[Value.ref b] below meth c s.heap [] 0 0 (lw_Z below #[Value.ref b] s) (entryFrame m ([Value.ref b] : List Value).toArray 5) := by
  obtain ⟨hx, hb, hr, hml, hown, hts, hX, hbl, hlocks, hgv⟩ := id C0
  obtain ⟨D, dA, hA⟩ := gA_start hts hgv
  have hl := lv_entry ([.ref b]) (n := 5) (Nat.le_of_ble_eq_true rfl)
  rw [lg_entry_eq]
  generalize (lg_sl ([.ref b]) ++ List.replicate (5 - (lg_sl ([.ref b])).length) Slot.unset).toArray = ls at hl ⊢
  have hh : gHas ls 5 (gEnt [.ref b]) := ⟨hl.1, hl.2.1, fun i v h => hl.2.2 (i, v) (gEnt_mem h)⟩
  exact law_all (b := b) (LL := L) (xs := xs) hL p l e s m below meth c D dA ⟨C0, hA, hflags⟩ s.heap [] ls gH_start va_S.rf hh
