section
-- ===== PART A: goes FIRST, ahead of the names: the tables' words, and 'selects' of the private methods out of them =====
/-- a private method of a class that the tables say can be made, by its rows of tables_1 -/
def lw_okq (q : MethodName × Nat) : Prop := (q.1.cls ≠ "java/lang/invoke/MethodHandle" ∧ q.1.cls ≠ "java/lang/invoke/VarHandle") ∧ Cond.instantiable q.1.cls q.2 ∈ tables_1 ∧ Cond.privateMethod q.1 ∈ tables_1 ∧ Cond.instanceMethod q.1 ∈ tables_1
theorem lw_p0 : lw_okq (⟨"java/lang/Throwable", "fillInStackTrace", "(I)Ljava/lang/Throwable;"⟩, 6) := ⟨⟨by decide +kernel, by decide +kernel⟩, List.mem_of_getElem? (i := 365) (by decide +kernel), List.mem_of_getElem? (i := 363) (by decide +kernel), List.mem_of_getElem? (i := 364) (by decide +kernel)⟩
theorem lw_p1 : lw_okq (⟨"MarlStore", "wholeOf", "(I)LMarlStore$Value;"⟩, 14) := ⟨⟨by decide +kernel, by decide +kernel⟩, List.mem_of_getElem? (i := 23) (by decide +kernel), List.mem_of_getElem? (i := 395) (by decide +kernel), List.mem_of_getElem? (i := 396) (by decide +kernel)⟩
theorem lw_p2 : lw_okq (⟨"MarlStore", "digestValue", "(JLMarlStore$Value;)J"⟩, 14) := ⟨⟨by decide +kernel, by decide +kernel⟩, List.mem_of_getElem? (i := 23) (by decide +kernel), List.mem_of_getElem? (i := 400) (by decide +kernel), List.mem_of_getElem? (i := 401) (by decide +kernel)⟩
theorem lw_p3 : lw_okq (⟨"MarlStore$Walk", "enter", "(ILMarlStore$Value;III)V"⟩, 5) := ⟨⟨by decide +kernel, by decide +kernel⟩, List.mem_of_getElem? (i := 203) (by decide +kernel), List.mem_of_getElem? (i := 411) (by decide +kernel), List.mem_of_getElem? (i := 412) (by decide +kernel)⟩
theorem lw_p4 : lw_okq (⟨"MarlStore$Differ", "between", "(LMarlStore$Value;LMarlStore$Value;II)I"⟩, 4) := ⟨⟨by decide +kernel, by decide +kernel⟩, List.mem_of_getElem? (i := 137) (by decide +kernel), List.mem_of_getElem? (i := 441) (by decide +kernel), List.mem_of_getElem? (i := 442) (by decide +kernel)⟩
theorem lw_p5 : lw_okq (⟨"MarlStore$Differ", "fillTable", "(LMarlStore$Value;LMarlStore$Value;II)Z"⟩, 4) := ⟨⟨by decide +kernel, by decide +kernel⟩, List.mem_of_getElem? (i := 137) (by decide +kernel), List.mem_of_getElem? (i := 445) (by decide +kernel), List.mem_of_getElem? (i := 446) (by decide +kernel)⟩
theorem lw_p6 : lw_okq (⟨"MarlStore$Differ", "leastFrom", "(LMarlStore$Value;ILMarlStore$Value;III)I"⟩, 4) := ⟨⟨by decide +kernel, by decide +kernel⟩, List.mem_of_getElem? (i := 137) (by decide +kernel), List.mem_of_getElem? (i := 450) (by decide +kernel), List.mem_of_getElem? (i := 451) (by decide +kernel)⟩
theorem lw_p7 : lw_okq (⟨"MarlStore$Differ", "cell", "(LMarlStore$Value;ILMarlStore$Value;II)I"⟩, 4) := ⟨⟨by decide +kernel, by decide +kernel⟩, List.mem_of_getElem? (i := 137) (by decide +kernel), List.mem_of_getElem? (i := 458) (by decide +kernel), List.mem_of_getElem? (i := 459) (by decide +kernel)⟩
theorem lw_p8 : lw_okq (⟨"MarlStore$Differ", "pairedFrom", "(LMarlStore$Value;ILMarlStore$Value;III)I"⟩, 4) := ⟨⟨by decide +kernel, by decide +kernel⟩, List.mem_of_getElem? (i := 137) (by decide +kernel), List.mem_of_getElem? (i := 463) (by decide +kernel), List.mem_of_getElem? (i := 464) (by decide +kernel)⟩
theorem lw_p9 : lw_okq (⟨"MarlStore$Differ", "betweenObjects", "(LMarlStore$Value;LMarlStore$Value;II)I"⟩, 4) := ⟨⟨by decide +kernel, by decide +kernel⟩, List.mem_of_getElem? (i := 137) (by decide +kernel), List.mem_of_getElem? (i := 470) (by decide +kernel), List.mem_of_getElem? (i := 471) (by decide +kernel)⟩
theorem lw_p10 : lw_okq (⟨"MarlStore", "digestPatches", "(J)J"⟩, 14) := ⟨⟨by decide +kernel, by decide +kernel⟩, List.mem_of_getElem? (i := 23) (by decide +kernel), List.mem_of_getElem? (i := 478) (by decide +kernel), List.mem_of_getElem? (i := 479) (by decide +kernel)⟩
theorem lw_p11 : lw_okq (⟨"MarlStore", "patchOf", "(I)LMarlStore$Patch;"⟩, 14) := ⟨⟨by decide +kernel, by decide +kernel⟩, List.mem_of_getElem? (i := 23) (by decide +kernel), List.mem_of_getElem? (i := 486) (by decide +kernel), List.mem_of_getElem? (i := 487) (by decide +kernel)⟩
theorem lw_p12 : lw_okq (⟨"MarlStore", "countFailures", "(III)I"⟩, 14) := ⟨⟨by decide +kernel, by decide +kernel⟩, List.mem_of_getElem? (i := 23) (by decide +kernel), List.mem_of_getElem? (i := 524) (by decide +kernel), List.mem_of_getElem? (i := 525) (by decide +kernel)⟩
theorem lw_p13 : lw_okq (⟨"MarlStore", "schemaOf", "(I)LMarlStore$Schema;"⟩, 14) := ⟨⟨by decide +kernel, by decide +kernel⟩, List.mem_of_getElem? (i := 23) (by decide +kernel), List.mem_of_getElem? (i := 528) (by decide +kernel), List.mem_of_getElem? (i := 529) (by decide +kernel)⟩
theorem lw_p14 : lw_okq (⟨"MarlStore$Checker", "schemaBelow", "(II)I"⟩, 7) := ⟨⟨by decide +kernel, by decide +kernel⟩, List.mem_of_getElem? (i := 228) (by decide +kernel), List.mem_of_getElem? (i := 542) (by decide +kernel), List.mem_of_getElem? (i := 543) (by decide +kernel)⟩
theorem lw_p15 : lw_okq (⟨"MarlStore$Schema", "placeOfKey", "(I)I"⟩, 11) := ⟨⟨by decide +kernel, by decide +kernel⟩, List.mem_of_getElem? (i := 158) (by decide +kernel), List.mem_of_getElem? (i := 554) (by decide +kernel), List.mem_of_getElem? (i := 555) (by decide +kernel)⟩
def lw_privs_1 : List (MethodName × Nat) := [(⟨"java/lang/Throwable", "fillInStackTrace", "(I)Ljava/lang/Throwable;"⟩, 6), (⟨"MarlStore", "wholeOf", "(I)LMarlStore$Value;"⟩, 14), (⟨"MarlStore", "digestValue", "(JLMarlStore$Value;)J"⟩, 14), (⟨"MarlStore$Walk", "enter", "(ILMarlStore$Value;III)V"⟩, 5), (⟨"MarlStore$Differ", "between", "(LMarlStore$Value;LMarlStore$Value;II)I"⟩, 4), (⟨"MarlStore$Differ", "fillTable", "(LMarlStore$Value;LMarlStore$Value;II)Z"⟩, 4), (⟨"MarlStore$Differ", "leastFrom", "(LMarlStore$Value;ILMarlStore$Value;III)I"⟩, 4), (⟨"MarlStore$Differ", "cell", "(LMarlStore$Value;ILMarlStore$Value;II)I"⟩, 4), (⟨"MarlStore$Differ", "pairedFrom", "(LMarlStore$Value;ILMarlStore$Value;III)I"⟩, 4), (⟨"MarlStore$Differ", "betweenObjects", "(LMarlStore$Value;LMarlStore$Value;II)I"⟩, 4), (⟨"MarlStore", "digestPatches", "(J)J"⟩, 14), (⟨"MarlStore", "patchOf", "(I)LMarlStore$Patch;"⟩, 14), (⟨"MarlStore", "countFailures", "(III)I"⟩, 14), (⟨"MarlStore", "schemaOf", "(I)LMarlStore$Schema;"⟩, 14), (⟨"MarlStore$Checker", "schemaBelow", "(II)I"⟩, 7), (⟨"MarlStore$Schema", "placeOfKey", "(I)I"⟩, 11)]
theorem lw_r1 : ∀ q ∈ lw_privs_1, lw_okq q := List.forall_mem_cons.mpr ⟨lw_p0, List.forall_mem_cons.mpr ⟨lw_p1, List.forall_mem_cons.mpr ⟨lw_p2, List.forall_mem_cons.mpr ⟨lw_p3, List.forall_mem_cons.mpr ⟨lw_p4, List.forall_mem_cons.mpr ⟨lw_p5, List.forall_mem_cons.mpr ⟨lw_p6, List.forall_mem_cons.mpr ⟨lw_p7, List.forall_mem_cons.mpr ⟨lw_p8, List.forall_mem_cons.mpr ⟨lw_p9, List.forall_mem_cons.mpr ⟨lw_p10, List.forall_mem_cons.mpr ⟨lw_p11, List.forall_mem_cons.mpr ⟨lw_p12, List.forall_mem_cons.mpr ⟨lw_p13, List.forall_mem_cons.mpr ⟨lw_p14, List.forall_mem_cons.mpr ⟨lw_p15, fun _ h => absurd h List.not_mem_nil⟩⟩⟩⟩⟩⟩⟩⟩⟩⟩⟩⟩⟩⟩⟩⟩
theorem lw_p16 : lw_okq (⟨"MarlStore$Checker", "note", "(II)V"⟩, 7) := ⟨⟨by decide +kernel, by decide +kernel⟩, List.mem_of_getElem? (i := 228) (by decide +kernel), List.mem_of_getElem? (i := 558) (by decide +kernel), List.mem_of_getElem? (i := 559) (by decide +kernel)⟩
theorem lw_p17 : lw_okq (⟨"MarlStore$Checker", "isOfKind", "(ILMarlStore$Value;LMarlStore$Schema;)Z"⟩, 7) := ⟨⟨by decide +kernel, by decide +kernel⟩, List.mem_of_getElem? (i := 228) (by decide +kernel), List.mem_of_getElem? (i := 562) (by decide +kernel), List.mem_of_getElem? (i := 563) (by decide +kernel)⟩
theorem lw_p18 : lw_okq (⟨"MarlStore", "findIn", "(II)J"⟩, 14) := ⟨⟨by decide +kernel, by decide +kernel⟩, List.mem_of_getElem? (i := 23) (by decide +kernel), List.mem_of_getElem? (i := 579) (by decide +kernel), List.mem_of_getElem? (i := 580) (by decide +kernel)⟩
theorem lw_p19 : lw_okq (⟨"MarlStore", "queryOf", "(I)LMarlStore$Query;"⟩, 14) := ⟨⟨by decide +kernel, by decide +kernel⟩, List.mem_of_getElem? (i := 23) (by decide +kernel), List.mem_of_getElem? (i := 583) (by decide +kernel), List.mem_of_getElem? (i := 584) (by decide +kernel)⟩
theorem lw_p20 : lw_okq (⟨"MarlStore$Walk", "isPicked", "(JJILMarlStore$Value;II)Z"⟩, 5) := ⟨⟨by decide +kernel, by decide +kernel⟩, List.mem_of_getElem? (i := 203) (by decide +kernel), List.mem_of_getElem? (i := 597) (by decide +kernel), List.mem_of_getElem? (i := 598) (by decide +kernel)⟩
theorem lw_p21 : lw_okq (⟨"MarlStore$Walk", "isLast", "(ILMarlStore$Value;)Z"⟩, 5) := ⟨⟨by decide +kernel, by decide +kernel⟩, List.mem_of_getElem? (i := 203) (by decide +kernel), List.mem_of_getElem? (i := 606) (by decide +kernel), List.mem_of_getElem? (i := 607) (by decide +kernel)⟩
theorem lw_p22 : lw_okq (⟨"MarlStore", "pointed", "()LMarlStore$Value;"⟩, 14) := ⟨⟨by decide +kernel, by decide +kernel⟩, List.mem_of_getElem? (i := 23) (by decide +kernel), List.mem_of_getElem? (i := 650) (by decide +kernel), List.mem_of_getElem? (i := 651) (by decide +kernel)⟩
theorem lw_p23 : lw_okq (⟨"MarlStore$Editor", "follow", "([II)LMarlStore$Value;"⟩, 5) := ⟨⟨by decide +kernel, by decide +kernel⟩, List.mem_of_getElem? (i := 95) (by decide +kernel), List.mem_of_getElem? (i := 723) (by decide +kernel), List.mem_of_getElem? (i := 724) (by decide +kernel)⟩
theorem lw_p24 : lw_okq (⟨"MarlStore$Editor", "rebuild", "(LMarlStore$Value;)V"⟩, 5) := ⟨⟨by decide +kernel, by decide +kernel⟩, List.mem_of_getElem? (i := 95) (by decide +kernel), List.mem_of_getElem? (i := 729) (by decide +kernel), List.mem_of_getElem? (i := 730) (by decide +kernel)⟩
theorem lw_p25 : lw_okq (⟨"MarlStore", "finish", "(Z)I"⟩, 14) := ⟨⟨by decide +kernel, by decide +kernel⟩, List.mem_of_getElem? (i := 23) (by decide +kernel), List.mem_of_getElem? (i := 740) (by decide +kernel), List.mem_of_getElem? (i := 741) (by decide +kernel)⟩
theorem lw_p26 : lw_okq (⟨"MarlStore", "changeTo", "(ILMarlStore$Value;)V"⟩, 14) := ⟨⟨by decide +kernel, by decide +kernel⟩, List.mem_of_getElem? (i := 23) (by decide +kernel), List.mem_of_getElem? (i := 748) (by decide +kernel), List.mem_of_getElem? (i := 749) (by decide +kernel)⟩
theorem lw_p27 : lw_okq (⟨"MarlStore$Differ", "writeAt", "(LMarlStore$Value;LMarlStore$Value;II)V"⟩, 4) := ⟨⟨by decide +kernel, by decide +kernel⟩, List.mem_of_getElem? (i := 137) (by decide +kernel), List.mem_of_getElem? (i := 803) (by decide +kernel), List.mem_of_getElem? (i := 804) (by decide +kernel)⟩
theorem lw_p28 : lw_okq (⟨"MarlStore$Differ", "writeLists", "(LMarlStore$Value;LMarlStore$Value;II)V"⟩, 4) := ⟨⟨by decide +kernel, by decide +kernel⟩, List.mem_of_getElem? (i := 137) (by decide +kernel), List.mem_of_getElem? (i := 814) (by decide +kernel), List.mem_of_getElem? (i := 815) (by decide +kernel)⟩
theorem lw_p29 : lw_okq (⟨"MarlStore$Differ", "writeBelow", "(LMarlStore$Value;LMarlStore$Value;III)V"⟩, 4) := ⟨⟨by decide +kernel, by decide +kernel⟩, List.mem_of_getElem? (i := 137) (by decide +kernel), List.mem_of_getElem? (i := 818) (by decide +kernel), List.mem_of_getElem? (i := 819) (by decide +kernel)⟩
theorem lw_p30 : lw_okq (⟨"MarlStore$Differ", "note", "(IIILMarlStore$Value;)V"⟩, 4) := ⟨⟨by decide +kernel, by decide +kernel⟩, List.mem_of_getElem? (i := 137) (by decide +kernel), List.mem_of_getElem? (i := 822) (by decide +kernel), List.mem_of_getElem? (i := 823) (by decide +kernel)⟩
theorem lw_p31 : lw_okq (⟨"MarlStore$Differ", "writeObjects", "(LMarlStore$Value;LMarlStore$Value;II)V"⟩, 4) := ⟨⟨by decide +kernel, by decide +kernel⟩, List.mem_of_getElem? (i := 137) (by decide +kernel), List.mem_of_getElem? (i := 862) (by decide +kernel), List.mem_of_getElem? (i := 863) (by decide +kernel)⟩
def lw_privs_2 : List (MethodName × Nat) := [(⟨"MarlStore$Checker", "note", "(II)V"⟩, 7), (⟨"MarlStore$Checker", "isOfKind", "(ILMarlStore$Value;LMarlStore$Schema;)Z"⟩, 7), (⟨"MarlStore", "findIn", "(II)J"⟩, 14), (⟨"MarlStore", "queryOf", "(I)LMarlStore$Query;"⟩, 14), (⟨"MarlStore$Walk", "isPicked", "(JJILMarlStore$Value;II)Z"⟩, 5), (⟨"MarlStore$Walk", "isLast", "(ILMarlStore$Value;)Z"⟩, 5), (⟨"MarlStore", "pointed", "()LMarlStore$Value;"⟩, 14), (⟨"MarlStore$Editor", "follow", "([II)LMarlStore$Value;"⟩, 5), (⟨"MarlStore$Editor", "rebuild", "(LMarlStore$Value;)V"⟩, 5), (⟨"MarlStore", "finish", "(Z)I"⟩, 14), (⟨"MarlStore", "changeTo", "(ILMarlStore$Value;)V"⟩, 14), (⟨"MarlStore$Differ", "writeAt", "(LMarlStore$Value;LMarlStore$Value;II)V"⟩, 4), (⟨"MarlStore$Differ", "writeLists", "(LMarlStore$Value;LMarlStore$Value;II)V"⟩, 4), (⟨"MarlStore$Differ", "writeBelow", "(LMarlStore$Value;LMarlStore$Value;III)V"⟩, 4), (⟨"MarlStore$Differ", "note", "(IIILMarlStore$Value;)V"⟩, 4), (⟨"MarlStore$Differ", "writeObjects", "(LMarlStore$Value;LMarlStore$Value;II)V"⟩, 4)]
theorem lw_r2 : ∀ q ∈ lw_privs_2, lw_okq q := List.forall_mem_cons.mpr ⟨lw_p16, List.forall_mem_cons.mpr ⟨lw_p17, List.forall_mem_cons.mpr ⟨lw_p18, List.forall_mem_cons.mpr ⟨lw_p19, List.forall_mem_cons.mpr ⟨lw_p20, List.forall_mem_cons.mpr ⟨lw_p21, List.forall_mem_cons.mpr ⟨lw_p22, List.forall_mem_cons.mpr ⟨lw_p23, List.forall_mem_cons.mpr ⟨lw_p24, List.forall_mem_cons.mpr ⟨lw_p25, List.forall_mem_cons.mpr ⟨lw_p26, List.forall_mem_cons.mpr ⟨lw_p27, List.forall_mem_cons.mpr ⟨lw_p28, List.forall_mem_cons.mpr ⟨lw_p29, List.forall_mem_cons.mpr ⟨lw_p30, List.forall_mem_cons.mpr ⟨lw_p31, fun _ h => absurd h List.not_mem_nil⟩⟩⟩⟩⟩⟩⟩⟩⟩⟩⟩⟩⟩⟩⟩⟩
theorem lw_p32 : lw_okq (⟨"MarlStore", "beginPatch", "()I"⟩, 14) := ⟨⟨by decide +kernel, by decide +kernel⟩, List.mem_of_getElem? (i := 23) (by decide +kernel), List.mem_of_getElem? (i := 867) (by decide +kernel), List.mem_of_getElem? (i := 868) (by decide +kernel)⟩
theorem lw_p33 : lw_okq (⟨"MarlStore", "tryOut", "(LMarlStore$Patch;LMarlStore$Value;)I"⟩, 14) := ⟨⟨by decide +kernel, by decide +kernel⟩, List.mem_of_getElem? (i := 23) (by decide +kernel), List.mem_of_getElem? (i := 888) (by decide +kernel), List.mem_of_getElem? (i := 889) (by decide +kernel)⟩
theorem lw_p34 : lw_okq (⟨"MarlStore$Editor", "testAt", "([IILMarlStore$Value;)Z"⟩, 5) := ⟨⟨by decide +kernel, by decide +kernel⟩, List.mem_of_getElem? (i := 95) (by decide +kernel), List.mem_of_getElem? (i := 899) (by decide +kernel), List.mem_of_getElem? (i := 900) (by decide +kernel)⟩
theorem lw_p35 : lw_okq (⟨"MarlStore", "writeInverse", "(LMarlStore$Patch;LMarlStore$Patch;)V"⟩, 14) := ⟨⟨by decide +kernel, by decide +kernel⟩, List.mem_of_getElem? (i := 23) (by decide +kernel), List.mem_of_getElem? (i := 920) (by decide +kernel), List.mem_of_getElem? (i := 921) (by decide +kernel)⟩
def lw_privs_3 : List (MethodName × Nat) := [(⟨"MarlStore", "beginPatch", "()I"⟩, 14), (⟨"MarlStore", "tryOut", "(LMarlStore$Patch;LMarlStore$Value;)I"⟩, 14), (⟨"MarlStore$Editor", "testAt", "([IILMarlStore$Value;)Z"⟩, 5), (⟨"MarlStore", "writeInverse", "(LMarlStore$Patch;LMarlStore$Patch;)V"⟩, 14)]
theorem lw_r3 : ∀ q ∈ lw_privs_3, lw_okq q := List.forall_mem_cons.mpr ⟨lw_p32, List.forall_mem_cons.mpr ⟨lw_p33, List.forall_mem_cons.mpr ⟨lw_p34, List.forall_mem_cons.mpr ⟨lw_p35, fun _ h => absurd h List.not_mem_nil⟩⟩⟩⟩
def lw_privs : List (MethodName × Nat) := lw_privs_1 ++ (lw_privs_2 ++ (lw_privs_3))
def lw_tbl : List Cond := k2_sels lw_privs ++ tables_1
theorem lw_privs_ok : ∀ q ∈ lw_privs, lw_okq q := by
  show ∀ q ∈ lw_privs_1 ++ (lw_privs_2 ++ (lw_privs_3)), lw_okq q
  exact List.forall_mem_append.mpr ⟨lw_r1, List.forall_mem_append.mpr ⟨lw_r2, lw_r3⟩⟩
end
section
/-! ===== BEGIN words of one list among another's, by their places ===== -/
theorem goodIn_r {big : List Cond} (ws : List Cond) (ps : List Nat) (hp : ws = ps.filterMap (fun i => big[i]?)) (h : ws.all goodWord = true) : GoodIn big ws := by
  intro w hw
  have h1 := List.all_eq_true.mp h w hw
  rw [hp] at hw
  obtain ⟨i, -, hi⟩ := List.mem_filterMap.mp hw
  have hm : w ∈ big := by first | exact List.mem_of_getElem? hi | exact List.getElem?_mem hi
  exact ⟨hm, good_of_word h1⟩
theorem goodIn_app {big a b : List Cond} (ha : GoodIn big a) (hb : GoodIn big b) : GoodIn big (a ++ b) := fun w h => (List.mem_append.mp h).elim (ha w) (hb w)
theorem goodIn_ca {big a b : List Cond} {c : Cond} (ha : GoodIn big (c :: a)) (hb : GoodIn big b) : GoodIn big (c :: (a ++ b)) := fun w h => (List.mem_cons.mp h).elim (fun e => ha w (List.mem_cons.mpr (Or.inl e))) (fun h => (List.mem_append.mp h).elim (fun h => ha w (List.mem_cons.mpr (Or.inr h))) (hb w))
theorem goodIn_sub {big ws : List Cond} (hm : ∀ w ∈ ws, w ∈ big) (h : ws.all goodWord = true) : GoodIn big ws := fun w hw => ⟨hm w hw, good_of_word (List.all_eq_true.mp h w hw)⟩
/-! ===== END ===== -/

/-! ===== BEGIN exceptions that leave a method, and their catching by the caller (launches without stack traces) ===== -/
section VXA
/-! The laws vx_back, vx_callV, vx_callS, vx_callSW, vx_throw0, vx_throwS follow proofs of the library, with one case more: JvmDerived/Free/Laws.lean (Back.of_free), Shelf42/LK1.lean (callV, callS), Shelf/KitTraced.lean (throwNew0V, throwNewS). -/
/-- where a method has thrown q: the class by its name, the cell, what was written, the world -/
def vx_T (XC : String → State → State → Prop) (st : State) (q : Addr) (t : State) (mc ms : Nat) (free : Addr → Prop) : Prop :=
  ∃ (E : String) (ce : Cell) (L : List Loc), XC E st t ∧ t.heap[q]? = some ce ∧ ce.vm = .none ∧ st.vm.findClass E = some ce.cls ∧ st.WarmedH t.vm ∧ st.sameButNew ({ t with vm := st.vm } : State) L mc ms ∧ ∀ z ∈ L, free z.base
def vx_Q (Qc : Array Value → State → Outcome → State → Prop) (XC : String → State → State → Prop) (mc ms : Nat) (free : Addr → Prop) : Array Value → State → Outcome → State → Prop := fun a st o t =>
  (Qc a st o t ∧ ∃ L, FrameEnd st o t L mc ms ∧ ∀ q ∈ L, free q.base) ∨ ∃ q, o = .threw q ∧ vx_T XC st q t mc ms free
/-- a callee that returns or throws -/
def vx_Met (l : Launch) (y : MethodName) (ws : List Cond) (rm : Room) (Pc : Array Value → State → Prop) (Qc : Array Value → State → Outcome → State → Prop) (XC : String → State → State → Prop) (mc ms : Nat) (free : Addr → Prop) : Prop :=
  MetFree l y (headSpec ws rm) Pc (fun _ _ _ _ _ => True) (vx_Q Qc XC mc ms free)
def vx_Post (XC : String → State → State → Prop) (mc ms : Nat) (free : Addr → Prop) : Pt → Array Value → Addr → Pt → Prop := fun A a q B =>
  ∃ (g : JFrame) (mk : MethodId) (t : State) (L : List Loc) (E : String) (ce : Cell), B.U.heap = t.heap ∧ B.U.vm = t.vm ∧ XC E (A.U.calling g mk a) t ∧ t.heap[q]? = some ce ∧ ce.vm = .none ∧ A.U.vm.findClass E = some ce.cls ∧ B.locs = A.locs ++ L ∧ (∀ z ∈ L, free z.base) ∧ B.cells = A.cells + mc ∧ B.slots = A.slots + ms
def vx_Back (l : Launch) (R : Room) (p : Program) (e : Env) (below : List Frame) (s : State) (sargs : Array Value) (y : MethodName) (len W9 : Nat)
    (Pre : Pt → Array Value → Prop) (Post : Pt → Array Value → Option Value → Pt → Prop) (PostX : Pt → Array Value → Addr → Pt → Prop) : Prop :=
  ∀ (m : MethodId) (meth : Method) (c : Code) (A : Pt) (g : JFrame) (ig : Instr) (mk : MethodId) (a : Array Value),
    Stand p l e R s m sargs below meth c A.U A.locs A.cells A.slots → g.method = m → g.locals.size = c.maxLocals → decode c.code g.pc = .ok (ig, len) →
    2 * g.monitorRoom + (g.stack.map fun v => v.category).sum ≤ W9 → A.U.methodNamed? y = some mk → Pre A a →
    (∃ (v : Option Value) (B : Pt), Stand p l e R s m sargs below meth c B.U B.locs B.cells B.slots ∧ Post A a v B ∧
      Steps p.tables e below (doInvoke e (A.U.setTop g) [] mk a).1 (B.U.setTop { g with pc := g.pc + len, stack := v.toList ++ g.stack })) ∨
    (∃ (q : Addr) (B : Pt), Stand p l e R s m sargs below meth c B.U B.locs B.cells B.slots ∧ PostX A a q B ∧
      Steps p.tables e below (doInvoke e (A.U.setTop g) [] mk a).1 ((B.U.setTop g).pushFrame (.throwing q)))
section Payer
variable {l : Launch} {R : Room} {p : Program} {e : Env} {below : List Frame} {s : State} {sargs : Array Value} {y : MethodName} {len W9 : Nat}
theorem vx_back {ws : List Cond} {rm : Room} {Pc : Array Value → State → Prop} {Qc : Array Value → State → Outcome → State → Prop} {XC : String → State → State → Prop} {mc ms : Nat} {free : Addr → Prop} {bytes : ByteArray} {maxL : Nat} {ret : Option FieldType}
    (hM : vx_Met l y ws rm Pc Qc XC mc ms free) (hblind : FrameBlind Pc) (hrc : rm.cells = mc) (hrs : rm.slots = ms)
    (hframes : rm.frames + 1 ≤ R.frames) (hlocals : W9 + (maxL + 11) + rm.locals ≤ R.locals)
    (hws : ∀ w ∈ ws, ∀ a' U, s.WarmedH U.vm → w.before a' U = true) (hcode : Cond.code y bytes maxL ret ∈ ws) (hinit : ∀ a' U, s.WarmedH U.vm → (Cond.initialized y.cls).before a' U = true) :
    vx_Back l R p e below s sargs y len W9 (PreOf R mc ms Pc) (PostOf Qc mc ms free) (vx_Post XC mc ms free) := by
  intro m meth c A g ig mk a X hg hsize hdg hW hn hp
  have h1 : (headSpec ws rm).pre.before a A.U = true := atoms_intro fun w hw => hws w hw _ _ X.warmed
  have h2 : (Cond.code y bytes maxL ret).before a A.U = true := hws _ hcode _ _ X.warmed
  have h3 : (Cond.initialized y.cls).before a A.U = true := hinit _ _ X.warmed
  have h4 : A.cells + (headSpec ws rm).room.cells ≤ R.cells := by rw [show (headSpec ws rm).room.cells = mc from hrc]; exact hp.1
  have h5 : A.slots + (headSpec ws rm).room.slots ≤ R.slots := by rw [show (headSpec ws rm).room.slots = ms from hrs]; exact hp.2.1
  have hPc : Pc a (A.U.calling g mk a) := hblind _ _ _ _ hp.2.2
  obtain ⟨U, Ls, c0, s0⟩ := A
  dsimp only [Pt.U, Pt.locs, Pt.cells, Pt.slots] at h1 h2 h3 h4 h5 X hn hPc ⊢
  obtain ⟨methY, cY, hmY, hcY, -, hlY, -, -, -, -⟩ := Cond.code_spec hn h2
  obtain ⟨kY, hkY, -⟩ := className_of_methodNamed hn
  have hinitY : kY.init = .initialized := Cond.initialized_spec (findClass_of_methodNamed hn) hkY h3
  have h : At U g.method c below := by rw [hg]; exact X.here
  have hlocals9 : W9 + (maxL + 11) + (headSpec ws rm).room.locals ≤ R.locals := hlocals
  have happ : (headSpec ws rm).appliesLoose y e.platform (U.calling g mk a) = true :=
    Spec.appliesLoose_calling (g := g) h hdg hn hkY hinitY
      (X.room_calling (g := g) (R' := (headSpec ws rm).room) hsize hmY hcY hframes (by rw [hlY]; omega) h4 h5) h1
  obtain ⟨mid, hmid⟩ := h.above
  have hfr : (U.setTop g).frames = (.java g :: mid) ++ below := by rw [State.frames_setTop' g h.top, hmid]; rfl
  obtain ⟨o, s₂, hsteps, -, hend, hq⟩ := Steps.callFree hM p X.admits X.cas X.clock (acts := []) hfr happ hPc trivial
  have hq' : vx_Q Qc XC mc ms free a (U.calling g mk a) o s₂ := hq
  rw [State.frames_setTop' g h.top] at hend
  obtain ⟨g₀, hg0⟩ := Option.isSome_iff_exists.mp h.top
  obtain ⟨r, hr⟩ := State.topJava?_eq_some.mp hg0
  have hr' : (({ U with heap := s₂.heap, slotsUsed := s₂.slotsUsed } : State).setVm s₂.vm).frames = .java g₀ :: r := hr
  rcases hq' with ⟨hqc, L, hfe, hL⟩ | ⟨q, rfl, E, ce, L, hx, hce, hcv, hcl, hW₂, hsm, hL⟩
  · obtain ⟨⟨v, rfl⟩, hW₂, e2, q2, q3, q4, q5, q6⟩ := id hfe
    have e3 : s₂ = ({ (U.calling g mk a).setFrames s₂.frames with heap := s₂.heap, slotsUsed := s₂.slotsUsed } : State).setVm s₂.vm := by
      have : s₂ = ({ s₂ with vm := (U.calling g mk a).vm } : State).setVm s₂.vm := rfl
      rw [e2] at this
      exact this
    obtain ⟨c₂, i₂, len₂, hc₂, hd₂, hf₂⟩ := hend
    have hW' : U.WarmedH s₂.vm := hW₂
    have hcc : c₂ = c := by
      have h1 : s₂.code? g.method = U.code? g.method := by
        rw [State.code?_eq, State.code?_eq, hW'.alike.method?]
      exact Option.some.inj (hc₂.symm.trans (h1.trans h.code))
    subst hcc
    have hlen : len₂ = len := by rw [hdg] at hd₂; cases hd₂; rfl
    subst hlen
    have hs₂ : s₂ = (({ U with heap := s₂.heap, slotsUsed := s₂.slotsUsed } : State).setVm s₂.vm).setTop { g with pc := g.pc + len₂, stack := v.toList ++ g.stack } := by
      refine e3.trans ?_
      rw [hf₂, State.calling_eq h.top, State.setFrames_setFrames, State.setTop_of_frames _ hr', hr]
      rfl
    have hsame : U.sameButNew ({ U with heap := s₂.heap, slotsUsed := s₂.slotsUsed } : State) L mc ms := by
      refine ⟨?_, q2, q3, q4, q5, q6⟩
      obtain ⟨t, ht, -⟩ := State.frames_cons hr
      show ({ U with heap := s₂.heap, slotsUsed := s₂.slotsUsed } : State) = { U.setFrames U.frames with heap := s₂.heap, slotsUsed := s₂.slotsUsed }
      rw [State.setFrames_self ht]
    subst hg
    refine Or.inl ⟨v, ⟨(({ U with heap := s₂.heap, slotsUsed := s₂.slotsUsed } : State).setVm s₂.vm), Ls ++ L, c0 + mc, s0 + ms⟩,
      ⟨X.admits, X.cas, X.clock, X.frames, X.room, X.hears, X.method, X.code, (X.here.setHeapUsed s₂.heap s₂.slotsUsed).setVm hW'.alike, X.tail, State.WarmedH.trans X.warmed hW', X.limits, X.bytes, X.same.trans (hsame.setVm s.vm)⟩,
      ⟨g, mk, s₂, L, rfl, rfl, hqc, rfl, hL, rfl, rfl⟩, ?_⟩
    show Steps p.tables e below _ ((({ U with heap := s₂.heap, slotsUsed := s₂.slotsUsed } : State).setVm s₂.vm).setTop { g with pc := g.pc + len₂, stack := v.toList ++ g.stack })
    rw [← hs₂]
    exact hsteps
  · obtain ⟨e2, q2, q3, q4, q5, q6⟩ := id hsm
    have e3 : s₂ = ({ (U.calling g mk a).setFrames s₂.frames with heap := s₂.heap, slotsUsed := s₂.slotsUsed } : State).setVm s₂.vm := by
      have : s₂ = ({ s₂ with vm := (U.calling g mk a).vm } : State).setVm s₂.vm := rfl
      rw [e2] at this
      exact this
    have hf₂ : s₂.frames = .throwing q :: .java g :: U.frames.tail := hend
    have hW' : U.WarmedH s₂.vm := hW₂
    have hs₂ : s₂ = ((({ U with heap := s₂.heap, slotsUsed := s₂.slotsUsed } : State).setVm s₂.vm).setTop g).pushFrame (.throwing q) := by
      refine e3.trans ?_
      rw [hf₂, State.calling_eq h.top, State.setFrames_setFrames, State.pushFrame, State.frames_setTop _ hr', State.setTop_of_frames _ hr', State.setFrames_setFrames, hr]
      rfl
    have hsame : U.sameButNew ({ U with heap := s₂.heap, slotsUsed := s₂.slotsUsed } : State) L mc ms := by
      refine ⟨?_, q2, q3, q4, q5, q6⟩
      obtain ⟨t, ht, -⟩ := State.frames_cons hr
      show ({ U with heap := s₂.heap, slotsUsed := s₂.slotsUsed } : State) = { U.setFrames U.frames with heap := s₂.heap, slotsUsed := s₂.slotsUsed }
      rw [State.setFrames_self ht]
    subst hg
    refine Or.inr ⟨q, ⟨(({ U with heap := s₂.heap, slotsUsed := s₂.slotsUsed } : State).setVm s₂.vm), Ls ++ L, c0 + mc, s0 + ms⟩,
      ⟨X.admits, X.cas, X.clock, X.frames, X.room, X.hears, X.method, X.code, (X.here.setHeapUsed s₂.heap s₂.slotsUsed).setVm hW'.alike, X.tail, State.WarmedH.trans X.warmed hW', X.limits, X.bytes, X.same.trans (hsame.setVm s.vm)⟩,
      ⟨g, mk, s₂, L, E, ce, rfl, rfl, hx, hce, hcv, hcl, rfl, hL, rfl, rfl⟩, ?_⟩
    show Steps p.tables e below _ (((({ U with heap := s₂.heap, slotsUsed := s₂.slotsUsed } : State).setVm s₂.vm).setTop g).pushFrame (.throwing q))
    rw [← hs₂]
    exact hsteps
end Payer
section Calls
variable {p : Program} {l : Launch} {e : Env} {R : Room} {s : State} {m : MethodId} {args : Array Value} {below : List Frame} {meth : Method} {c : Code} {T : State} {locs : List Loc} {cells slots : Nat}
theorem vx_callV (X : Stand p l e R s m args below meth c T locs cells slots) (hexec : p.tables.exec = Jvm.exec) {own C : String} {index : Nat} {y : MethodName} {bytes : ByteArray} {maxL : Nat} {ret : Option FieldType}
    (hown : s.vm.findClass own = some m.cls) (hlink : (Cond.methodLink own index y).before args s = true) (hinst : (Cond.instanceMethod y).before args s = true) (hsel : (Cond.selects C y y).before args s = true)
    (hcode : (Cond.code y bytes maxL ret).before args s = true) (hy : y.cls ≠ "java/lang/invoke/MethodHandle" ∧ y.cls ≠ "java/lang/invoke/VarHandle")
    {W9 : Nat} {Pre : Pt → Array Value → Prop} {Post : Pt → Array Value → Option Value → Pt → Prop} {PostX : Pt → Array Value → Addr → Pt → Prop} (hK : vx_Back l R p e below s args y 3 W9 Pre Post PostX)
    {b : Addr} {cellB : Cell} (hcell : T.heap[b]? = some cellB) (hobj : cellB.vm.isStatics = false) (hcls : s.vm.findClass C = some cellB.cls)
    {g : JFrame} (hg : g.method = m) (hsize : g.locals.size = c.maxLocals) {argsL rest : List Value} (hlen : ∀ sig, parseMethodDescriptor y.desc = some sig → argsL.length = sig.parameters.length)
    (hstack : g.stack = argsL.reverse ++ .ref b :: rest) (hW : 2 * g.monitorRoom + (rest.map fun v => v.category).sum ≤ W9) (hdg : decode c.code g.pc = .ok (.invokevirtual index, 3))
    (hpre : ∀ vm₁, s.WarmedH vm₁ → Pre ⟨T.setVm vm₁, locs, cells, slots⟩ (Value.ref b :: argsL).toArray) :
    (∃ (v : Option Value) (vm₁ : Vm) (B : Pt), s.WarmedH vm₁ ∧ Stand p l e R s m args below meth c B.U B.locs B.cells B.slots ∧ Post ⟨T.setVm vm₁, locs, cells, slots⟩ (Value.ref b :: argsL).toArray v B ∧
      ∀ target, Steps p.tables e below (B.U.setTop { g with pc := g.pc + 3, stack := v.toList ++ rest }) target → Steps p.tables e below (T.setTop g) target) ∨
    (∃ (q : Addr) (vm₁ : Vm) (B : Pt), s.WarmedH vm₁ ∧ Stand p l e R s m args below meth c B.U B.locs B.cells B.slots ∧ PostX ⟨T.setVm vm₁, locs, cells, slots⟩ (Value.ref b :: argsL).toArray q B ∧
      Steps p.tables e below (T.setTop g) ((B.U.setTop { g with stack := rest }).pushFrame (.throwing q))) := by
  obtain ⟨mk, methM, hnamed, hmethM, hstM, habM⟩ := Cond.instanceMethod_spec hinst
  obtain ⟨methM', cM, hmethM', -, -, -, -, -, -, hsigM⟩ := Cond.code_spec hnamed hcode
  cases hmethM.symm.trans hmethM'
  obtain ⟨c2, r2, m2, q1, q2, q3, q4, kP, hkP, hkPi⟩ := Cond.selects_spec hsel
  cases hcls.symm.trans q1
  cases (State.methodFound?_of_named hnamed hy).symm.trans q2
  cases hnamed.symm.trans q3
  have hselP : selectMethod e.platform s.vm cellB.cls mk = .method mk := by rw [Launch.admits_selectMethod X.admits]; exact q4
  obtain ⟨vm₁, X₁, hstep₁⟩ := X.invokevirtual hexec hown hlink hnamed hmethM hstM hkP hkPi hy (a := b) (cell := cellB) hcell
    (fun z h => by rw [h] at hobj; cases hobj) hselP hmethM habM hkP hkPi (g := g) hg (argsL := argsL) (rest := rest) (hlen _ hsigM) hstack hdg
  rcases hK m meth c ⟨T.setVm vm₁, locs, cells, slots⟩ { g with stack := rest } (.invokevirtual index) mk (Value.ref b :: argsL).toArray X₁ hg hsize hdg hW (X₁.named hnamed) (hpre vm₁ X₁.warmed) with ⟨v, B, X', hpost, hsteps⟩ | ⟨q, B, X', hpost, hsteps⟩
  · exact Or.inl ⟨v, vm₁, B, X₁.warmed, X', hpost, fun target h => hstep₁ _ fun acts => by rw [doInvoke_state]; exact hsteps.trans h⟩
  · exact Or.inr ⟨q, vm₁, B, X₁.warmed, X', hpost, hstep₁ _ fun acts => by rw [doInvoke_state]; exact hsteps⟩
theorem vx_callS (X : Stand p l e R s m args below meth c T locs cells slots) (hexec : p.tables.exec = Jvm.exec) {own : String} {index : Nat} {y : MethodName} {bytes : ByteArray} {maxL : Nat} {ret : Option FieldType}
    (hown : s.vm.findClass own = some m.cls) (hlink : (Cond.methodLink own index y).before args s = true) (hstat : (Cond.static y).before args s = true) (hinit : (Cond.initialized y.cls).before args s = true)
    (hcode : (Cond.code y bytes maxL ret).before args s = true) (hy : y.cls ≠ "java/lang/invoke/MethodHandle" ∧ y.cls ≠ "java/lang/invoke/VarHandle")
    {W9 : Nat} {Pre : Pt → Array Value → Prop} {Post : Pt → Array Value → Option Value → Pt → Prop} {PostX : Pt → Array Value → Addr → Pt → Prop} (hK : vx_Back l R p e below s args y 3 W9 Pre Post PostX)
    {g : JFrame} (hg : g.method = m) (hsize : g.locals.size = c.maxLocals) {argsL rest : List Value} (hlen : ∀ sig, parseMethodDescriptor y.desc = some sig → argsL.length = sig.parameters.length)
    (hstack : g.stack = argsL.reverse ++ rest) (hW : 2 * g.monitorRoom + (rest.map fun v => v.category).sum ≤ W9) (hdg : decode c.code g.pc = .ok (.invokestatic index, 3))
    (hpre : ∀ vm₁, s.WarmedH vm₁ → Pre ⟨T.setVm vm₁, locs, cells, slots⟩ argsL.toArray) :
    (∃ (v : Option Value) (vm₁ : Vm) (B : Pt), s.WarmedH vm₁ ∧ Stand p l e R s m args below meth c B.U B.locs B.cells B.slots ∧ Post ⟨T.setVm vm₁, locs, cells, slots⟩ argsL.toArray v B ∧
      ∀ target, Steps p.tables e below (B.U.setTop { g with pc := g.pc + 3, stack := v.toList ++ rest }) target → Steps p.tables e below (T.setTop g) target) ∨
    (∃ (q : Addr) (vm₁ : Vm) (B : Pt), s.WarmedH vm₁ ∧ Stand p l e R s m args below meth c B.U B.locs B.cells B.slots ∧ PostX ⟨T.setVm vm₁, locs, cells, slots⟩ argsL.toArray q B ∧
      Steps p.tables e below (T.setTop g) ((B.U.setTop { g with stack := rest }).pushFrame (.throwing q))) := by
  obtain ⟨mk, hnamed⟩ := Cond.code_named hcode
  obtain ⟨methM, cM, hmethM, -, -, -, -, -, -, hsigM⟩ := Cond.code_spec hnamed hcode
  have hstatic : methM.isStatic = true := Cond.static_spec hnamed hmethM hstat
  obtain ⟨kP, hkP, -⟩ := className_of_methodNamed hnamed
  have hinitP : kP.init = .initialized := Cond.initialized_spec (findClass_of_methodNamed hnamed) hkP hinit
  obtain ⟨vm₁, X₁, hstep₁⟩ := X.invokestatic hexec hown hlink hnamed hmethM hstatic hkP hinitP hy (g := g) hg (argsL := argsL) (rest := rest) (hlen _ hsigM) hstack hdg
  rcases hK m meth c ⟨T.setVm vm₁, locs, cells, slots⟩ { g with stack := rest } (.invokestatic index) mk argsL.toArray X₁ hg hsize hdg hW (X₁.named hnamed) (hpre vm₁ X₁.warmed) with ⟨v, B, X', hpost, hsteps⟩ | ⟨q, B, X', hpost, hsteps⟩
  · exact Or.inl ⟨v, vm₁, B, X₁.warmed, X', hpost, fun target h => hstep₁ _ fun acts => by rw [doInvoke_state]; exact hsteps.trans h⟩
  · exact Or.inr ⟨q, vm₁, B, X₁.warmed, X', hpost, hstep₁ _ fun acts => by rw [doInvoke_state]; exact hsteps⟩
end Calls
theorem vx_cls {s : State} {T : State} {vm₁ : Vm} {E : String} {k : ClassId} (hW : s.WarmedH vm₁) (h : (T.setVm vm₁).vm.findClass E = some k) : s.vm.findClass E = some k := by
  have h1 : vm₁.findClass E = some k := h
  rw [hW.alike.findClass] at h1
  exact h1
/-- the method's frame g, with q thrown over it -/
def vx_W (p : Program) (l : Launch) (e : Env) (R : Room) (s : State) (m : MethodId) (args : Array Value) (below : List Frame) (meth : Method) (c : Code) (H : Heap) (locs : List Loc) (cells slots : Nat) (Q : State → Prop) (g : JFrame) (q : Addr) : Prop :=
  ∀ T : State, T.heap = H → Stand p l e R s m args below meth c T locs cells slots → ∃ t, Steps p.tables e below ((T.setTop g).pushFrame (.throwing q)) t ∧ Q t
def vx_Run (p : Program) (l : Launch) (e : Env) (R : Room) (s : State) (m : MethodId) (args : Array Value) (below : List Frame) (meth : Method) (c : Code) (H : Heap) (locs : List Loc) (cells slots mc ms : Nat) (g : JFrame) (rest : List Value) (Qa : State → Outcome → State → Prop) (XC : String → State → State → Prop) (free : Addr → Prop) : Prop :=
  ∀ T : State, T.heap = H → Stand p l e R s m args below meth c T locs cells slots →
    (∃ (v : Option Value) (st₀ t T' : State) (L : List Loc), st₀.heap = H ∧ Stand p l e R s m args below meth c T' (locs ++ L) (cells + mc) (slots + ms) ∧ (∀ q ∈ L, free q.base) ∧ T'.heap = t.heap ∧ T'.vm = t.vm ∧ Qa st₀ (.returned v) t ∧
      Goes p e below T g T' { g with pc := g.pc + 3, stack := v.toList ++ rest }) ∨
    (∃ (q : Addr) (st₀ t T' : State) (L : List Loc) (E : String) (ce : Cell), st₀.heap = H ∧ Stand p l e R s m args below meth c T' (locs ++ L) (cells + mc) (slots + ms) ∧ (∀ z ∈ L, free z.base) ∧ T'.heap = t.heap ∧ T'.vm = t.vm ∧ XC E st₀ t ∧ t.heap[q]? = some ce ∧ ce.vm = .none ∧ s.vm.findClass E = some ce.cls ∧
      Steps p.tables e below (T.setTop g) ((T'.setTop { g with stack := rest }).pushFrame (.throwing q)))
def vx_X {S : Type} (px : S → Prop) (B : String → S → State → Prop) (A : Nat → Prop) : String → State → State → Prop := fun E st t => ∃ u : S, px u ∧ B E u t ∧ va_F A st t
section Runs
variable {p : Program} {l : Launch} {e : Env} {R : Room} {s : State} {m : MethodId} {args : Array Value} {below : List Frame} {meth : Method} {c : Code} {H : Heap} {locs : List Loc} {cells slots : Nat}
variable {y : MethodName} {bytes cc : ByteArray} {maxL nL mc ms n index : Nat} {ret : Option FieldType} {ws : List Cond} {rm : Room} {Pc : Array Value → State → Prop} {Qc : Array Value → State → Outcome → State → Prop} {XC : String → State → State → Prop} {free : Addr → Prop} {Ts : List Cond} {own C : String} {b : Addr} {As rest : List Value} {g : JFrame}
theorem vx_callBack (cb : CallB R s args own index y bytes maxL ret ws rm mc ms n) (hM : vx_Met l y ws rm Pc Qc XC mc ms free) (hbl : FrameBlind Pc) : vx_Back l R p e below s args y 3 8 (PreOf R mc ms Pc) (PostOf Qc mc ms free) (vx_Post XC mc ms free) := by
  obtain ⟨hrc, hrs, hfr, hlo, hws, hcw, -, hini, -⟩ := cb
  exact vx_back (bytes := bytes) (maxL := maxL) (ret := ret) hM hbl hrc hrs hfr hlo hws hcw (fun a' U hW => word_at hW (Or.inl (by first | rfl | simp [Cond.onTables, Cond.keeps, Cond.steady])) hini)
theorem vx_runV (S : CallFix p m c cc nL s args Ts own) (hM : vx_Met l y ws rm Pc Qc XC mc ms free) (cw : CallW R s args own C index y bytes maxL ret ws rm mc ms n) (hp : PreV s H C b Pc As)
    (hg : g.method = m) (hn : As.length = n) (hsize : g.locals.size = nL) (hstack : g.stack = As.reverse ++ .ref b :: rest) (hW : 2 * g.monitorRoom + (rest.map fun v => v.category).sum ≤ 8) (hdg : decode cc g.pc = .ok (.invokevirtual index, 3)) (hf : cells + mc ≤ R.cells ∧ slots + ms ≤ R.slots) :
    vx_Run p l e R s m args below meth c H locs cells slots mc ms g rest (Qc (Value.ref b :: As).toArray) XC free := by
  have hK : vx_Back l R p e below s args y 3 8 (PreOf R mc ms Pc) (PostOf Qc mc ms free) (vx_Post XC mc ms free) := vx_callBack cw.1 hM hp.1
  obtain ⟨⟨-, -, -, -, -, -, hcode, -, hy, hlen, hl⟩, hin, hse⟩ := cw
  obtain ⟨hx, hb, hml, ho, -⟩ := S
  obtain ⟨-, ⟨cellB, hcB, hoB, hclB⟩, hPc⟩ := hp
  intro T hT X
  rcases vx_callV X hx (C := C) (bytes := bytes) (maxL := maxL) (ret := ret) ho hl hin hse hcode hy hK (by rw [hT]; exact hcB) hoB hclB hg (hsize.trans hml.symm) (argsL := As) (rest := rest) (fun sig h => hn.trans (hlen sig h)) hstack hW (by rw [hb]; exact hdg)
    (fun vm₁ hW₁ => ⟨hf.1, hf.2, hPc (T.setVm vm₁) hT hW₁⟩) with ⟨v, vm₁, ⟨U', l2, c2, s2⟩, hW₁, X', ⟨g', mk, t, L, e1, e2, hq, h1, hL, h2, h3⟩, st⟩ | ⟨q, vm₁, ⟨U', l2, c2, s2⟩, hW₁, X', ⟨g', mk, t, L, E, ce, e1, e2, hq, hce, hcv, hcl, h1, hL, h2, h3⟩, st⟩
  · dsimp only [Pt.U, Pt.locs, Pt.cells, Pt.slots] at X' e1 e2 h1 h2 h3 st
    subst h1; subst h2; subst h3
    exact Or.inl ⟨v, (T.setVm vm₁).calling g' mk (Value.ref b :: As).toArray, t, U', L, hT, X', hL, e1, e2, hq, st⟩
  · dsimp only [Pt.U, Pt.locs, Pt.cells, Pt.slots] at X' e1 e2 h1 h2 h3 st hcl
    subst h1; subst h2; subst h3
    exact Or.inr ⟨q, (T.setVm vm₁).calling g' mk (Value.ref b :: As).toArray, t, U', L, E, ce, hT, X', hL, e1, e2, hq, hce, hcv, vx_cls hW₁ hcl, st⟩
theorem vx_runS (S : CallFix p m c cc nL s args Ts own) (hM : vx_Met l y ws rm Pc Qc XC mc ms free) (cw : CallB R s args own index y bytes maxL ret ws rm mc ms n ∧ (Cond.static y).before args s = true) (hp : PreS s H Pc As)
    (hg : g.method = m) (hn : As.length = n) (hsize : g.locals.size = nL) (hstack : g.stack = As.reverse ++ rest) (hW : 2 * g.monitorRoom + (rest.map fun v => v.category).sum ≤ 8) (hdg : decode cc g.pc = .ok (.invokestatic index, 3)) (hf : cells + mc ≤ R.cells ∧ slots + ms ≤ R.slots) :
    vx_Run p l e R s m args below meth c H locs cells slots mc ms g rest (Qc As.toArray) XC free := by
  have hK : vx_Back l R p e below s args y 3 8 (PreOf R mc ms Pc) (PostOf Qc mc ms free) (vx_Post XC mc ms free) := vx_callBack cw.1 hM hp.1
  obtain ⟨⟨-, -, -, -, -, -, hcode, hini, hy, hlen, hl⟩, hstt⟩ := cw
  obtain ⟨hx, hb, hml, ho, -⟩ := S
  intro T hT X
  rcases vx_callS X hx (bytes := bytes) (maxL := maxL) (ret := ret) ho hl hstt hini hcode hy hK hg (hsize.trans hml.symm) (argsL := As) (rest := rest) (fun sig h => hn.trans (hlen sig h)) hstack hW (by rw [hb]; exact hdg)
    (fun vm₁ hW₁ => ⟨hf.1, hf.2, hp.2 (T.setVm vm₁) hT hW₁⟩) with ⟨v, vm₁, ⟨U', l2, c2, s2⟩, hW₁, X', ⟨g', mk, t, L, e1, e2, hq, h1, hL, h2, h3⟩, st⟩ | ⟨q, vm₁, ⟨U', l2, c2, s2⟩, hW₁, X', ⟨g', mk, t, L, E, ce, e1, e2, hq, hce, hcv, hcl, h1, hL, h2, h3⟩, st⟩
  · dsimp only [Pt.U, Pt.locs, Pt.cells, Pt.slots] at X' e1 e2 h1 h2 h3 st
    subst h1; subst h2; subst h3
    exact Or.inl ⟨v, (T.setVm vm₁).calling g' mk As.toArray, t, U', L, hT, X', hL, e1, e2, hq, st⟩
  · dsimp only [Pt.U, Pt.locs, Pt.cells, Pt.slots] at X' e1 e2 h1 h2 h3 st hcl
    subst h1; subst h2; subst h3
    exact Or.inr ⟨q, (T.setVm vm₁).calling g' mk As.toArray, t, U', L, E, ce, hT, X', hL, e1, e2, hq, hce, hcv, vx_cls hW₁ hcl, st⟩
end Runs
section Rows
variable {p : Program} {l : Launch} {e : Env} {R : Room} {s : State} {m : MethodId} {args : Array Value} {below : List Frame} {meth : Method} {c : Code} {H : Heap} {locs : List Loc} {cells slots : Nat} {Q : State → Prop}
variable {mc ms : Nat} {free : Addr → Prop} {A0 A1 : Nat → Prop} {H0 : Heap} {a : Array Value} {pc : Nat} {ls : Array Slot} {st0 rest : List Value}
theorem vx_keep {st₀ t T' : State} {L : List Loc} (h0 : st₀.heap = H) (e1 : T'.heap = t.heap) (hS : va_S A0 H0 H locs) (hA : ∀ q, q < H.size → A1 q → A0 q) (hf : ∀ q, free q → A0 q) (hL : ∀ q ∈ L, free q.base) (hF : va_F A1 st₀ t) :
    H.size ≤ T'.heap.size ∧ (∀ q : Nat, q < H.size → ¬ A1 q → T'.heap[q]? = H[q]?) ∧ va_S A0 H0 T'.heap (locs ++ L) := by
  obtain ⟨hz, hk⟩ := hF
  rw [h0] at hz hk
  exact ⟨by rw [e1]; exact hz, fun q h1 h2 => by rw [e1]; exact hk q h1 h2,
    ⟨Nat.le_trans hS.1 (by rw [e1]; exact hz), fun q h1 h2 => by rw [e1, hk q (Nat.lt_of_lt_of_le h1 hS.1) (fun z => h2 (hA q (Nat.lt_of_lt_of_le h1 hS.1) z))]; exact hS.2.1 q h1 h2, fun q hq => by
      rcases List.mem_append.mp hq with h | h
      · exact hS.2.2 q h
      · exact hf _ (hL q h)⟩⟩
theorem vx_calli {S SX : Type} {post : Int32 → S → Prop} {px : SX → Prop} {B : S → State → Prop} {BX : String → SX → State → Prop} {AX : Nat → Prop} (hr : vx_Run p l e R s m args below meth c H locs cells slots mc ms (F0 m pc ls st0) rest (va_Qi post B A1 a) (vx_X px BX AX) free) (hS : va_S A0 H0 H locs) (hA : ∀ q, q < H.size → A1 q → A0 q) (hf : ∀ q, free q → A0 q) (hAX : ∀ q, q < H.size → AX q → A0 q)
    (kx : ∀ (E : String) (ce : Cell) (q9 : Addr) (u : SX) (t : State) (H1 : Heap) (locs1 : List Loc), t.heap = H1 → s.vm.Alike t.vm → px u → BX E u t → H.size ≤ H1.size → (∀ q : Nat, q < H.size → ¬ AX q → H1[q]? = H[q]?) → va_S A0 H0 H1 locs1 → H1[q9]? = some ce → ce.vm = .none → s.vm.findClass E = some ce.cls → vx_W p l e R s m args below meth c H1 locs1 (cells + mc) (slots + ms) Q (F0 m pc ls rest) q9)
    (kk : ∀ (r : Int32) (u : S) (t : State) (H1 : Heap) (locs1 : List Loc), t.heap = H1 → s.vm.Alike t.vm → post r u → B u t → H.size ≤ H1.size → (∀ q : Nat, q < H.size → ¬ A1 q → H1[q]? = H[q]?) → va_S A0 H0 H1 locs1 → W p l e R s m args below meth c H1 locs1 (cells + mc) (slots + ms) Q (F0 m (pc + 3) ls (.int r :: rest))) : W p l e R s m args below meth c H locs cells slots Q (F0 m pc ls st0) := by
  intro T hT X
  rcases hr T hT X with ⟨v, st₀, t, T', L, h0, X', hL, e1, e2, ⟨⟨r, u, hv, hp, hb⟩, hF⟩, st⟩ | ⟨q, st₀, t, T', L, E, ce, h0, X', hL, e1, e2, ⟨u, hp, hb, hF⟩, hce, hcv, hcl, st⟩
  · cases hv
    obtain ⟨k1, k2, k3⟩ := vx_keep h0 e1 hS hA hf hL hF
    obtain ⟨t2, a1, b1⟩ := kk r u t T'.heap (locs ++ L) e1.symm (by rw [← e2]; exact X'.warmed.alike) hp hb k1 k2 k3 T' rfl X'
    exact ⟨t2, st t2 a1, b1⟩
  · obtain ⟨k1, k2, k3⟩ := vx_keep h0 e1 hS hAX hf hL hF
    obtain ⟨t2, a1, b1⟩ := kx E ce q u t T'.heap (locs ++ L) e1.symm (by rw [← e2]; exact X'.warmed.alike) hp hb k1 k2 k3 (by rw [e1]; exact hce) hcv hcl T' rfl X'
    exact ⟨t2, st.trans a1, b1⟩
theorem vx_calll {S SX : Type} {post : Int64 → S → Prop} {px : SX → Prop} {B : S → State → Prop} {BX : String → SX → State → Prop} {AX : Nat → Prop} (hr : vx_Run p l e R s m args below meth c H locs cells slots mc ms (F0 m pc ls st0) rest (va_Ql post B A1 a) (vx_X px BX AX) free) (hS : va_S A0 H0 H locs) (hA : ∀ q, q < H.size → A1 q → A0 q) (hf : ∀ q, free q → A0 q) (hAX : ∀ q, q < H.size → AX q → A0 q)
    (kx : ∀ (E : String) (ce : Cell) (q9 : Addr) (u : SX) (t : State) (H1 : Heap) (locs1 : List Loc), t.heap = H1 → s.vm.Alike t.vm → px u → BX E u t → H.size ≤ H1.size → (∀ q : Nat, q < H.size → ¬ AX q → H1[q]? = H[q]?) → va_S A0 H0 H1 locs1 → H1[q9]? = some ce → ce.vm = .none → s.vm.findClass E = some ce.cls → vx_W p l e R s m args below meth c H1 locs1 (cells + mc) (slots + ms) Q (F0 m pc ls rest) q9)
    (kk : ∀ (r : Int64) (u : S) (t : State) (H1 : Heap) (locs1 : List Loc), t.heap = H1 → s.vm.Alike t.vm → post r u → B u t → H.size ≤ H1.size → (∀ q : Nat, q < H.size → ¬ A1 q → H1[q]? = H[q]?) → va_S A0 H0 H1 locs1 → W p l e R s m args below meth c H1 locs1 (cells + mc) (slots + ms) Q (F0 m (pc + 3) ls (.long r :: rest))) : W p l e R s m args below meth c H locs cells slots Q (F0 m pc ls st0) := by
  intro T hT X
  rcases hr T hT X with ⟨v, st₀, t, T', L, h0, X', hL, e1, e2, ⟨⟨r, u, hv, hp, hb⟩, hF⟩, st⟩ | ⟨q, st₀, t, T', L, E, ce, h0, X', hL, e1, e2, ⟨u, hp, hb, hF⟩, hce, hcv, hcl, st⟩
  · cases hv
    obtain ⟨k1, k2, k3⟩ := vx_keep h0 e1 hS hA hf hL hF
    obtain ⟨t2, a1, b1⟩ := kk r u t T'.heap (locs ++ L) e1.symm (by rw [← e2]; exact X'.warmed.alike) hp hb k1 k2 k3 T' rfl X'
    exact ⟨t2, st t2 a1, b1⟩
  · obtain ⟨k1, k2, k3⟩ := vx_keep h0 e1 hS hAX hf hL hF
    obtain ⟨t2, a1, b1⟩ := kx E ce q u t T'.heap (locs ++ L) e1.symm (by rw [← e2]; exact X'.warmed.alike) hp hb k1 k2 k3 (by rw [e1]; exact hce) hcv hcl T' rfl X'
    exact ⟨t2, st.trans a1, b1⟩
theorem vx_callf {S SX : Type} {post : UInt32 → S → Prop} {px : SX → Prop} {B : S → State → Prop} {BX : String → SX → State → Prop} {AX : Nat → Prop} (hr : vx_Run p l e R s m args below meth c H locs cells slots mc ms (F0 m pc ls st0) rest (va_Qf post B A1 a) (vx_X px BX AX) free) (hS : va_S A0 H0 H locs) (hA : ∀ q, q < H.size → A1 q → A0 q) (hf : ∀ q, free q → A0 q) (hAX : ∀ q, q < H.size → AX q → A0 q)
    (kx : ∀ (E : String) (ce : Cell) (q9 : Addr) (u : SX) (t : State) (H1 : Heap) (locs1 : List Loc), t.heap = H1 → s.vm.Alike t.vm → px u → BX E u t → H.size ≤ H1.size → (∀ q : Nat, q < H.size → ¬ AX q → H1[q]? = H[q]?) → va_S A0 H0 H1 locs1 → H1[q9]? = some ce → ce.vm = .none → s.vm.findClass E = some ce.cls → vx_W p l e R s m args below meth c H1 locs1 (cells + mc) (slots + ms) Q (F0 m pc ls rest) q9)
    (kk : ∀ (r : UInt32) (u : S) (t : State) (H1 : Heap) (locs1 : List Loc), t.heap = H1 → s.vm.Alike t.vm → post r u → B u t → H.size ≤ H1.size → (∀ q : Nat, q < H.size → ¬ A1 q → H1[q]? = H[q]?) → va_S A0 H0 H1 locs1 → W p l e R s m args below meth c H1 locs1 (cells + mc) (slots + ms) Q (F0 m (pc + 3) ls (.float r :: rest))) : W p l e R s m args below meth c H locs cells slots Q (F0 m pc ls st0) := by
  intro T hT X
  rcases hr T hT X with ⟨v, st₀, t, T', L, h0, X', hL, e1, e2, ⟨⟨r, u, hv, hp, hb⟩, hF⟩, st⟩ | ⟨q, st₀, t, T', L, E, ce, h0, X', hL, e1, e2, ⟨u, hp, hb, hF⟩, hce, hcv, hcl, st⟩
  · cases hv
    obtain ⟨k1, k2, k3⟩ := vx_keep h0 e1 hS hA hf hL hF
    obtain ⟨t2, a1, b1⟩ := kk r u t T'.heap (locs ++ L) e1.symm (by rw [← e2]; exact X'.warmed.alike) hp hb k1 k2 k3 T' rfl X'
    exact ⟨t2, st t2 a1, b1⟩
  · obtain ⟨k1, k2, k3⟩ := vx_keep h0 e1 hS hAX hf hL hF
    obtain ⟨t2, a1, b1⟩ := kx E ce q u t T'.heap (locs ++ L) e1.symm (by rw [← e2]; exact X'.warmed.alike) hp hb k1 k2 k3 (by rw [e1]; exact hce) hcv hcl T' rfl X'
    exact ⟨t2, st.trans a1, b1⟩
theorem vx_calld {S SX : Type} {post : UInt64 → S → Prop} {px : SX → Prop} {B : S → State → Prop} {BX : String → SX → State → Prop} {AX : Nat → Prop} (hr : vx_Run p l e R s m args below meth c H locs cells slots mc ms (F0 m pc ls st0) rest (va_Qd post B A1 a) (vx_X px BX AX) free) (hS : va_S A0 H0 H locs) (hA : ∀ q, q < H.size → A1 q → A0 q) (hf : ∀ q, free q → A0 q) (hAX : ∀ q, q < H.size → AX q → A0 q)
    (kx : ∀ (E : String) (ce : Cell) (q9 : Addr) (u : SX) (t : State) (H1 : Heap) (locs1 : List Loc), t.heap = H1 → s.vm.Alike t.vm → px u → BX E u t → H.size ≤ H1.size → (∀ q : Nat, q < H.size → ¬ AX q → H1[q]? = H[q]?) → va_S A0 H0 H1 locs1 → H1[q9]? = some ce → ce.vm = .none → s.vm.findClass E = some ce.cls → vx_W p l e R s m args below meth c H1 locs1 (cells + mc) (slots + ms) Q (F0 m pc ls rest) q9)
    (kk : ∀ (r : UInt64) (u : S) (t : State) (H1 : Heap) (locs1 : List Loc), t.heap = H1 → s.vm.Alike t.vm → post r u → B u t → H.size ≤ H1.size → (∀ q : Nat, q < H.size → ¬ A1 q → H1[q]? = H[q]?) → va_S A0 H0 H1 locs1 → W p l e R s m args below meth c H1 locs1 (cells + mc) (slots + ms) Q (F0 m (pc + 3) ls (.double r :: rest))) : W p l e R s m args below meth c H locs cells slots Q (F0 m pc ls st0) := by
  intro T hT X
  rcases hr T hT X with ⟨v, st₀, t, T', L, h0, X', hL, e1, e2, ⟨⟨r, u, hv, hp, hb⟩, hF⟩, st⟩ | ⟨q, st₀, t, T', L, E, ce, h0, X', hL, e1, e2, ⟨u, hp, hb, hF⟩, hce, hcv, hcl, st⟩
  · cases hv
    obtain ⟨k1, k2, k3⟩ := vx_keep h0 e1 hS hA hf hL hF
    obtain ⟨t2, a1, b1⟩ := kk r u t T'.heap (locs ++ L) e1.symm (by rw [← e2]; exact X'.warmed.alike) hp hb k1 k2 k3 T' rfl X'
    exact ⟨t2, st t2 a1, b1⟩
  · obtain ⟨k1, k2, k3⟩ := vx_keep h0 e1 hS hAX hf hL hF
    obtain ⟨t2, a1, b1⟩ := kx E ce q u t T'.heap (locs ++ L) e1.symm (by rw [← e2]; exact X'.warmed.alike) hp hb k1 k2 k3 (by rw [e1]; exact hce) hcv hcl T' rfl X'
    exact ⟨t2, st.trans a1, b1⟩
theorem vx_callv {S SX : Type} {post : S → Prop} {px : SX → Prop} {B : S → State → Prop} {BX : String → SX → State → Prop} {AX : Nat → Prop} (hr : vx_Run p l e R s m args below meth c H locs cells slots mc ms (F0 m pc ls st0) rest (va_Qv post B A1 a) (vx_X px BX AX) free) (hS : va_S A0 H0 H locs) (hA : ∀ q, q < H.size → A1 q → A0 q) (hf : ∀ q, free q → A0 q) (hAX : ∀ q, q < H.size → AX q → A0 q)
    (kx : ∀ (E : String) (ce : Cell) (q9 : Addr) (u : SX) (t : State) (H1 : Heap) (locs1 : List Loc), t.heap = H1 → s.vm.Alike t.vm → px u → BX E u t → H.size ≤ H1.size → (∀ q : Nat, q < H.size → ¬ AX q → H1[q]? = H[q]?) → va_S A0 H0 H1 locs1 → H1[q9]? = some ce → ce.vm = .none → s.vm.findClass E = some ce.cls → vx_W p l e R s m args below meth c H1 locs1 (cells + mc) (slots + ms) Q (F0 m pc ls rest) q9)
    (kk : ∀ (u : S) (t : State) (H1 : Heap) (locs1 : List Loc), t.heap = H1 → s.vm.Alike t.vm → post u → B u t → H.size ≤ H1.size → (∀ q : Nat, q < H.size → ¬ A1 q → H1[q]? = H[q]?) → va_S A0 H0 H1 locs1 → W p l e R s m args below meth c H1 locs1 (cells + mc) (slots + ms) Q (F0 m (pc + 3) ls (rest))) : W p l e R s m args below meth c H locs cells slots Q (F0 m pc ls st0) := by
  intro T hT X
  rcases hr T hT X with ⟨v, st₀, t, T', L, h0, X', hL, e1, e2, ⟨⟨u, hv, hp, hb⟩, hF⟩, st⟩ | ⟨q, st₀, t, T', L, E, ce, h0, X', hL, e1, e2, ⟨u, hp, hb, hF⟩, hce, hcv, hcl, st⟩
  · cases hv
    obtain ⟨k1, k2, k3⟩ := vx_keep h0 e1 hS hA hf hL hF
    obtain ⟨t2, a1, b1⟩ := kk u t T'.heap (locs ++ L) e1.symm (by rw [← e2]; exact X'.warmed.alike) hp hb k1 k2 k3 T' rfl X'
    exact ⟨t2, st t2 a1, b1⟩
  · obtain ⟨k1, k2, k3⟩ := vx_keep h0 e1 hS hAX hf hL hF
    obtain ⟨t2, a1, b1⟩ := kx E ce q u t T'.heap (locs ++ L) e1.symm (by rw [← e2]; exact X'.warmed.alike) hp hb k1 k2 k3 (by rw [e1]; exact hce) hcv hcl T' rfl X'
    exact ⟨t2, st.trans a1, b1⟩
/-- caught by the row x of this method's table; the rows ahead don't take it -/
theorem vx_catch {own name : String} {E : String} {ce : Cell} {q : Addr} (hown : s.vm.findClass own = some m.cls) (pre : List ExceptionTableEntry) (x : ExceptionTableEntry) (suf : List ExceptionTableEntry) (hsplit : c.exceptionTable.toList = pre ++ x :: suf)
    (hpass : ∀ z ∈ pre, covers z pc = false ∨ (z.catchType ≠ 0 ∧ ∃ nm : String, (Cond.classLink own z.catchType nm).before args s = true ∧ va_Nc E nm s)) (hx : covers x pc = true) (h0 : x.catchType ≠ 0)
    (hlink : (Cond.classLink own x.catchType name).before args s = true) (hcast : (Cond.castable E name).before args s = true) (hcell : H[q]? = some ce) (hv : ce.vm = .none) (hcl : s.vm.findClass E = some ce.cls)
    (kk : W p l e R s m args below meth c H locs cells slots Q (F0 m x.handlerPc ls [.ref q])) : vx_W p l e R s m args below meth c H locs cells slots Q (F0 m pc ls rest) q := by
  intro T hT X
  have hpl : e.platform.magicAccessors = ({} : Platform).magicAccessors := by rw [X.admits.platform]
  obtain ⟨c3, c4, hc3, hc4, hasg⟩ := Cond.castable_spec hcast
  cases Option.some.inj (hc3.symm.trans hcl)
  obtain ⟨c5, hc5, hcl5⟩ := Cond.classLink_spec hown hlink e.platform hpl
  cases Option.some.inj (hc4.symm.trans hc5)
  obtain ⟨vm', X', st⟩ := X.thenCaughtThrough q (g := F0 m pc ls rest) rfl (Steps.refl _) (by rw [hT]; exact hcell) (by rw [hv]; rfl) (by obtain ⟨k9, h9, -⟩ := Vm.findClass_spec hcl; exact ⟨k9, h9⟩) pre x suf hsplit
    (fun z hz => by
      rcases hpass z hz with h | ⟨hz0, nm, hl1, hn1⟩
      · exact Or.inl h
      · obtain ⟨c6, hc6, hcl6⟩ := Cond.classLink_spec hown hl1 e.platform hpl
        obtain ⟨a8, b8, h1, h2, h3⟩ := hn1
        cases Option.some.inj (h1.symm.trans hcl)
        cases Option.some.inj (h2.symm.trans hc6)
        exact Or.inr ⟨hz0, _, hcl6, h3⟩) hx (Or.inr ⟨h0, c4, hcl5, hasg⟩)
  obtain ⟨t, a1, b1⟩ := kk (T.setVm vm') hT X'
  exact ⟨t, st.trans a1, b1⟩
end Rows
section Ends
variable {p : Program} {l : Launch} {e : Env} {R : Room} {s : State} {m : MethodId} {args : Array Value} {below : List Frame} {meth : Method} {c : Code} {H : Heap} {locs : List Loc} {cells slots : Nat} {Q : State → Prop}
variable {mc ms : Nat} {free : Addr → Prop} {A0 A1 : Nat → Prop} {H0 : Heap} {a : Array Value} {ls : Array Slot} {st0 rest : List Value}
variable {Qc : Array Value → State → Outcome → State → Prop} {XC : String → State → State → Prop}
/-- what a body that may throw owes at its end -/
def vx_MQ (below : List Frame) (Qc : Array Value → State → Outcome → State → Prop) (XC : String → State → State → Prop) (a : Array Value) (s : State) (mc ms : Nat) (free : Addr → Prop) : State → Prop := fun t =>
  ∃ o, t.status = .running ∧ Ended t below o ∧ vx_Q Qc XC mc ms free a s o t
theorem vx_ret {g : JFrame} {mc ms : Nat} (k : W p l e R s m args below meth c H locs cells slots (MQ below Qc args s mc ms free) g) : W p l e R s m args below meth c H locs cells slots (vx_MQ below Qc XC args s mc ms free) g := by
  intro T hT X
  obtain ⟨t, a1, o, b1, b2, b3, b4⟩ := k T hT X
  exact ⟨t, a1, o, b1, b2, Or.inl ⟨b3, b4⟩⟩
/-- not caught here: it goes on to the caller -/
theorem vx_widen {g : JFrame} {q : Addr} {k n : Nat} (h1 : cells ≤ k) (h2 : slots ≤ n) (kk : vx_W p l e R s m args below meth c H locs k n Q g q) : vx_W p l e R s m args below meth c H locs cells slots Q g q := fun T hT X => kk T hT (stand_widen X h1 h2)
theorem vx_out {pc : Nat} {E : String} {ce : Cell} {q : Addr} {mc ms : Nat} (hout : ∀ x ∈ c.exceptionTable.toList, covers x pc = false) (hlocks : meth.locks = false) (hcell : H[q]? = some ce) (hv : ce.vm = .none) (hcl : s.vm.findClass E = some ce.cls)
    (hx : ∀ t : State, t.heap = H → s.vm.Alike t.vm → XC E s t) (hf : ∀ z ∈ locs, free z.base) (hc : cells ≤ mc) (hs : slots ≤ ms) :
    vx_W p l e R s m args below meth c H locs cells slots (vx_MQ below Qc XC args s mc ms free) (F0 m pc ls rest) q := by
  intro T hT X
  obtain ⟨st1, hrun, hend, hW, hsm⟩ := X.leaveThrown q (g := F0 m pc ls rest) rfl rfl rfl hout hlocks
  have hcell9 : (T.setFrames (.throwing q :: below)).heap[q]? = some ce := by
    show T.heap[q]? = some ce
    rw [hT]; exact hcell
  exact ⟨_, st1, .threw q, hrun, hend, Or.inr ⟨q, rfl, E, ce, locs, hx _ hT hW.alike, hcell9, hv, hcl, hW, hsm.mono hc hs, hf⟩⟩
theorem vx_frame {U : State} {k n : Nat} (h : s.sameButNew ({ U with vm := s.vm } : State) locs k n) : s.heap.size ≤ U.heap.size ∧ ∀ q : Nat, q < s.heap.size → (∀ z ∈ locs, z.base ≠ q) → U.heap[q]? = s.heap[q]? := by
  obtain ⟨-, h2, -, -, -, h6⟩ := h
  refine ⟨h2, fun q hq hz => ?_⟩
  obtain ⟨c9, e1, e2, e3, e4⟩ := h6 q _ (Array.getElem?_eq_getElem hq)
  have hs : c9.slots = (s.heap[q]).slots := Array.ext_getElem? fun i => e4 i fun hm => hz _ hm rfl
  have h9 : c9 = s.heap[q] := by
    rw [hs] at e2
    exact e2
  have e5 : U.heap[q]? = some c9 := e1
  rw [e5, h9, Array.getElem?_eq_getElem hq]
/-- the words of a throw but the four that speak of the heap -/
def vx_no (w : Cond) : Bool := decide (w ≠ .isRef (.static Bundle.tN "UNASSIGNED_STACK" Bundle.steD)) && decide (w ≠ .isRef (.static Bundle.tN "SUPPRESSED_SENTINEL" Bundle.listD)) && decide (w ≠ .laysStatic Bundle.tN "UNASSIGNED_STACK" Bundle.steD) && decide (w ≠ .laysStatic Bundle.tN "SUPPRESSED_SENTINEL" Bundle.listD)
def vx_at0 (own : String) (ic : Nat) (X : String) (names : List String) : List Cond := (Bundle.ownAtoms0 own ic X names).filter vx_no
def vx_atS (own : String) (ic : Nat) (X : String) (names : List String) : List Cond := (Bundle.ownAtoms own ic X names).filter vx_no
/-- a word that the tables alone decide, or a good one -/
def vx_ot (w : Cond) : Bool := w.onTables || goodWord w
theorem vx_ot_at {args a' : Array Value} {s U : State} {w : Cond} (hW : s.WarmedH U.vm) (hvm : s.vm = U.vm) (hg : vx_ot w = true) (h : w.before args s = true) : w.before a' U = true := by
  simp only [vx_ot, Bool.or_eq_true] at hg
  rcases hg with hg | hg
  · exact va_tabs hg hvm h
  · exact word_at hW (good_of_word hg) h
/-- a list's words: the good ones out of the method's own list, the others by premises of their own -/
theorem vx_hat {args : Array Value} {s : State} {L B : List Cond} (h1 : ∀ w ∈ L.filter goodWord, w.before args s = true) (h2 : ∀ w ∈ L.filter (fun w => !goodWord w), w ∈ B) (h3 : ∀ w ∈ B, w.before args s = true) : ∀ w ∈ L, w.before args s = true := by
  intro w hw
  by_cases g : goodWord w = true
  · exact h1 w (List.mem_filter.mpr ⟨hw, g⟩)
  · refine h3 w (h2 w (List.mem_filter.mpr ⟨hw, ?_⟩))
    show (!goodWord w) = true
    cases hgw : goodWord w
    · rfl
    · exact absurd hgw g
theorem vx_c {args : Array Value} {s : State} {w : Cond} {B : List Cond} (h : w.before args s = true) (t : ∀ w ∈ B, w.before args s = true) : ∀ w' ∈ w :: B, w'.before args s = true := fun w' h' => (List.mem_cons.mp h').elim (fun e => by rw [e]; exact h) (t w')
theorem vx_n {args : Array Value} {s : State} : ∀ w ∈ ([] : List Cond), w.before args s = true := fun _ h => nomatch h
theorem vx_own {args : Array Value} {s : State} {L : List Cond} (h1 : ∀ w ∈ L.filter vx_no, w.before args s = true)
    (hU : (Cond.isRef (.static Bundle.tN "UNASSIGNED_STACK" Bundle.steD)).before args s = true) (hN : (Cond.isRef (.static Bundle.tN "SUPPRESSED_SENTINEL" Bundle.listD)).before args s = true)
    (lU : (Cond.laysStatic Bundle.tN "UNASSIGNED_STACK" Bundle.steD).before args s = true) (lN : (Cond.laysStatic Bundle.tN "SUPPRESSED_SENTINEL" Bundle.listD).before args s = true) : ∀ w ∈ L, w.before args s = true := by
  intro w hw
  by_cases e1 : w = .isRef (.static Bundle.tN "UNASSIGNED_STACK" Bundle.steD)
  · rw [e1]; exact hU
  · by_cases e2 : w = .isRef (.static Bundle.tN "SUPPRESSED_SENTINEL" Bundle.listD)
    · rw [e2]; exact hN
    · by_cases e3 : w = .laysStatic Bundle.tN "UNASSIGNED_STACK" Bundle.steD
      · rw [e3]; exact lU
      · by_cases e4 : w = .laysStatic Bundle.tN "SUPPRESSED_SENTINEL" Bundle.listD
        · rw [e4]; exact lN
        · exact h1 w (List.mem_filter.mpr ⟨hw, by unfold vx_no; rw [decide_eq_true e1, decide_eq_true e2, decide_eq_true e3, decide_eq_true e4]; rfl⟩)
/-- where a static field lies, its class's statics cell in H -/
def vx_L (C n d : String) (A : Nat → Prop) (U : State) (H : Heap) : Prop := ∃ (c : ClassId) (k : Class) (i : Nat) (f : Field) (a : Nat) (cell : Cell), U.vm.findClass C = some c ∧ U.fieldFound? C n d = some (c, k, i, f) ∧ f.isStatic = true ∧ k.statics = some a ∧ H[a]? = some cell ∧ cell.vm.isStatics = true ∧ cell.cls = c ∧ f.slot < cell.slots.size ∧ k.staticTypes[f.slot]? = some f.type ∧ ¬ A a
theorem vx_L.moved {C n d : String} {A : Nat → Prop} {u U : State} {H : Heap} (hvm : u.vm.Alike U.vm) (h : vx_L C n d A u H) : vx_L C n d A U H := by
  obtain ⟨c, k, i, f, a, cell, h1, h2, h3, h4, h5, h6, h7, h8, h9, h10⟩ := h
  obtain ⟨k', hi', he⟩ := State.fieldFound?_setVm hvm h2
  exact ⟨c, k', i, f, a, cell, by rw [hvm.findClass]; exact h1, hi', h3, by rw [he]; exact h4, h5, h6, h7, h8, by rw [he]; exact h9, h10⟩
theorem vx_L.kept {C n d : String} {A : Nat → Prop} {U : State} {H H1 : Heap} (h : vx_L C n d A U H) (hq : ∀ a : Nat, a < H.size → ¬ A a → H1[a]? = H[a]?) : vx_L C n d A U H1 := by
  obtain ⟨c, k, i, f, a, cell, h1, h2, h3, h4, h5, h6, h7, h8, h9, h10⟩ := h
  exact ⟨c, k, i, f, a, cell, h1, h2, h3, h4, by rw [hq a (Array.getElem?_eq_some_iff.mp h5).1 h10]; exact h5, h6, h7, h8, h9, h10⟩
theorem vx_L.narrow {C n d : String} {A B : Nat → Prop} {U : State} {H : Heap} (h : vx_L C n d A U H) (hAB : ∀ q, B q → A q) : vx_L C n d B U H := by
  obtain ⟨c, k, i, f, a, cell, h1, h2, h3, h4, h5, h6, h7, h8, h9, h10⟩ := h
  exact ⟨c, k, i, f, a, cell, h1, h2, h3, h4, h5, h6, h7, h8, h9, fun z => h10 (hAB _ z)⟩
theorem vx_L.word {C n d : String} {A : Nat → Prop} {s : State} {args : Array Value} (h : vx_L C n d A s s.heap) : (Cond.laysStatic C n d).before args s = true := by
  obtain ⟨c, k, i, f, a, cell, h1, h2, h3, h4, h5, h6, h7, h8, h9, -⟩ := h
  show (Cond.laysStatic C n d).holds args s none s [] = true
  exact Cond.laysStatic_of h1 h2 h3 h4 h5 h6 h7 h8 h9
/-- .. and what it holds: null or some reference -/
def vx_Zq (C n d : String) (A : Nat → Prop) (U : State) (H : Heap) : Prop := va_Zq C n d A U H ∧ vx_L C n d A U H
theorem vx_Zq.moved {C n d : String} {A : Nat → Prop} {u U : State} {H : Heap} (hvm : u.vm.Alike U.vm) (h : vx_Zq C n d A u H) : vx_Zq C n d A U H := ⟨va_Zq.moved hvm h.1, vx_L.moved hvm h.2⟩
theorem vx_Zq.kept {C n d : String} {A : Nat → Prop} {U : State} {H H1 : Heap} (h : vx_Zq C n d A U H) (hq : ∀ a : Nat, a < H.size → ¬ A a → H1[a]? = H[a]?) : vx_Zq C n d A U H1 := ⟨va_Zq.kept h.1 hq, vx_L.kept h.2 hq⟩
theorem vx_Zq.narrow {C n d : String} {A B : Nat → Prop} {U : State} {H : Heap} (h : vx_Zq C n d A U H) (hAB : ∀ q, B q → A q) : vx_Zq C n d B U H := ⟨va_Zq.narrow h.1 hAB, vx_L.narrow h.2 hAB⟩
theorem vx_Zqof {args : Array Value} {s : State} {C n d : String} {A : Nat → Prop} (hl : (Cond.laysStatic C n d).before args s = true) (hini : (Cond.initialized C).before args s = true) (h : (Cond.isRef (.static C n d)).before args s = true) (hA : ∀ a : Nat, a < s.heap.size → ¬ A a) : vx_Zq C n d A s s.heap := by
  refine ⟨va_Zqof hl hini h hA, ?_⟩
  obtain ⟨c, k, i, f, a, cell, h1, h2, h3, h4, h5, h6, h7, h8, h9⟩ := Cond.laysStatic_spec hl
  exact ⟨c, k, i, f, a, cell, h1, h2, h3, h4, h5, h6, h7, h8, h9, hA a (Array.getElem?_eq_some_iff.mp h5).1⟩
theorem vx_isRef {C n d : String} {v : Value} {A : Nat → Prop} {s : State} {args : Array Value} (h : va_Z C n d v A s s.heap) (hv : v.isRef = true) : (Cond.isRef (.static C n d)).before args s = true := by
  obtain ⟨cf, kf, fi, f, a, cell, h1, h2, h3, h4, h5, h6, h7, -⟩ := h
  have he : (Term.static C n d).eval args s none [] s = some v := by
    simp [Term.eval, State.fieldNamed?, h1, h2, h4, h5, h6, h7]
  simp only [Cond.before, Cond.holds, Cond.value, he]
  cases v <;> simp_all [Value.isRef]
theorem vx_isRefq {C n d : String} {A : Nat → Prop} {s : State} {args : Array Value} (h : va_Zq C n d A s s.heap) : (Cond.isRef (.static C n d)).before args s = true := by
  rcases h with h | ⟨t, h⟩
  · exact vx_isRef h rfl
  · exact vx_isRef h rfl
/-- the same frame, seen from here: as if the method were called anew in this heap -/
theorem vx_rebase {T : State} (X : Stand p l e R s m args below meth c T locs cells slots) {R' : Room} (hf : R'.frames ≤ R.frames) (hl : R'.locals ≤ R.locals) (hc : cells + R'.cells ≤ R.cells) (hs : slots + R'.slots ≤ R.slots) :
    Stand p l e R' ((T.setVm s.vm).setFrames (.invoking m args :: below)) m args below meth c T [] 0 0 := by
  have htop : (T.setVm s.vm).topJava?.isSome := X.here.top
  have hF : ((T.setVm s.vm).setFrames (.invoking m args :: below)).frames = .invoking m args :: below := State.frames_setFrames _ (State.cur_lt_of_top htop)
  obtain ⟨g₀, hg0⟩ := Option.isSome_iff_exists.mp htop
  obtain ⟨r, hr⟩ := State.topJava?_eq_some.mp hg0
  have hl9 : e.platform.stackLimits (T.setVm s.vm).me = e.platform.stackLimits s.me := X.limits
  have hb9 : (T.setVm s.vm).me.stackBytes = s.me.stackBytes := X.bytes
  refine ⟨X.admits, X.cas, X.clock, hF, ?_, X.hears, X.method, X.code, X.here, X.tail, X.warmed, ?_, ?_, ?_⟩
  · have h := X.room
    have hU : ((T.setVm s.vm).setFrames (.invoking m args :: below)).localsInUse = s.localsInUse := by
      rw [State.localsInUse_invoking hF (meth := meth) (c := c) X.method X.code, State.localsInUse_invoking X.frames X.method X.code]
    simp only [State.hasRoom, Bool.and_eq_true, decide_eq_true_eq] at h ⊢
    obtain ⟨⟨⟨⟨h1, h2, h3, h4, h5, h6⟩, h7⟩, h8⟩, h9⟩ := h
    rw [X.frames, List.length_cons] at h2 h3
    have q1 := X.heapSize
    have q2 := X.used
    simp only [hF, hU, List.length_cons, State.stackLimits_setFrames, State.stackBytes_setFrames, hl9, hb9]
    refine ⟨⟨⟨⟨by omega, by omega, by omega, by omega, by omega, h6⟩, ?_⟩, ?_⟩, X.book⟩
    · show T.heap.size + R'.cells ≤ e.platform.maxCells
      omega
    · show T.slotsUsed + R'.slots ≤ e.platform.maxSlots
      omega
  · rw [State.stackLimits_setFrames]; rfl
  · rw [State.stackBytes_setFrames]; rfl
  · refine ⟨?_, Nat.le_refl _, Nat.le_refl _, ?_, ?_, fun a c9 h9 => ⟨c9, h9, rfl, rfl, fun _ _ => rfl⟩⟩
    · obtain ⟨t, ht, -⟩ := State.frames_cons hr
      show T.setVm s.vm = { ((T.setVm s.vm).setFrames (.invoking m args :: below)).setFrames (T.setVm s.vm).frames with heap := T.heap, slotsUsed := T.slotsUsed }
      rw [State.setFrames_setFrames, State.setFrames_self ht]
      rfl
    · show T.slotsUsed = T.slotsUsed + ((T.heap.toList.drop T.heap.size).map (·.slots.size)).sum
      rw [List.drop_eq_nil_of_le (Nat.le_of_eq Array.length_toList)]
      rfl
    · show ((T.heap.toList.drop T.heap.size).map (·.slots.size)).sum ≤ 0
      rw [List.drop_eq_nil_of_le (Nat.le_of_eq Array.length_toList)]
      exact Nat.le_refl _
/-- 'throw new E()': new; dup; invokespecial; athrow -/
theorem vx_throw0 {cc : ByteArray} {pc : Nat} (hexec : p.tables.exec = Jvm.exec) (hb : c.code = cc) (hl : l.stackTraces = false) {own cls : String} {names : List String} {ik ic mc ms : Nat} {A : Nat → Prop}
    (hown : s.vm.findClass own = some m.cls) (hcls : Bundle.fit cls = true) (hnames : ∀ n ∈ names, Bundle.fit n = true)
    (hk : (Cond.classLink own ik cls).before args s = true) (hini : (Cond.initialized cls).before args s = true) (hat : ∀ w ∈ vx_at0 own ic cls names, w.before args s = true)
    (hgood : ∀ w ∈ Cond.classLink own ik cls :: Cond.initialized cls :: vx_at0 own ic cls names, vx_ot w = true)
    (hU : vx_Zq Bundle.tN "UNASSIGNED_STACK" Bundle.steD A s s.heap) (hN : vx_Zq Bundle.tN "SUPPRESSED_SENTINEL" Bundle.listD A s s.heap) (hS : va_S A s.heap H locs) (hsize : ls.size = c.maxLocals)
    (d0 : decode cc pc = .ok (.new ik, 3)) (d3 : decode cc (pc + 3) = .ok (.dup, 1)) (d4 : decode cc (pc + 4) = .ok (.invokespecial ic, 3)) (d7 : decode cc (pc + 7) = .ok (.athrow, 1))
    (hout : ∀ x ∈ c.exceptionTable.toList, covers x (pc + 7) = false)
    (hRframes : names.length + 3 < R.frames) (hRlocals : (rest.map fun v => v.category).sum + (13 * (names.length + 1) + 42) ≤ R.locals) (hRcells : cells + 1 ≤ R.cells) (hRslots : slots + 6 ≤ R.slots) (hlocks : meth.locks = false)
    (hx : ∀ t : State, s.vm.Alike t.vm → H.size ≤ t.heap.size → (∀ q : Nat, q < H.size → t.heap[q]? = H[q]?) → XC cls s t)
    (hf : ∀ z ∈ locs, free z.base) (hc : cells + 1 ≤ mc) (hs : slots + 6 ≤ ms) :
    W p l e R s m args below meth c H locs cells slots (vx_MQ below Qc XC args s mc ms free) (F0 m pc ls rest) := by
  intro T hT X
  have htr : e.platform.stackTraces = false := (show e.platform.stackTraces = l.stackTraces by rw [X.admits.platform]).trans hl
  have Y := vx_rebase X (R' := { frames := R.frames, locals := R.locals, cells := 1, slots := 6 }) (Nat.le_refl _) (Nat.le_refl _) hRcells hRslots
  obtain ⟨s', hA⟩ : ∃ z, z = (T.setVm s.vm).setFrames (.invoking m args :: below) := ⟨_, rfl⟩
  rw [← hA] at Y
  have hvm : s'.vm = s.vm := by rw [hA]; rfl
  have hhp : s'.heap = H := by rw [hA]; exact hT
  have hW0 : s.WarmedH s'.vm := by rw [hvm]; exact State.WarmedH.refl s
  have hat' : ∀ w ∈ vx_at0 own ic cls names, w.before args s' = true := fun w hw => vx_ot_at hW0 hvm.symm (hgood w (List.mem_cons_of_mem _ (List.mem_cons_of_mem _ hw))) (hat w hw)
  have hk' : (Cond.classLink own ik cls).before args s' = true := vx_ot_at hW0 hvm.symm (hgood _ List.mem_cons_self) hk
  have hini' : (Cond.initialized cls).before args s' = true := vx_ot_at hW0 hvm.symm (hgood _ (List.mem_cons_of_mem _ List.mem_cons_self)) hini
  have hU' : vx_Zq Bundle.tN "UNASSIGNED_STACK" Bundle.steD A s' s'.heap := by rw [hhp]; exact vx_Zq.moved hW0.alike (hU.kept hS.2.1)
  have hN' : vx_Zq Bundle.tN "SUPPRESSED_SENTINEL" Bundle.listD A s' s'.heap := by rw [hhp]; exact vx_Zq.moved hW0.alike (hN.kept hS.2.1)
  have h : ∀ w ∈ Bundle.ownAtoms0 own ic cls names, w.before args s' = true := vx_own hat' (vx_isRefq hU'.1) (vx_isRefq hN'.1) hU'.2.word hN'.2.word
  have hown' : s'.vm.findClass own = some m.cls := by rw [hvm]; exact hown
  have hins : (Cond.instantiable cls 6).before args s' = true := h _ (by simp [Bundle.ownAtoms0])
  obtain ⟨vm₁, cX, kX, hfX, hkX, -, -, X₁, st1⟩ := Y.newCold hexec (own := own) (C := cls) (index := ik) (n := 6) hown' hk' hins hini'
    (g := F0 m pc ls rest) rfl (by rw [hb]; exact d0) (Nat.le_refl _) (Nat.le_refl _)
  generalize hT1 : (T.setVm vm₁).pushCell { cls := cX, slots := kX.instanceTypes.map defaultValue, vm := .none } = T1 at X₁ st1
  have hcat : (Value.ref T.heap.size).category = 1 := rfl
  have hcellA : T1.heap[T.heap.size]? = some (freshCell cX kX) := by rw [← hT1]; exact State.heap_pushCell_size _ _
  have d3' : decode c.code (pc + 3) = .ok (.dup, 1) := by rw [hb]; exact d3
  obtain ⟨U, hsteps, hrun, hend, hW, hsame, ce, hce, hO⟩ := X₁.ctorThrow0 hexec htr (own := own) (cls := cls) (names := names) (ic := ic) hown' hcls hnames h (fun x hx => nomatch hx) hfX hkX hcellA (by rw [hhp, hT]; exact Nat.le_refl _)
    (g := { method := m, pc := pc + 4, locals := ls, stack := .ref T.heap.size :: .ref T.heap.size :: rest, locked := none }) rfl hsize rfl rfl (rest := rest) rfl
    (by rw [hb]; exact d4) (by rw [hb]; exact d7) hout hRframes (by simp only [List.map_cons, List.sum_cons, hcat]; omega) hlocks
  obtain ⟨f1, f2⟩ := vx_frame hsame
  rw [hhp] at f1 f2
  have hWs : s.WarmedH U.vm := State.WarmedH.trans hW0 hW
  have hcl : s.vm.findClass cls = some ce.cls := by
    have h9 := hO.cls
    rw [hvm] at h9
    exact h9
  have hall : s.sameButNew ({ U with vm := s.vm } : State) locs mc ms := by
    subst hA
    obtain ⟨e1, e2⟩ := hsame
    rw [State.setFrames_setFrames] at e1
    have h2 : (T.setVm s.vm).sameButNew ({ U with vm := s.vm } : State) [] (0 + 1) (0 + 6) := ⟨e1, e2⟩
    have h3 := X.same.trans h2
    rw [List.append_nil] at h3
    exact h3.mono hc hs
  refine ⟨U, ?_, .threw T.heap.size, hrun, hend, Or.inr ⟨T.heap.size, rfl, cls, ce, locs, hx U hWs.alike f1 (fun q hq => f2 q hq (fun z hz => nomatch hz)), hce, hO.vm, hcl, hWs, hall, hf⟩⟩
  refine st1 _ ?_
  show Steps p.tables e below (T1.setTop { method := m, pc := pc + 3, locals := ls, stack := .ref T.heap.size :: rest, locked := none }) _
  jvm_step X₁.here [X₁.here.top, hexec, d3', Value.category]
  exact hsteps
/-- 'throw new E("text")': new; dup; ldc; invokespecial; athrow -/
theorem vx_throwS {cc : ByteArray} {pc : Nat} (hexec : p.tables.exec = Jvm.exec) (hb : c.code = cc) (hl : l.stackTraces = false) {own cls text : String} {names : List String} {ik is ic mc ms sa : Nat} {A : Nat → Prop}
    (hown : s.vm.findClass own = some m.cls) (hcls : Bundle.fit cls = true) (hnames : ∀ n ∈ names, Bundle.fit n = true)
    (hk : (Cond.classLink own ik cls).before args s = true) (hini : (Cond.initialized cls).before args s = true) (hstr : vk_R own is text sa s) (hat : ∀ w ∈ vx_atS own ic cls names, w.before args s = true)
    (hgood : ∀ w ∈ Cond.classLink own ik cls :: Cond.initialized cls :: vx_atS own ic cls names, vx_ot w = true)
    (hU : vx_Zq Bundle.tN "UNASSIGNED_STACK" Bundle.steD A s s.heap) (hN : vx_Zq Bundle.tN "SUPPRESSED_SENTINEL" Bundle.listD A s s.heap) (hS : va_S A s.heap H locs) (hsize : ls.size = c.maxLocals)
    (d0 : decode cc pc = .ok (.new ik, 3)) (d3 : decode cc (pc + 3) = .ok (.dup, 1)) (d4 : decode cc (pc + 4) = .ok (.ldc is, 2)) (d6 : decode cc (pc + 6) = .ok (.invokespecial ic, 3)) (d9 : decode cc (pc + 9) = .ok (.athrow, 1))
    (hout : ∀ x ∈ c.exceptionTable.toList, covers x (pc + 9) = false)
    (hRframes : names.length + 3 < R.frames) (hRlocals : (rest.map fun v => v.category).sum + (13 * (names.length + 1) + 43) ≤ R.locals) (hRcells : cells + 1 ≤ R.cells) (hRslots : slots + 6 ≤ R.slots) (hlocks : meth.locks = false)
    (hx : ∀ t : State, s.vm.Alike t.vm → H.size ≤ t.heap.size → (∀ q : Nat, q < H.size → t.heap[q]? = H[q]?) → XC cls s t)
    (hf : ∀ z ∈ locs, free z.base) (hc : cells + 1 ≤ mc) (hs : slots + 6 ≤ ms) :
    W p l e R s m args below meth c H locs cells slots (vx_MQ below Qc XC args s mc ms free) (F0 m pc ls rest) := by
  intro T hT X
  have htr : e.platform.stackTraces = false := (show e.platform.stackTraces = l.stackTraces by rw [X.admits.platform]).trans hl
  have Y := vx_rebase X (R' := { frames := R.frames, locals := R.locals, cells := 1, slots := 6 }) (Nat.le_refl _) (Nat.le_refl _) hRcells hRslots
  obtain ⟨s', hA⟩ : ∃ z, z = (T.setVm s.vm).setFrames (.invoking m args :: below) := ⟨_, rfl⟩
  rw [← hA] at Y
  have hvm : s'.vm = s.vm := by rw [hA]; rfl
  have hhp : s'.heap = H := by rw [hA]; exact hT
  have hW0 : s.WarmedH s'.vm := by rw [hvm]; exact State.WarmedH.refl s
  have hat' : ∀ w ∈ vx_atS own ic cls names, w.before args s' = true := fun w hw => vx_ot_at hW0 hvm.symm (hgood w (List.mem_cons_of_mem _ (List.mem_cons_of_mem _ hw))) (hat w hw)
  have hk' : (Cond.classLink own ik cls).before args s' = true := vx_ot_at hW0 hvm.symm (hgood _ List.mem_cons_self) hk
  have hini' : (Cond.initialized cls).before args s' = true := vx_ot_at hW0 hvm.symm (hgood _ (List.mem_cons_of_mem _ List.mem_cons_self)) hini
  have hU' : vx_Zq Bundle.tN "UNASSIGNED_STACK" Bundle.steD A s' s'.heap := by rw [hhp]; exact vx_Zq.moved hW0.alike (hU.kept hS.2.1)
  have hN' : vx_Zq Bundle.tN "SUPPRESSED_SENTINEL" Bundle.listD A s' s'.heap := by rw [hhp]; exact vx_Zq.moved hW0.alike (hN.kept hS.2.1)
  have h : ∀ w ∈ Bundle.ownAtoms own ic cls names, w.before args s' = true := vx_own hat' (vx_isRefq hU'.1) (vx_isRefq hN'.1) hU'.2.word hN'.2.word
  have hown' : s'.vm.findClass own = some m.cls := by rw [hvm]; exact hown
  have hins : (Cond.instantiable cls 6).before args s' = true := h _ (by simp [Bundle.ownAtoms])
  obtain ⟨vm₁, cX, kX, hfX, hkX, -, -, X₁, st1⟩ := Y.newCold hexec (own := own) (C := cls) (index := ik) (n := 6) hown' hk' hins hini'
    (g := F0 m pc ls rest) rfl (by rw [hb]; exact d0) (Nat.le_refl _) (Nat.le_refl _)
  generalize hT1 : (T.setVm vm₁).pushCell { cls := cX, slots := kX.instanceTypes.map defaultValue, vm := .none } = T1 at X₁ st1
  have hcat : (Value.ref T.heap.size).category = 1 := rfl
  have hcellA : T1.heap[T.heap.size]? = some (freshCell cX kX) := by rw [← hT1]; exact State.heap_pushCell_size _ _
  have d3' : decode c.code (pc + 3) = .ok (.dup, 1) := by rw [hb]; exact d3
  have d4' : decode c.code (pc + 4) = .ok (.ldc is, 2) := by rw [hb]; exact d4
  have hstr' : vk_R own is text sa s' := vk_R.warm hW0 hstr
  obtain ⟨U, hsteps, hrun, hend, hW, hsame, ce, hce, hO⟩ := X₁.ctorThrowS hexec htr (own := own) (cls := cls) (names := names) (ic := ic) hown' hcls hnames h (fun x hx => nomatch hx) hfX hkX hcellA (by rw [hhp, hT]; exact Nat.le_refl _) (msg := .ref sa) rfl
    (g := { method := m, pc := pc + 6, locals := ls, stack := .ref sa :: .ref T.heap.size :: .ref T.heap.size :: rest, locked := none }) rfl hsize rfl rfl (rest := rest) rfl
    (by rw [hb]; exact d6) (by rw [hb]; exact d9) hout hRframes (by simp only [List.map_cons, List.sum_cons, hcat]; omega) hlocks
  obtain ⟨f1, f2⟩ := vx_frame hsame
  rw [hhp] at f1 f2
  have hWs : s.WarmedH U.vm := State.WarmedH.trans hW0 hW
  have hcl : s.vm.findClass cls = some ce.cls := by
    have h9 := hO.cls
    rw [hvm] at h9
    exact h9
  have hall : s.sameButNew ({ U with vm := s.vm } : State) locs mc ms := by
    subst hA
    obtain ⟨e1, e2⟩ := hsame
    rw [State.setFrames_setFrames] at e1
    have h2 : (T.setVm s.vm).sameButNew ({ U with vm := s.vm } : State) [] (0 + 1) (0 + 6) := ⟨e1, e2⟩
    have h3 := X.same.trans h2
    rw [List.append_nil] at h3
    exact h3.mono hc hs
  refine ⟨U, ?_, .threw T.heap.size, hrun, hend, Or.inr ⟨T.heap.size, rfl, cls, ce, locs, hx U hWs.alike f1 (fun q hq => f2 q hq (fun z hz => nomatch hz)), hce, hO.vm, hcl, hWs, hall, hf⟩⟩
  refine st1 _ ?_
  show Steps p.tables e below (T1.setTop { method := m, pc := pc + 3, locals := ls, stack := .ref T.heap.size :: rest, locked := none }) _
  jvm_step X₁.here [X₁.here.top, hexec, d3', Value.category]
  exact X₁.ldcString hexec (own := own) (text := text) (index := is) (a := sa) hown' hstr'.1 hstr'.2
    (g := { method := m, pc := pc + 4, locals := ls, stack := .ref T.heap.size :: .ref T.heap.size :: rest, locked := none }) rfl d4' _ hsteps
/-- 'throw new E("text")', the text by a wide index -/
theorem vx_throwSW {cc : ByteArray} {pc : Nat} (hexec : p.tables.exec = Jvm.exec) (hb : c.code = cc) (hl : l.stackTraces = false) {own cls text : String} {names : List String} {ik is ic mc ms sa : Nat} {A : Nat → Prop}
    (hown : s.vm.findClass own = some m.cls) (hcls : Bundle.fit cls = true) (hnames : ∀ n ∈ names, Bundle.fit n = true)
    (hk : (Cond.classLink own ik cls).before args s = true) (hini : (Cond.initialized cls).before args s = true) (hstr : vk_R own is text sa s) (hat : ∀ w ∈ vx_atS own ic cls names, w.before args s = true)
    (hgood : ∀ w ∈ Cond.classLink own ik cls :: Cond.initialized cls :: vx_atS own ic cls names, vx_ot w = true)
    (hU : vx_Zq Bundle.tN "UNASSIGNED_STACK" Bundle.steD A s s.heap) (hN : vx_Zq Bundle.tN "SUPPRESSED_SENTINEL" Bundle.listD A s s.heap) (hS : va_S A s.heap H locs) (hsize : ls.size = c.maxLocals)
    (d0 : decode cc pc = .ok (.new ik, 3)) (d3 : decode cc (pc + 3) = .ok (.dup, 1)) (d4 : decode cc (pc + 4) = .ok (.ldc_w is, 3)) (d7 : decode cc (pc + 7) = .ok (.invokespecial ic, 3)) (d10 : decode cc (pc + 10) = .ok (.athrow, 1))
    (hout : ∀ x ∈ c.exceptionTable.toList, covers x (pc + 10) = false)
    (hRframes : names.length + 3 < R.frames) (hRlocals : (rest.map fun v => v.category).sum + (13 * (names.length + 1) + 43) ≤ R.locals) (hRcells : cells + 1 ≤ R.cells) (hRslots : slots + 6 ≤ R.slots) (hlocks : meth.locks = false)
    (hx : ∀ t : State, s.vm.Alike t.vm → H.size ≤ t.heap.size → (∀ q : Nat, q < H.size → t.heap[q]? = H[q]?) → XC cls s t)
    (hf : ∀ z ∈ locs, free z.base) (hc : cells + 1 ≤ mc) (hs : slots + 6 ≤ ms) :
    W p l e R s m args below meth c H locs cells slots (vx_MQ below Qc XC args s mc ms free) (F0 m pc ls rest) := by
  intro T hT X
  have htr : e.platform.stackTraces = false := (show e.platform.stackTraces = l.stackTraces by rw [X.admits.platform]).trans hl
  have Y := vx_rebase X (R' := { frames := R.frames, locals := R.locals, cells := 1, slots := 6 }) (Nat.le_refl _) (Nat.le_refl _) hRcells hRslots
  obtain ⟨s', hA⟩ : ∃ z, z = (T.setVm s.vm).setFrames (.invoking m args :: below) := ⟨_, rfl⟩
  rw [← hA] at Y
  have hvm : s'.vm = s.vm := by rw [hA]; rfl
  have hhp : s'.heap = H := by rw [hA]; exact hT
  have hW0 : s.WarmedH s'.vm := by rw [hvm]; exact State.WarmedH.refl s
  have hat' : ∀ w ∈ vx_atS own ic cls names, w.before args s' = true := fun w hw => vx_ot_at hW0 hvm.symm (hgood w (List.mem_cons_of_mem _ (List.mem_cons_of_mem _ hw))) (hat w hw)
  have hk' : (Cond.classLink own ik cls).before args s' = true := vx_ot_at hW0 hvm.symm (hgood _ List.mem_cons_self) hk
  have hini' : (Cond.initialized cls).before args s' = true := vx_ot_at hW0 hvm.symm (hgood _ (List.mem_cons_of_mem _ List.mem_cons_self)) hini
  have hU' : vx_Zq Bundle.tN "UNASSIGNED_STACK" Bundle.steD A s' s'.heap := by rw [hhp]; exact vx_Zq.moved hW0.alike (hU.kept hS.2.1)
  have hN' : vx_Zq Bundle.tN "SUPPRESSED_SENTINEL" Bundle.listD A s' s'.heap := by rw [hhp]; exact vx_Zq.moved hW0.alike (hN.kept hS.2.1)
  have h : ∀ w ∈ Bundle.ownAtoms own ic cls names, w.before args s' = true := vx_own hat' (vx_isRefq hU'.1) (vx_isRefq hN'.1) hU'.2.word hN'.2.word
  have hown' : s'.vm.findClass own = some m.cls := by rw [hvm]; exact hown
  have hins : (Cond.instantiable cls 6).before args s' = true := h _ (by simp [Bundle.ownAtoms])
  obtain ⟨vm₁, cX, kX, hfX, hkX, -, -, X₁, st1⟩ := Y.newCold hexec (own := own) (C := cls) (index := ik) (n := 6) hown' hk' hins hini'
    (g := F0 m pc ls rest) rfl (by rw [hb]; exact d0) (Nat.le_refl _) (Nat.le_refl _)
  generalize hT1 : (T.setVm vm₁).pushCell { cls := cX, slots := kX.instanceTypes.map defaultValue, vm := .none } = T1 at X₁ st1
  have hcat : (Value.ref T.heap.size).category = 1 := rfl
  have hcellA : T1.heap[T.heap.size]? = some (freshCell cX kX) := by rw [← hT1]; exact State.heap_pushCell_size _ _
  have d3' : decode c.code (pc + 3) = .ok (.dup, 1) := by rw [hb]; exact d3
  have d4' : decode c.code (pc + 4) = .ok (.ldc_w is, 3) := by rw [hb]; exact d4
  have hstr' : vk_R own is text sa s' := vk_R.warm hW0 hstr
  obtain ⟨U, hsteps, hrun, hend, hW, hsame, ce, hce, hO⟩ := X₁.ctorThrowS hexec htr (own := own) (cls := cls) (names := names) (ic := ic) hown' hcls hnames h (fun x hx => nomatch hx) hfX hkX hcellA (by rw [hhp, hT]; exact Nat.le_refl _) (msg := .ref sa) rfl
    (g := { method := m, pc := pc + 7, locals := ls, stack := .ref sa :: .ref T.heap.size :: .ref T.heap.size :: rest, locked := none }) rfl hsize rfl rfl (rest := rest) rfl
    (by rw [hb]; exact d7) (by rw [hb]; exact d10) hout hRframes (by simp only [List.map_cons, List.sum_cons, hcat]; omega) hlocks
  obtain ⟨f1, f2⟩ := vx_frame hsame
  rw [hhp] at f1 f2
  have hWs : s.WarmedH U.vm := State.WarmedH.trans hW0 hW
  have hcl : s.vm.findClass cls = some ce.cls := by
    have h9 := hO.cls
    rw [hvm] at h9
    exact h9
  have hall : s.sameButNew ({ U with vm := s.vm } : State) locs mc ms := by
    subst hA
    obtain ⟨e1, e2⟩ := hsame
    rw [State.setFrames_setFrames] at e1
    have h2 : (T.setVm s.vm).sameButNew ({ U with vm := s.vm } : State) [] (0 + 1) (0 + 6) := ⟨e1, e2⟩
    have h3 := X.same.trans h2
    rw [List.append_nil] at h3
    exact h3.mono hc hs
  refine ⟨U, ?_, .threw T.heap.size, hrun, hend, Or.inr ⟨T.heap.size, rfl, cls, ce, locs, hx U hWs.alike f1 (fun q hq => f2 q hq (fun z hz => nomatch hz)), hce, hO.vm, hcl, hWs, hall, hf⟩⟩
  refine st1 _ ?_
  show Steps p.tables e below (T1.setTop { method := m, pc := pc + 3, locals := ls, stack := .ref T.heap.size :: rest, locked := none }) _
  jvm_step X₁.here [X₁.here.top, hexec, d3', Value.category]
  exact X₁.ldcStringW hexec (own := own) (text := text) (index := is) (a := sa) hown' hstr'.1 hstr'.2
    (g := { method := m, pc := pc + 4, locals := ls, stack := .ref T.heap.size :: .ref T.heap.size :: rest, locked := none }) rfl d4' _ hsteps
end Ends
section Bodies
variable {l : Launch}
theorem vx_ofW {y : MethodName} {ws ws' : List Cond} {rm : Room} {Pc : Array Value → State → Prop} {Qc : Array Value → State → Outcome → State → Prop} {XC : String → State → State → Prop} {mc ms : Nat} {free : Addr → Prop} {cc : ByteArray} {maxL : Nat} {ret : Option FieldType}
    (hy : plainName y.cls = true) (hw : ws = Cond.code y cc maxL ret :: ws')
    (body : ∀ p e s m args below meth c s₁, BodyLoose p l y (headSpec ws rm) cc maxL ret e s m args below meth c s₁ → c.maxLocals = maxL → (∀ x ∈ c.exceptionTable.toList, False) → Pc args s →
      W p l e (headSpec ws rm).room s m args below meth c s.heap [] 0 0 (vx_MQ below Qc XC args s mc ms free) (entryFrame m args maxL)) : vx_Met l y ws rm Pc Qc XC mc ms free := by
  refine MetFree.of_bodyS (code := cc) (maxLocals := maxL) (ret := ret) hy ?_ ?_
  · intro args s m h hn
    obtain ⟨meth, c, h1, h2, h3, h4, h5, h6, -, -⟩ := Cond.code_spec hn (atoms_spec (ws := ws) h _ (by rw [hw]; exact List.mem_cons_self))
    exact ⟨meth, c, h1, h2, h3, h4, h5, h6⟩
  · intro p e s m args below meth c s₁ B hml hP _
    have hh0 : s₁.heap = s.heap := by rw [B.state]; rfl
    have ht : ∀ x ∈ c.exceptionTable.toList, False := by
      obtain ⟨meth9, c9, h1, h2, -, -, -, -, h7, -⟩ := Cond.code_spec B.named (atoms_spec (ws := ws) B.pre _ (by rw [hw]; exact List.mem_cons_self))
      cases Option.some.inj (h1.symm.trans B.method)
      cases Option.some.inj (h2.symm.trans (Stand.of_body B).code)
      intro x hx
      rw [Array.isEmpty_iff.mp h7] at hx
      cases hx
    obtain ⟨t, a1, o, b1, b2, b3⟩ := body p e s m args below meth c s₁ B hml ht hP s₁ hh0 (Stand.of_body B)
    exact ⟨t, o, a1, b1, b2, b3⟩
/-- the table of a body with handlers -/
theorem vx_table {p : Program} {x y : MethodName} {S : Spec} {cc bytes : ByteArray} {maxL maxL' : Nat} {ret ret' : Option FieldType} {e : Env} {s s₁ : State} {m : MethodId} {args : Array Value} {below : List Frame} {meth : Method} {c : Code} {hh : List (Nat × Nat × Nat × Nat)}
    (B : BodyLoose p l y S cc maxL ret e s m args below meth c s₁) (h : (Cond.codeWith y bytes maxL' ret' hh).before args s = true) : c.exceptionTable.toList = tableOf hh := by
  obtain ⟨m9, meth9, c9, hn9, h1, h2, -, -, h6, -⟩ := Cond.codeWith_spec h
  cases Option.some.inj (hn9.symm.trans B.named)
  cases Option.some.inj (h1.symm.trans B.method)
  cases Option.some.inj (h2.symm.trans (Stand.of_body B).code)
  rw [← h6, table_eq]
end Bodies
end VXA
/-! ===== END ===== -/
/-! ===== BEGIN a static call of a method with an exception table ===== -/
section VXS
variable {p : Program} {l : Launch} {e : Env} {R : Room} {s : State} {m : MethodId} {args : Array Value} {below : List Frame} {meth : Method} {c : Code} {T : State} {H : Heap} {locs : List Loc} {cells slots : Nat}
abbrev vx_CSW (R : Room) (s : State) (args : Array Value) (own : String) (index : Nat) (y : MethodName) (bytes : ByteArray) (maxL : Nat) (ret : Option FieldType) (hh : List (Nat × Nat × Nat × Nat)) (ws : List Cond) (rm : Room) (mc ms n : Nat) : Prop :=
  (rm.cells = mc ∧ rm.slots = ms ∧ rm.frames + 1 ≤ R.frames ∧ 8 + (maxL + 11) + rm.locals ≤ R.locals ∧ (∀ w ∈ ws, ∀ (a' : Array Value) (U : State), s.WarmedH U.vm → w.before a' U = true) ∧ Cond.codeWith y bytes maxL ret hh ∈ ws) ∧
  (Cond.codeWith y bytes maxL ret hh).before args s = true ∧ (Cond.initialized y.cls).before args s = true ∧ (y.cls ≠ "java/lang/invoke/MethodHandle" ∧ y.cls ≠ "java/lang/invoke/VarHandle") ∧
  (∀ sig, parseMethodDescriptor y.desc = some sig → n = sig.parameters.length) ∧ (Cond.methodLink own index y).before args s = true ∧ (Cond.static y).before args s = true
theorem vx_cwSW {own : String} {index maxL mc ms : Nat} {y : MethodName} {bytes : ByteArray} {ret : Option FieldType} {hh : List (Nat × Nat × Nat × Nat)} {Ts ws ws' : List Cond} {rm : Room} (n : Nat) (ht : ∀ w ∈ Ts, w.before args s = true) (hT : GoodIn Ts (va_wsS own index y ws)) (hw : ws = Cond.codeWith y bytes maxL ret hh :: ws') (hrc : rm.cells = mc) (hrs : rm.slots = ms)
    (hd : y.cls ≠ "java/lang/invoke/MethodHandle" ∧ y.cls ≠ "java/lang/invoke/VarHandle" ∧ (parseMethodDescriptor y.desc).map (fun d => d.parameters.length) = some n) (hR : rm.frames + 1 ≤ R.frames ∧ 8 + (maxL + 11) + rm.locals ≤ R.locals) :
    vx_CSW R s args own index y bytes maxL ret hh ws rm mc ms n := by
  have ok : ∀ w ∈ va_wsS own index y ws, w.before args s = true := fun w h => ht w (hT w h).1
  have hG : GoodIn Ts ws := fun w h => hT w (by unfold va_wsS; exact List.mem_append_right _ h)
  have hc : Cond.codeWith y bytes maxL ret hh ∈ ws := by rw [hw]; exact List.mem_cons_self
  refine ⟨⟨hrc, hrs, hR.1, hR.2, pay_in ht hG, hc⟩, ht _ (hG _ hc).1, ok _ (by simp [va_wsS]), ⟨hd.1, hd.2.1⟩, fun sig h => ?_, ok _ (by simp [va_wsS]), ok _ (by simp [va_wsS])⟩
  have h2 := hd.2.2
  rw [h] at h2
  exact (Option.some.inj h2).symm
theorem vx_callSW (X : Stand p l e R s m args below meth c T locs cells slots) (hexec : p.tables.exec = Jvm.exec) {own : String} {index : Nat} {y : MethodName} {bytes : ByteArray} {maxL : Nat} {ret : Option FieldType} {hh : List (Nat × Nat × Nat × Nat)}
    (hown : s.vm.findClass own = some m.cls) (hlink : (Cond.methodLink own index y).before args s = true) (hstat : (Cond.static y).before args s = true) (hinit : (Cond.initialized y.cls).before args s = true)
    (hcode : (Cond.codeWith y bytes maxL ret hh).before args s = true) (hy : y.cls ≠ "java/lang/invoke/MethodHandle" ∧ y.cls ≠ "java/lang/invoke/VarHandle")
    {W9 : Nat} {Pre : Pt → Array Value → Prop} {Post : Pt → Array Value → Option Value → Pt → Prop} (hK : Back l R p e below s args y 3 W9 Pre Post)
    {g : JFrame} (hg : g.method = m) (hsize : g.locals.size = c.maxLocals) {argsL rest : List Value} (hlen : ∀ sig, parseMethodDescriptor y.desc = some sig → argsL.length = sig.parameters.length)
    (hstack : g.stack = argsL.reverse ++ rest) (hW : 2 * g.monitorRoom + (rest.map fun v => v.category).sum ≤ W9) (hdg : decode c.code g.pc = .ok (.invokestatic index, 3))
    (hpre : ∀ vm₁, s.WarmedH vm₁ → Pre ⟨T.setVm vm₁, locs, cells, slots⟩ argsL.toArray) :
    ∃ (v : Option Value) (vm₁ : Vm) (B : Pt), s.WarmedH vm₁ ∧ Stand p l e R s m args below meth c B.U B.locs B.cells B.slots ∧ Post ⟨T.setVm vm₁, locs, cells, slots⟩ argsL.toArray v B ∧
      ∀ target, Steps p.tables e below (B.U.setTop { g with pc := g.pc + 3, stack := v.toList ++ rest }) target → Steps p.tables e below (T.setTop g) target := by
  obtain ⟨mk, methM, cM, hnamed, hmethM, -, -, -, -, -, -, hsigM⟩ := Cond.codeWith_spec hcode
  have hstatic : methM.isStatic = true := Cond.static_spec hnamed hmethM hstat
  obtain ⟨kP, hkP, -⟩ := className_of_methodNamed hnamed
  have hinitP : kP.init = .initialized := Cond.initialized_spec (findClass_of_methodNamed hnamed) hkP hinit
  obtain ⟨vm₁, X₁, hstep₁⟩ := X.invokestatic hexec hown hlink hnamed hmethM hstatic hkP hinitP hy (g := g) hg (argsL := argsL) (rest := rest) (hlen _ hsigM) hstack hdg
  obtain ⟨v, B, X', hpost, hsteps⟩ := hK m meth c ⟨T.setVm vm₁, locs, cells, slots⟩ { g with stack := rest } (.invokestatic index) mk argsL.toArray X₁ hg hsize hdg hW (X₁.named hnamed) (hpre vm₁ X₁.warmed)
  exact ⟨v, vm₁, B, X₁.warmed, X', hpost, fun target h => hstep₁ _ fun acts => by rw [doInvoke_state]; exact hsteps.trans h⟩
theorem vx_runSW {y : MethodName} {bytes cc : ByteArray} {maxL nL mc ms n index : Nat} {ret : Option FieldType} {hh : List (Nat × Nat × Nat × Nat)} {ws : List Cond} {rm : Room} {Pc : Array Value → State → Prop} {Qc : Array Value → State → Outcome → State → Prop} {free : Addr → Prop} {Ts : List Cond} {own : String} {As rest : List Value} {g : JFrame}
    (S : CallFix p m c cc nL s args Ts own) (hM : Met l y ws rm Pc Qc mc ms free) (cw : vx_CSW R s args own index y bytes maxL ret hh ws rm mc ms n) (hp : PreS s H Pc As)
    (hg : g.method = m) (hn : As.length = n) (hsize : g.locals.size = nL) (hstack : g.stack = As.reverse ++ rest) (hW : 2 * g.monitorRoom + (rest.map fun v => v.category).sum ≤ 8) (hdg : decode cc g.pc = .ok (.invokestatic index, 3)) (hf : cells + mc ≤ R.cells ∧ slots + ms ≤ R.slots) :
    va_Run p l e R s m args below meth c H locs cells slots mc ms g rest (Qc As.toArray) (free) := by
  obtain ⟨⟨hrc, hrs, hfr, hlo, hws, hcw⟩, hcode, hini, hy, hlen, hl, hstt⟩ := cw
  have hK : Back l R p e below s args y 3 8 (PreOf R mc ms Pc) (PostOf Qc mc ms free) := va_backW (hh := hh) (bytes := bytes) (maxL := maxL) (ret := ret) hM hp.1 hrc hrs hfr hlo hws hcw (fun a' U hW => word_at hW (Or.inl (by first | rfl | simp [Cond.onTables, Cond.keeps, Cond.steady])) hini)
  obtain ⟨hx, hb, hml, ho, -⟩ := S
  intro T hT X
  obtain ⟨v, vm₁, ⟨U', l2, c2, s2⟩, hW₁, X', ⟨g', mk, t, L, e1, e2, hq, h1, hL, h2, h3⟩, st⟩ := vx_callSW X hx (hh := hh) (bytes := bytes) (maxL := maxL) (ret := ret) ho hl hstt hini hcode hy hK hg (hsize.trans hml.symm) (argsL := As) (rest := rest) (fun sig h => hn.trans (hlen sig h)) hstack hW (by rw [hb]; exact hdg)
    (fun vm₁ hW₁ => ⟨hf.1, hf.2, hp.2 (T.setVm vm₁) hT hW₁⟩)
  dsimp only [Pt.U, Pt.locs, Pt.cells, Pt.slots] at X' e1 e2 h1 h2 h3 st
  subst h1; subst h2; subst h3
  exact ⟨v, (T.setVm vm₁).calling g' mk As.toArray, t, U', L, hT, X', hL, e1, e2, hq, st⟩
/-- not caught here, past rows that name other classes: it goes on to the caller -/
theorem vx_outP {p : Program} {l : Launch} {e : Env} {R : Room} {s : State} {m : MethodId} {args : Array Value} {below : List Frame} {meth : Method} {c : Code} {H : Heap} {locs : List Loc} {cells slots : Nat} {free : Addr → Prop} {ls : Array Slot} {rest : List Value} {Qc : Array Value → State → Outcome → State → Prop} {XC : String → State → State → Prop}
    {pc : Nat} {own E : String} {ce : Cell} {q : Addr} {mc ms : Nat} (hown : s.vm.findClass own = some m.cls) (hlocks : meth.locks = false)
    (hpass : ∀ z ∈ c.exceptionTable.toList, covers z pc = false ∨ (z.catchType ≠ 0 ∧ ∃ nm : String, (Cond.classLink own z.catchType nm).before args s = true ∧ va_Nc E nm s)) (hcell : H[q]? = some ce) (hv : ce.vm = .none) (hcl : s.vm.findClass E = some ce.cls)
    (hx : ∀ t : State, t.heap = H → s.vm.Alike t.vm → XC E s t) (hf : ∀ z ∈ locs, free z.base) (hc : cells ≤ mc) (hs : slots ≤ ms) :
    vx_W p l e R s m args below meth c H locs cells slots (vx_MQ below Qc XC args s mc ms free) (F0 m pc ls rest) q := by
  intro T hT X
  have hpl : e.platform.magicAccessors = ({} : Platform).magicAccessors := by rw [X.admits.platform]
  obtain ⟨vm', hW', X', st⟩ := X.outThrough hlocks q (g := F0 m pc ls rest) rfl rfl rfl (cell := ce) (by rw [hT]; exact hcell) (by rw [hv]; rfl)
    (by obtain ⟨k9, h9, -⟩ := Vm.findClass_spec hcl; exact ⟨k9, h9⟩) (fun z hz => by
      rcases hpass z hz with h | ⟨hz0, nm, hl1, hn1⟩
      · exact Or.inl h
      · obtain ⟨c6, hc6, hcl6⟩ := Cond.classLink_spec hown hl1 e.platform hpl
        obtain ⟨a8, b8, h1, h2, h3⟩ := hn1
        cases Option.some.inj (h1.symm.trans hcl)
        cases Option.some.inj (h2.symm.trans hc6)
        exact Or.inr ⟨hz0, _, hcl6, h3⟩)
  obtain ⟨g₀, hfr⟩ := X'.frames_eq
  have hcell9 : ((T.setVm vm').setFrames (.throwing q :: below)).heap[q]? = some ce := by
    show T.heap[q]? = some ce
    rw [hT]; exact hcell
  have hend : Ended ((T.setVm vm').setFrames (.throwing q :: below)) below (.threw q) := State.frames_setFrames _ (State.cur_lt_of_frames hfr)
  refine ⟨(T.setVm vm').setFrames (.throwing q :: below), ?_, .threw q, X'.here.running, hend, Or.inr ⟨q, rfl, E, ce, locs, hx _ hT (X'.ends _).1.alike, hcell9, hv, hcl, (X'.ends _).1, (X'.ends _).2.mono hc hs, hf⟩⟩
  rw [X.pushThrowing_eq]
  exact st
/-- a thing of a world lies in the heap -/
theorem vx_lt {D : va_G} {cl : List vw_C} {ws : va_W} {H1 : Heap} (h : va_P D cl ws H1) {k : Nat} {q : Nat × va_E} (hk : ws[k]? = some q) : q.1 < H1.size := (h k q hk).lt
end VXS
/-! ===== END ===== -/
/-! ===== BEGIN methods with a table of their own: called by a name, returning or throwing ===== -/
section VXH
/-! vx_backW, vx_callVX, vx_callSX, vx_callVW, vx_runVW, vx_runVX, vx_runSX, vx_ofWH follow the same proofs as their sisters above (Free/Laws.lean, Shelf42/LK1.lean); vx_outP calls Shelf42/NT130.lean (outThrough). -/
section
variable {l : Launch} {R : Room} {p : Program} {e : Env} {below : List Frame} {s : State} {sargs : Array Value} {y : MethodName} {len W9 : Nat}
theorem vx_backW {ws : List Cond} {rm : Room} {Pc : Array Value → State → Prop} {Qc : Array Value → State → Outcome → State → Prop} {XC : String → State → State → Prop} {mc ms : Nat} {free : Addr → Prop} {bytes : ByteArray} {maxL : Nat} {ret : Option FieldType} {hh : List (Nat × Nat × Nat × Nat)}
    (hM : vx_Met l y ws rm Pc Qc XC mc ms free) (hblind : FrameBlind Pc) (hrc : rm.cells = mc) (hrs : rm.slots = ms)
    (hframes : rm.frames + 1 ≤ R.frames) (hlocals : W9 + (maxL + 11) + rm.locals ≤ R.locals)
    (hws : ∀ w ∈ ws, ∀ a' U, s.WarmedH U.vm → w.before a' U = true) (hcode : Cond.codeWith y bytes maxL ret hh ∈ ws) (hinit : ∀ a' U, s.WarmedH U.vm → (Cond.initialized y.cls).before a' U = true) :
    vx_Back l R p e below s sargs y len W9 (PreOf R mc ms Pc) (PostOf Qc mc ms free) (vx_Post XC mc ms free) := by
  intro m meth c A g ig mk a X hg hsize hdg hW hn hp
  have h1 : (headSpec ws rm).pre.before a A.U = true := atoms_intro fun w hw => hws w hw _ _ X.warmed
  have h2 : (Cond.codeWith y bytes maxL ret hh).before a A.U = true := hws _ hcode _ _ X.warmed
  have h3 : (Cond.initialized y.cls).before a A.U = true := hinit _ _ X.warmed
  have h4 : A.cells + (headSpec ws rm).room.cells ≤ R.cells := by rw [show (headSpec ws rm).room.cells = mc from hrc]; exact hp.1
  have h5 : A.slots + (headSpec ws rm).room.slots ≤ R.slots := by rw [show (headSpec ws rm).room.slots = ms from hrs]; exact hp.2.1
  have hPc : Pc a (A.U.calling g mk a) := hblind _ _ _ _ hp.2.2
  obtain ⟨U, Ls, c0, s0⟩ := A
  dsimp only [Pt.U, Pt.locs, Pt.cells, Pt.slots] at h1 h2 h3 h4 h5 X hn hPc ⊢
  obtain ⟨m9, methY, cY, hn9, hmY, hcY, -, hlY, -⟩ := Cond.codeWith_spec h2
  cases Option.some.inj (hn9.symm.trans hn)
  obtain ⟨kY, hkY, -⟩ := className_of_methodNamed hn
  have hinitY : kY.init = .initialized := Cond.initialized_spec (findClass_of_methodNamed hn) hkY h3
  have h : At U g.method c below := by rw [hg]; exact X.here
  have hlocals9 : W9 + (maxL + 11) + (headSpec ws rm).room.locals ≤ R.locals := hlocals
  have happ : (headSpec ws rm).appliesLoose y e.platform (U.calling g mk a) = true :=
    Spec.appliesLoose_calling (g := g) h hdg hn hkY hinitY
      (X.room_calling (g := g) (R' := (headSpec ws rm).room) hsize hmY hcY hframes (by rw [hlY]; omega) h4 h5) h1
  obtain ⟨mid, hmid⟩ := h.above
  have hfr : (U.setTop g).frames = (.java g :: mid) ++ below := by rw [State.frames_setTop' g h.top, hmid]; rfl
  obtain ⟨o, s₂, hsteps, -, hend, hq⟩ := Steps.callFree hM p X.admits X.cas X.clock (acts := []) hfr happ hPc trivial
  have hq' : vx_Q Qc XC mc ms free a (U.calling g mk a) o s₂ := hq
  rw [State.frames_setTop' g h.top] at hend
  obtain ⟨g₀, hg0⟩ := Option.isSome_iff_exists.mp h.top
  obtain ⟨r, hr⟩ := State.topJava?_eq_some.mp hg0
  have hr' : (({ U with heap := s₂.heap, slotsUsed := s₂.slotsUsed } : State).setVm s₂.vm).frames = .java g₀ :: r := hr
  rcases hq' with ⟨hqc, L, hfe, hL⟩ | ⟨q, rfl, E, ce, L, hx, hce, hcv, hcl, hW₂, hsm, hL⟩
  · obtain ⟨⟨v, rfl⟩, hW₂, e2, q2, q3, q4, q5, q6⟩ := id hfe
    have e3 : s₂ = ({ (U.calling g mk a).setFrames s₂.frames with heap := s₂.heap, slotsUsed := s₂.slotsUsed } : State).setVm s₂.vm := by
      have : s₂ = ({ s₂ with vm := (U.calling g mk a).vm } : State).setVm s₂.vm := rfl
      rw [e2] at this
      exact this
    obtain ⟨c₂, i₂, len₂, hc₂, hd₂, hf₂⟩ := hend
    have hW' : U.WarmedH s₂.vm := hW₂
    have hcc : c₂ = c := by
      have h1 : s₂.code? g.method = U.code? g.method := by
        rw [State.code?_eq, State.code?_eq, hW'.alike.method?]
      exact Option.some.inj (hc₂.symm.trans (h1.trans h.code))
    subst hcc
    have hlen : len₂ = len := by rw [hdg] at hd₂; cases hd₂; rfl
    subst hlen
    have hs₂ : s₂ = (({ U with heap := s₂.heap, slotsUsed := s₂.slotsUsed } : State).setVm s₂.vm).setTop { g with pc := g.pc + len₂, stack := v.toList ++ g.stack } := by
      refine e3.trans ?_
      rw [hf₂, State.calling_eq h.top, State.setFrames_setFrames, State.setTop_of_frames _ hr', hr]
      rfl
    have hsame : U.sameButNew ({ U with heap := s₂.heap, slotsUsed := s₂.slotsUsed } : State) L mc ms := by
      refine ⟨?_, q2, q3, q4, q5, q6⟩
      obtain ⟨t, ht, -⟩ := State.frames_cons hr
      show ({ U with heap := s₂.heap, slotsUsed := s₂.slotsUsed } : State) = { U.setFrames U.frames with heap := s₂.heap, slotsUsed := s₂.slotsUsed }
      rw [State.setFrames_self ht]
    subst hg
    refine Or.inl ⟨v, ⟨(({ U with heap := s₂.heap, slotsUsed := s₂.slotsUsed } : State).setVm s₂.vm), Ls ++ L, c0 + mc, s0 + ms⟩,
      ⟨X.admits, X.cas, X.clock, X.frames, X.room, X.hears, X.method, X.code, (X.here.setHeapUsed s₂.heap s₂.slotsUsed).setVm hW'.alike, X.tail, State.WarmedH.trans X.warmed hW', X.limits, X.bytes, X.same.trans (hsame.setVm s.vm)⟩,
      ⟨g, mk, s₂, L, rfl, rfl, hqc, rfl, hL, rfl, rfl⟩, ?_⟩
    show Steps p.tables e below _ ((({ U with heap := s₂.heap, slotsUsed := s₂.slotsUsed } : State).setVm s₂.vm).setTop { g with pc := g.pc + len₂, stack := v.toList ++ g.stack })
    rw [← hs₂]
    exact hsteps
  · obtain ⟨e2, q2, q3, q4, q5, q6⟩ := id hsm
    have e3 : s₂ = ({ (U.calling g mk a).setFrames s₂.frames with heap := s₂.heap, slotsUsed := s₂.slotsUsed } : State).setVm s₂.vm := by
      have : s₂ = ({ s₂ with vm := (U.calling g mk a).vm } : State).setVm s₂.vm := rfl
      rw [e2] at this
      exact this
    have hf₂ : s₂.frames = .throwing q :: .java g :: U.frames.tail := hend
    have hW' : U.WarmedH s₂.vm := hW₂
    have hs₂ : s₂ = ((({ U with heap := s₂.heap, slotsUsed := s₂.slotsUsed } : State).setVm s₂.vm).setTop g).pushFrame (.throwing q) := by
      refine e3.trans ?_
      rw [hf₂, State.calling_eq h.top, State.setFrames_setFrames, State.pushFrame, State.frames_setTop _ hr', State.setTop_of_frames _ hr', State.setFrames_setFrames, hr]
      rfl
    have hsame : U.sameButNew ({ U with heap := s₂.heap, slotsUsed := s₂.slotsUsed } : State) L mc ms := by
      refine ⟨?_, q2, q3, q4, q5, q6⟩
      obtain ⟨t, ht, -⟩ := State.frames_cons hr
      show ({ U with heap := s₂.heap, slotsUsed := s₂.slotsUsed } : State) = { U.setFrames U.frames with heap := s₂.heap, slotsUsed := s₂.slotsUsed }
      rw [State.setFrames_self ht]
    subst hg
    refine Or.inr ⟨q, ⟨(({ U with heap := s₂.heap, slotsUsed := s₂.slotsUsed } : State).setVm s₂.vm), Ls ++ L, c0 + mc, s0 + ms⟩,
      ⟨X.admits, X.cas, X.clock, X.frames, X.room, X.hears, X.method, X.code, (X.here.setHeapUsed s₂.heap s₂.slotsUsed).setVm hW'.alike, X.tail, State.WarmedH.trans X.warmed hW', X.limits, X.bytes, X.same.trans (hsame.setVm s.vm)⟩,
      ⟨g, mk, s₂, L, E, ce, rfl, rfl, hx, hce, hcv, hcl, rfl, hL, rfl, rfl⟩, ?_⟩
    show Steps p.tables e below _ (((({ U with heap := s₂.heap, slotsUsed := s₂.slotsUsed } : State).setVm s₂.vm).setTop g).pushFrame (.throwing q))
    rw [← hs₂]
    exact hsteps
end
variable {p : Program} {l : Launch} {e : Env} {R : Room} {s : State} {m : MethodId} {args : Array Value} {below : List Frame} {meth : Method} {c : Code} {T : State} {H : Heap} {locs : List Loc} {cells slots : Nat}
theorem vx_callVX (X : Stand p l e R s m args below meth c T locs cells slots) (hexec : p.tables.exec = Jvm.exec) {own C : String} {index : Nat} {y : MethodName} {bytes : ByteArray} {maxL : Nat} {ret : Option FieldType} {hh : List (Nat × Nat × Nat × Nat)}
    (hown : s.vm.findClass own = some m.cls) (hlink : (Cond.methodLink own index y).before args s = true) (hinst : (Cond.instanceMethod y).before args s = true) (hsel : (Cond.selects C y y).before args s = true)
    (hcode : (Cond.codeWith y bytes maxL ret hh).before args s = true) (hy : y.cls ≠ "java/lang/invoke/MethodHandle" ∧ y.cls ≠ "java/lang/invoke/VarHandle")
    {W9 : Nat} {Pre : Pt → Array Value → Prop} {Post : Pt → Array Value → Option Value → Pt → Prop} {PostX : Pt → Array Value → Addr → Pt → Prop} (hK : vx_Back l R p e below s args y 3 W9 Pre Post PostX)
    {b : Addr} {cellB : Cell} (hcell : T.heap[b]? = some cellB) (hobj : cellB.vm.isStatics = false) (hcls : s.vm.findClass C = some cellB.cls)
    {g : JFrame} (hg : g.method = m) (hsize : g.locals.size = c.maxLocals) {argsL rest : List Value} (hlen : ∀ sig, parseMethodDescriptor y.desc = some sig → argsL.length = sig.parameters.length)
    (hstack : g.stack = argsL.reverse ++ .ref b :: rest) (hW : 2 * g.monitorRoom + (rest.map fun v => v.category).sum ≤ W9) (hdg : decode c.code g.pc = .ok (.invokevirtual index, 3))
    (hpre : ∀ vm₁, s.WarmedH vm₁ → Pre ⟨T.setVm vm₁, locs, cells, slots⟩ (Value.ref b :: argsL).toArray) :
    (∃ (v : Option Value) (vm₁ : Vm) (B : Pt), s.WarmedH vm₁ ∧ Stand p l e R s m args below meth c B.U B.locs B.cells B.slots ∧ Post ⟨T.setVm vm₁, locs, cells, slots⟩ (Value.ref b :: argsL).toArray v B ∧
      ∀ target, Steps p.tables e below (B.U.setTop { g with pc := g.pc + 3, stack := v.toList ++ rest }) target → Steps p.tables e below (T.setTop g) target) ∨
    (∃ (q : Addr) (vm₁ : Vm) (B : Pt), s.WarmedH vm₁ ∧ Stand p l e R s m args below meth c B.U B.locs B.cells B.slots ∧ PostX ⟨T.setVm vm₁, locs, cells, slots⟩ (Value.ref b :: argsL).toArray q B ∧
      Steps p.tables e below (T.setTop g) ((B.U.setTop { g with stack := rest }).pushFrame (.throwing q))) := by
  obtain ⟨mk, methM, hnamed, hmethM, hstM, habM⟩ := Cond.instanceMethod_spec hinst
  obtain ⟨m8, methM', cM, hn8, hmethM', -, -, -, -, -, -, hsigM⟩ := Cond.codeWith_spec hcode
  cases Option.some.inj (hn8.symm.trans hnamed)
  cases hmethM.symm.trans hmethM'
  obtain ⟨c2, r2, m2, q1, q2, q3, q4, kP, hkP, hkPi⟩ := Cond.selects_spec hsel
  cases hcls.symm.trans q1
  cases (State.methodFound?_of_named hnamed hy).symm.trans q2
  cases hnamed.symm.trans q3
  have hselP : selectMethod e.platform s.vm cellB.cls mk = .method mk := by rw [Launch.admits_selectMethod X.admits]; exact q4
  obtain ⟨vm₁, X₁, hstep₁⟩ := X.invokevirtual hexec hown hlink hnamed hmethM hstM hkP hkPi hy (a := b) (cell := cellB) hcell
    (fun z h => by rw [h] at hobj; cases hobj) hselP hmethM habM hkP hkPi (g := g) hg (argsL := argsL) (rest := rest) (hlen _ hsigM) hstack hdg
  rcases hK m meth c ⟨T.setVm vm₁, locs, cells, slots⟩ { g with stack := rest } (.invokevirtual index) mk (Value.ref b :: argsL).toArray X₁ hg hsize hdg hW (X₁.named hnamed) (hpre vm₁ X₁.warmed) with ⟨v, B, X', hpost, hsteps⟩ | ⟨q, B, X', hpost, hsteps⟩
  · exact Or.inl ⟨v, vm₁, B, X₁.warmed, X', hpost, fun target h => hstep₁ _ fun acts => by rw [doInvoke_state]; exact hsteps.trans h⟩
  · exact Or.inr ⟨q, vm₁, B, X₁.warmed, X', hpost, hstep₁ _ fun acts => by rw [doInvoke_state]; exact hsteps⟩
theorem vx_callSX (X : Stand p l e R s m args below meth c T locs cells slots) (hexec : p.tables.exec = Jvm.exec) {own : String} {index : Nat} {y : MethodName} {bytes : ByteArray} {maxL : Nat} {ret : Option FieldType} {hh : List (Nat × Nat × Nat × Nat)}
    (hown : s.vm.findClass own = some m.cls) (hlink : (Cond.methodLink own index y).before args s = true) (hstat : (Cond.static y).before args s = true) (hinit : (Cond.initialized y.cls).before args s = true)
    (hcode : (Cond.codeWith y bytes maxL ret hh).before args s = true) (hy : y.cls ≠ "java/lang/invoke/MethodHandle" ∧ y.cls ≠ "java/lang/invoke/VarHandle")
    {W9 : Nat} {Pre : Pt → Array Value → Prop} {Post : Pt → Array Value → Option Value → Pt → Prop} {PostX : Pt → Array Value → Addr → Pt → Prop} (hK : vx_Back l R p e below s args y 3 W9 Pre Post PostX)
    {g : JFrame} (hg : g.method = m) (hsize : g.locals.size = c.maxLocals) {argsL rest : List Value} (hlen : ∀ sig, parseMethodDescriptor y.desc = some sig → argsL.length = sig.parameters.length)
    (hstack : g.stack = argsL.reverse ++ rest) (hW : 2 * g.monitorRoom + (rest.map fun v => v.category).sum ≤ W9) (hdg : decode c.code g.pc = .ok (.invokestatic index, 3))
    (hpre : ∀ vm₁, s.WarmedH vm₁ → Pre ⟨T.setVm vm₁, locs, cells, slots⟩ argsL.toArray) :
    (∃ (v : Option Value) (vm₁ : Vm) (B : Pt), s.WarmedH vm₁ ∧ Stand p l e R s m args below meth c B.U B.locs B.cells B.slots ∧ Post ⟨T.setVm vm₁, locs, cells, slots⟩ argsL.toArray v B ∧
      ∀ target, Steps p.tables e below (B.U.setTop { g with pc := g.pc + 3, stack := v.toList ++ rest }) target → Steps p.tables e below (T.setTop g) target) ∨
    (∃ (q : Addr) (vm₁ : Vm) (B : Pt), s.WarmedH vm₁ ∧ Stand p l e R s m args below meth c B.U B.locs B.cells B.slots ∧ PostX ⟨T.setVm vm₁, locs, cells, slots⟩ argsL.toArray q B ∧
      Steps p.tables e below (T.setTop g) ((B.U.setTop { g with stack := rest }).pushFrame (.throwing q))) := by
  obtain ⟨mk, methM, cM, hnamed, hmethM, -, -, -, -, -, -, hsigM⟩ := Cond.codeWith_spec hcode
  have hstatic : methM.isStatic = true := Cond.static_spec hnamed hmethM hstat
  obtain ⟨kP, hkP, -⟩ := className_of_methodNamed hnamed
  have hinitP : kP.init = .initialized := Cond.initialized_spec (findClass_of_methodNamed hnamed) hkP hinit
  obtain ⟨vm₁, X₁, hstep₁⟩ := X.invokestatic hexec hown hlink hnamed hmethM hstatic hkP hinitP hy (g := g) hg (argsL := argsL) (rest := rest) (hlen _ hsigM) hstack hdg
  rcases hK m meth c ⟨T.setVm vm₁, locs, cells, slots⟩ { g with stack := rest } (.invokestatic index) mk argsL.toArray X₁ hg hsize hdg hW (X₁.named hnamed) (hpre vm₁ X₁.warmed) with ⟨v, B, X', hpost, hsteps⟩ | ⟨q, B, X', hpost, hsteps⟩
  · exact Or.inl ⟨v, vm₁, B, X₁.warmed, X', hpost, fun target h => hstep₁ _ fun acts => by rw [doInvoke_state]; exact hsteps.trans h⟩
  · exact Or.inr ⟨q, vm₁, B, X₁.warmed, X', hpost, hstep₁ _ fun acts => by rw [doInvoke_state]; exact hsteps⟩
theorem vx_callVW (X : Stand p l e R s m args below meth c T locs cells slots) (hexec : p.tables.exec = Jvm.exec) {own C : String} {index : Nat} {y : MethodName} {bytes : ByteArray} {maxL : Nat} {ret : Option FieldType} {hh : List (Nat × Nat × Nat × Nat)}
    (hown : s.vm.findClass own = some m.cls) (hlink : (Cond.methodLink own index y).before args s = true) (hinst : (Cond.instanceMethod y).before args s = true) (hsel : (Cond.selects C y y).before args s = true)
    (hcode : (Cond.codeWith y bytes maxL ret hh).before args s = true) (hy : y.cls ≠ "java/lang/invoke/MethodHandle" ∧ y.cls ≠ "java/lang/invoke/VarHandle")
    {W9 : Nat} {Pre : Pt → Array Value → Prop} {Post : Pt → Array Value → Option Value → Pt → Prop} (hK : Back l R p e below s args y 3 W9 Pre Post)
    {b : Addr} {cellB : Cell} (hcell : T.heap[b]? = some cellB) (hobj : cellB.vm.isStatics = false) (hcls : s.vm.findClass C = some cellB.cls)
    {g : JFrame} (hg : g.method = m) (hsize : g.locals.size = c.maxLocals) {argsL rest : List Value} (hlen : ∀ sig, parseMethodDescriptor y.desc = some sig → argsL.length = sig.parameters.length)
    (hstack : g.stack = argsL.reverse ++ .ref b :: rest) (hW : 2 * g.monitorRoom + (rest.map fun v => v.category).sum ≤ W9) (hdg : decode c.code g.pc = .ok (.invokevirtual index, 3))
    (hpre : ∀ vm₁, s.WarmedH vm₁ → Pre ⟨T.setVm vm₁, locs, cells, slots⟩ (Value.ref b :: argsL).toArray) :
    ∃ (v : Option Value) (vm₁ : Vm) (B : Pt), s.WarmedH vm₁ ∧ Stand p l e R s m args below meth c B.U B.locs B.cells B.slots ∧ Post ⟨T.setVm vm₁, locs, cells, slots⟩ (Value.ref b :: argsL).toArray v B ∧
      ∀ target, Steps p.tables e below (B.U.setTop { g with pc := g.pc + 3, stack := v.toList ++ rest }) target → Steps p.tables e below (T.setTop g) target := by
  obtain ⟨mk, methM, hnamed, hmethM, hstM, habM⟩ := Cond.instanceMethod_spec hinst
  obtain ⟨m8, methM', cM, hn8, hmethM', -, -, -, -, -, -, hsigM⟩ := Cond.codeWith_spec hcode
  cases Option.some.inj (hn8.symm.trans hnamed)
  cases hmethM.symm.trans hmethM'
  obtain ⟨c2, r2, m2, q1, q2, q3, q4, kP, hkP, hkPi⟩ := Cond.selects_spec hsel
  cases hcls.symm.trans q1
  cases (State.methodFound?_of_named hnamed hy).symm.trans q2
  cases hnamed.symm.trans q3
  have hselP : selectMethod e.platform s.vm cellB.cls mk = .method mk := by rw [Launch.admits_selectMethod X.admits]; exact q4
  obtain ⟨vm₁, X₁, hstep₁⟩ := X.invokevirtual hexec hown hlink hnamed hmethM hstM hkP hkPi hy (a := b) (cell := cellB) hcell
    (fun z h => by rw [h] at hobj; cases hobj) hselP hmethM habM hkP hkPi (g := g) hg (argsL := argsL) (rest := rest) (hlen _ hsigM) hstack hdg
  obtain ⟨v, B, X', hpost, hsteps⟩ := hK m meth c ⟨T.setVm vm₁, locs, cells, slots⟩ { g with stack := rest } (.invokevirtual index) mk (Value.ref b :: argsL).toArray X₁ hg hsize hdg hW (X₁.named hnamed) (hpre vm₁ X₁.warmed)
  exact ⟨v, vm₁, B, X₁.warmed, X', hpost, fun target h => hstep₁ _ fun acts => by rw [doInvoke_state]; exact hsteps.trans h⟩
abbrev vx_CVW (R : Room) (s : State) (args : Array Value) (own C : String) (index : Nat) (y : MethodName) (bytes : ByteArray) (maxL : Nat) (ret : Option FieldType) (hh : List (Nat × Nat × Nat × Nat)) (ws : List Cond) (rm : Room) (mc ms n : Nat) : Prop :=
  (rm.cells = mc ∧ rm.slots = ms ∧ rm.frames + 1 ≤ R.frames ∧ 8 + (maxL + 11) + rm.locals ≤ R.locals ∧ (∀ w ∈ ws, ∀ (a' : Array Value) (U : State), s.WarmedH U.vm → w.before a' U = true) ∧ Cond.codeWith y bytes maxL ret hh ∈ ws) ∧
  (Cond.codeWith y bytes maxL ret hh).before args s = true ∧ (Cond.initialized y.cls).before args s = true ∧ (y.cls ≠ "java/lang/invoke/MethodHandle" ∧ y.cls ≠ "java/lang/invoke/VarHandle") ∧
  (∀ sig, parseMethodDescriptor y.desc = some sig → n = sig.parameters.length) ∧ (Cond.methodLink own index y).before args s = true ∧ (Cond.instanceMethod y).before args s = true ∧ (Cond.selects C y y).before args s = true
theorem vx_cwVW {own C : String} {index maxL mc ms : Nat} {y : MethodName} {bytes : ByteArray} {ret : Option FieldType} {hh : List (Nat × Nat × Nat × Nat)} {Ts ws ws' : List Cond} {rm : Room} (n : Nat) (ht : ∀ w ∈ Ts, w.before args s = true) (hT : GoodIn Ts (wsV own index C y ws)) (hw : ws = Cond.codeWith y bytes maxL ret hh :: ws') (hrc : rm.cells = mc) (hrs : rm.slots = ms)
    (hd : y.cls = C ∧ y.cls ≠ "java/lang/invoke/MethodHandle" ∧ y.cls ≠ "java/lang/invoke/VarHandle" ∧ (parseMethodDescriptor y.desc).map (fun d => d.parameters.length) = some n) (hR : rm.frames + 1 ≤ R.frames ∧ 8 + (maxL + 11) + rm.locals ≤ R.locals) :
    vx_CVW R s args own C index y bytes maxL ret hh ws rm mc ms n := by
  obtain ⟨hC, hd⟩ := hd
  subst hC
  have ok : ∀ w ∈ wsV own index y.cls y ws, w.before args s = true := fun w h => ht w (hT w h).1
  have hG : GoodIn Ts ws := fun w h => hT w (by unfold wsV; exact List.mem_append_right _ h)
  have hc : Cond.codeWith y bytes maxL ret hh ∈ ws := by rw [hw]; exact List.mem_cons_self
  refine ⟨⟨hrc, hrs, hR.1, hR.2, pay_in ht hG, hc⟩, ht _ (hG _ hc).1, ok _ (by simp [wsV]), ⟨hd.1, hd.2.1⟩, fun sig h => ?_, ok _ (by simp [wsV]), ok _ (by simp [wsV]), ok _ (by simp [wsV])⟩
  have h2 := hd.2.2
  rw [h] at h2
  exact (Option.some.inj h2).symm
theorem vx_runVW {y : MethodName} {bytes cc : ByteArray} {maxL nL mc ms n index : Nat} {ret : Option FieldType} {hh : List (Nat × Nat × Nat × Nat)} {ws : List Cond} {rm : Room} {Pc : Array Value → State → Prop} {Qc : Array Value → State → Outcome → State → Prop} {free : Addr → Prop} {Ts : List Cond} {own C : String} {b : Addr} {As rest : List Value} {g : JFrame}
    (S : CallFix p m c cc nL s args Ts own) (hM : Met l y ws rm Pc Qc mc ms free) (cw : vx_CVW R s args own C index y bytes maxL ret hh ws rm mc ms n) (hp : PreV s H C b Pc As)
    (hg : g.method = m) (hn : As.length = n) (hsize : g.locals.size = nL) (hstack : g.stack = As.reverse ++ .ref b :: rest) (hW : 2 * g.monitorRoom + (rest.map fun v => v.category).sum ≤ 8) (hdg : decode cc g.pc = .ok (.invokevirtual index, 3)) (hf : cells + mc ≤ R.cells ∧ slots + ms ≤ R.slots) :
    va_Run p l e R s m args below meth c H locs cells slots mc ms g rest (Qc (Value.ref b :: As).toArray) free := by
  obtain ⟨⟨hrc, hrs, hfr, hlo, hws, hcw⟩, hcode, hini, hy, hlen, hl, hin, hse⟩ := cw
  have hK : Back l R p e below s args y 3 8 (PreOf R mc ms Pc) (PostOf Qc mc ms free) := va_backW (hh := hh) (bytes := bytes) (maxL := maxL) (ret := ret) hM hp.1 hrc hrs hfr hlo hws hcw (fun a' U hW => word_at hW (Or.inl (by first | rfl | simp [Cond.onTables, Cond.keeps, Cond.steady])) hini)
  obtain ⟨hx, hb, hml, ho, -⟩ := S
  obtain ⟨-, ⟨cellB, hcB, hoB, hclB⟩, hPc⟩ := hp
  intro T hT X
  obtain ⟨v, vm₁, ⟨U', l2, c2, s2⟩, hW₁, X', ⟨g', mk, t, L, e1, e2, hq, h1, hL, h2, h3⟩, st⟩ := vx_callVW X hx (C := C) (hh := hh) (bytes := bytes) (maxL := maxL) (ret := ret) ho hl hin hse hcode hy hK (by rw [hT]; exact hcB) hoB hclB hg (hsize.trans hml.symm) (argsL := As) (rest := rest) (fun sig h => hn.trans (hlen sig h)) hstack hW (by rw [hb]; exact hdg)
    (fun vm₁ hW₁ => ⟨hf.1, hf.2, hPc (T.setVm vm₁) hT hW₁⟩)
  dsimp only [Pt.U, Pt.locs, Pt.cells, Pt.slots] at X' e1 e2 h1 h2 h3 st
  subst h1; subst h2; subst h3
  exact ⟨v, (T.setVm vm₁).calling g' mk (Value.ref b :: As).toArray, t, U', L, hT, X', hL, e1, e2, hq, st⟩
section
variable {y : MethodName} {bytes cc : ByteArray} {maxL nL mc ms n index : Nat} {ret : Option FieldType} {ws : List Cond} {rm : Room} {Pc : Array Value → State → Prop} {Qc : Array Value → State → Outcome → State → Prop} {XC : String → State → State → Prop} {free : Addr → Prop} {Ts : List Cond} {own C : String} {b : Addr} {As rest : List Value} {g : JFrame}
theorem vx_runVX {hh : List (Nat × Nat × Nat × Nat)} (S : CallFix p m c cc nL s args Ts own) (hM : vx_Met l y ws rm Pc Qc XC mc ms free) (cw : vx_CVW R s args own C index y bytes maxL ret hh ws rm mc ms n) (hp : PreV s H C b Pc As)
    (hg : g.method = m) (hn : As.length = n) (hsize : g.locals.size = nL) (hstack : g.stack = As.reverse ++ .ref b :: rest) (hW : 2 * g.monitorRoom + (rest.map fun v => v.category).sum ≤ 8) (hdg : decode cc g.pc = .ok (.invokevirtual index, 3)) (hf : cells + mc ≤ R.cells ∧ slots + ms ≤ R.slots) :
    vx_Run p l e R s m args below meth c H locs cells slots mc ms g rest (Qc (Value.ref b :: As).toArray) XC free := by
  obtain ⟨⟨hrc, hrs, hfr, hlo, hws, hcw⟩, hcode, hini, hy, hlen, hl, hin, hse⟩ := cw
  have hK : vx_Back l R p e below s args y 3 8 (PreOf R mc ms Pc) (PostOf Qc mc ms free) (vx_Post XC mc ms free) := vx_backW (hh := hh) (bytes := bytes) (maxL := maxL) (ret := ret) hM hp.1 hrc hrs hfr hlo hws hcw (fun a' U hW => word_at hW (Or.inl (by first | rfl | simp [Cond.onTables, Cond.keeps, Cond.steady])) hini)
  obtain ⟨hx, hb, hml, ho, -⟩ := S
  obtain ⟨-, ⟨cellB, hcB, hoB, hclB⟩, hPc⟩ := hp
  intro T hT X
  rcases vx_callVX X hx (C := C) (hh := hh) (bytes := bytes) (maxL := maxL) (ret := ret) ho hl hin hse hcode hy hK (by rw [hT]; exact hcB) hoB hclB hg (hsize.trans hml.symm) (argsL := As) (rest := rest) (fun sig h => hn.trans (hlen sig h)) hstack hW (by rw [hb]; exact hdg)
    (fun vm₁ hW₁ => ⟨hf.1, hf.2, hPc (T.setVm vm₁) hT hW₁⟩) with ⟨v, vm₁, ⟨U', l2, c2, s2⟩, hW₁, X', ⟨g', mk, t, L, e1, e2, hq, h1, hL, h2, h3⟩, st⟩ | ⟨q, vm₁, ⟨U', l2, c2, s2⟩, hW₁, X', ⟨g', mk, t, L, E, ce, e1, e2, hq, hce, hcv, hcl, h1, hL, h2, h3⟩, st⟩
  · dsimp only [Pt.U, Pt.locs, Pt.cells, Pt.slots] at X' e1 e2 h1 h2 h3 st
    subst h1; subst h2; subst h3
    exact Or.inl ⟨v, (T.setVm vm₁).calling g' mk (Value.ref b :: As).toArray, t, U', L, hT, X', hL, e1, e2, hq, st⟩
  · dsimp only [Pt.U, Pt.locs, Pt.cells, Pt.slots] at X' e1 e2 h1 h2 h3 st hcl
    subst h1; subst h2; subst h3
    exact Or.inr ⟨q, (T.setVm vm₁).calling g' mk (Value.ref b :: As).toArray, t, U', L, E, ce, hT, X', hL, e1, e2, hq, hce, hcv, vx_cls hW₁ hcl, st⟩
theorem vx_runSX {hh : List (Nat × Nat × Nat × Nat)} (S : CallFix p m c cc nL s args Ts own) (hM : vx_Met l y ws rm Pc Qc XC mc ms free) (cw : vx_CSW R s args own index y bytes maxL ret hh ws rm mc ms n) (hp : PreS s H Pc As)
    (hg : g.method = m) (hn : As.length = n) (hsize : g.locals.size = nL) (hstack : g.stack = As.reverse ++ rest) (hW : 2 * g.monitorRoom + (rest.map fun v => v.category).sum ≤ 8) (hdg : decode cc g.pc = .ok (.invokestatic index, 3)) (hf : cells + mc ≤ R.cells ∧ slots + ms ≤ R.slots) :
    vx_Run p l e R s m args below meth c H locs cells slots mc ms g rest (Qc As.toArray) XC free := by
  obtain ⟨⟨hrc, hrs, hfr, hlo, hws, hcw⟩, hcode, hini, hy, hlen, hl, hstt⟩ := cw
  have hK : vx_Back l R p e below s args y 3 8 (PreOf R mc ms Pc) (PostOf Qc mc ms free) (vx_Post XC mc ms free) := vx_backW (hh := hh) (bytes := bytes) (maxL := maxL) (ret := ret) hM hp.1 hrc hrs hfr hlo hws hcw (fun a' U hW => word_at hW (Or.inl (by first | rfl | simp [Cond.onTables, Cond.keeps, Cond.steady])) hini)
  obtain ⟨hx, hb, hml, ho, -⟩ := S
  intro T hT X
  rcases vx_callSX X hx (hh := hh) (bytes := bytes) (maxL := maxL) (ret := ret) ho hl hstt hini hcode hy hK hg (hsize.trans hml.symm) (argsL := As) (rest := rest) (fun sig h => hn.trans (hlen sig h)) hstack hW (by rw [hb]; exact hdg)
    (fun vm₁ hW₁ => ⟨hf.1, hf.2, hp.2 (T.setVm vm₁) hT hW₁⟩) with ⟨v, vm₁, ⟨U', l2, c2, s2⟩, hW₁, X', ⟨g', mk, t, L, e1, e2, hq, h1, hL, h2, h3⟩, st⟩ | ⟨q, vm₁, ⟨U', l2, c2, s2⟩, hW₁, X', ⟨g', mk, t, L, E, ce, e1, e2, hq, hce, hcv, hcl, h1, hL, h2, h3⟩, st⟩
  · dsimp only [Pt.U, Pt.locs, Pt.cells, Pt.slots] at X' e1 e2 h1 h2 h3 st
    subst h1; subst h2; subst h3
    exact Or.inl ⟨v, (T.setVm vm₁).calling g' mk As.toArray, t, U', L, hT, X', hL, e1, e2, hq, st⟩
  · dsimp only [Pt.U, Pt.locs, Pt.cells, Pt.slots] at X' e1 e2 h1 h2 h3 st hcl
    subst h1; subst h2; subst h3
    exact Or.inr ⟨q, (T.setVm vm₁).calling g' mk As.toArray, t, U', L, E, ce, hT, X', hL, e1, e2, hq, hce, hcv, vx_cls hW₁ hcl, st⟩
end
end VXH
theorem vx_ofWH {l : Launch} {y : MethodName} {ws ws' : List Cond} {rm : Room} {Pc : Array Value → State → Prop} {Qc : Array Value → State → Outcome → State → Prop} {XC : String → State → State → Prop} {mc ms : Nat} {free : Addr → Prop} {cc : ByteArray} {maxL : Nat} {ret : Option FieldType} {hh : List (Nat × Nat × Nat × Nat)}
    (hy : plainName y.cls = true) (hw : ws = Cond.codeWith y cc maxL ret hh :: ws')
    (body : ∀ p e s m args below meth c s₁, BodyLoose p l y (headSpec ws rm) cc maxL ret e s m args below meth c s₁ → c.maxLocals = maxL → Pc args s →
      W p l e (headSpec ws rm).room s m args below meth c s.heap [] 0 0 (vx_MQ below Qc XC args s mc ms free) (entryFrame m args maxL)) : vx_Met l y ws rm Pc Qc XC mc ms free := by
  refine MetFree.of_bodyS (code := cc) (maxLocals := maxL) (ret := ret) hy ?_ ?_
  · intro args s m h hn
    obtain ⟨m9, meth, c, hn9, h1, h2, h3, h4, -, h5, h6, -⟩ := Cond.codeWith_spec (atoms_spec (ws := ws) h _ (by rw [hw]; exact List.mem_cons_self))
    cases hn.symm.trans hn9
    exact ⟨meth, c, h1, h2, h3, h4, h5, h6⟩
  · intro p e s m args below meth c s₁ B hml hP _
    have hh0 : s₁.heap = s.heap := by rw [B.state]; rfl
    obtain ⟨t, a1, o, b1, b2, b3⟩ := body p e s m args below meth c s₁ B hml hP s₁ hh0 (Stand.of_body B)
    exact ⟨t, o, a1, b1, b2, b3⟩
/-! ===== END ===== -/
end
section
def RX0 : String := "MarlStore$Checker"
def TX0 : u_T := fun k => match k with
  | 0 => ("MarlStore$Checker", "wantedPlace", "I", false)
  | 1 => ("MarlStore$Checker", "wantedCode", "I", false)
  | 2 => ("MarlStore$Checker", "wanted", "I", false)
  | 3 => ("MarlStore$Checker", "count", "I", false)
  | 4 => ("MarlStore$Checker", "walk", "LMarlStore$Walk;", true)
  | 5 => ("MarlStore$Checker", "schemas", "[LMarlStore$Schema;", true)
  | _ => ("MarlStore$Checker", "by", "[I", true)
def tyX0 : Nat → FieldType := fun k => match k with
  | 0 => .int
  | 1 => .int
  | 2 => .int
  | 3 => .int
  | 4 => .object "MarlStore$Walk"
  | 5 => .array (.object "MarlStore$Schema")
  | _ => .array .int
theorem nmX0 : ∀ a, a < 7 → ∀ b, b < 7 → a ≠ b → (TX0 a).2.1 ≠ (TX0 b).2.1 := by decide +kernel
theorem tyX0_ok : ∀ k, k < 7 → parseFieldDescriptor (TX0 k).2.2.1 = some (tyX0 k) := by decide +kernel
abbrev cX0_init : ByteArray := prog_2_method_1_code
def yX0_init : MethodName := ⟨RX0, "<init>", "(LMarlStore$Walk;[LMarlStore$Schema;)V"⟩
abbrev cX0_countFailures : ByteArray := prog_2_method_2_code
def yX0_countFailures : MethodName := ⟨RX0, "countFailures", "(II)I"⟩
abbrev cX0_schemaBelow : ByteArray := prog_2_method_3_code
def yX0_schemaBelow : MethodName := ⟨RX0, "schemaBelow", "(II)I"⟩
abbrev cX0_isOfKind : ByteArray := prog_2_method_4_code
def yX0_isOfKind : MethodName := ⟨RX0, "isOfKind", "(ILMarlStore$Value;LMarlStore$Schema;)Z"⟩
abbrev cX0_note : ByteArray := prog_2_method_5_code
def yX0_note : MethodName := ⟨RX0, "note", "(II)V"⟩
def RX1 : String := "MarlStore$Differ"
def TX1 : u_T := fun k => match k with
  | 0 => ("MarlStore$Differ", "table", "[I", true)
  | 1 => ("MarlStore$Differ", "path", "[I", true)
  | 2 => ("MarlStore$Differ", "written", "[LMarlStore$Operation;", true)
  | _ => ("MarlStore$Differ", "count", "I", false)
def tyX1 : Nat → FieldType := fun k => match k with
  | 0 => .array .int
  | 1 => .array .int
  | 2 => .array (.object "MarlStore$Operation")
  | _ => .int
theorem nmX1 : ∀ a, a < 4 → ∀ b, b < 4 → a ≠ b → (TX1 a).2.1 ≠ (TX1 b).2.1 := by decide +kernel
theorem tyX1_ok : ∀ k, k < 4 → parseFieldDescriptor (TX1 k).2.2.1 = some (tyX1 k) := by decide +kernel
abbrev cX1_init : ByteArray := prog_3_method_1_code
def yX1_init : MethodName := ⟨RX1, "<init>", "()V"⟩
abbrev cX1_compare : ByteArray := prog_3_method_2_code
def yX1_compare : MethodName := ⟨RX1, "compare", "(LMarlStore$Value;LMarlStore$Value;)I"⟩
abbrev cX1_between : ByteArray := prog_3_method_3_code
def yX1_between : MethodName := ⟨RX1, "between", "(LMarlStore$Value;LMarlStore$Value;II)I"⟩
abbrev cX1_betweenObjects : ByteArray := prog_3_method_4_code
def yX1_betweenObjects : MethodName := ⟨RX1, "betweenObjects", "(LMarlStore$Value;LMarlStore$Value;II)I"⟩
abbrev cX1_order : ByteArray := prog_3_method_5_code
def yX1_order : MethodName := ⟨RX1, "order", "(LMarlStore$Value;ILMarlStore$Value;I)I"⟩
abbrev cX1_sizeAt : ByteArray := prog_3_method_6_code
def yX1_sizeAt : MethodName := ⟨RX1, "sizeAt", "(LMarlStore$Value;I)I"⟩
abbrev cX1_fillTable : ByteArray := prog_3_method_7_code
def yX1_fillTable : MethodName := ⟨RX1, "fillTable", "(LMarlStore$Value;LMarlStore$Value;II)Z"⟩
abbrev cX1_leastFrom : ByteArray := prog_3_method_8_code
def yX1_leastFrom : MethodName := ⟨RX1, "leastFrom", "(LMarlStore$Value;ILMarlStore$Value;III)I"⟩
abbrev cX1_pairedFrom : ByteArray := prog_3_method_9_code
def yX1_pairedFrom : MethodName := ⟨RX1, "pairedFrom", "(LMarlStore$Value;ILMarlStore$Value;III)I"⟩
abbrev cX1_freeBehind : ByteArray := prog_3_method_10_code
def yX1_freeBehind : MethodName := ⟨RX1, "freeBehind", "(LMarlStore$Value;LMarlStore$Value;I)I"⟩
abbrev cX1_cell : ByteArray := prog_3_method_11_code
def yX1_cell : MethodName := ⟨RX1, "cell", "(LMarlStore$Value;ILMarlStore$Value;II)I"⟩
abbrev cX1_write : ByteArray := prog_3_method_12_code
def yX1_write : MethodName := ⟨RX1, "write", "(LMarlStore$Value;LMarlStore$Value;)I"⟩
abbrev cX1_operationAt : ByteArray := prog_3_method_13_code
def yX1_operationAt : MethodName := ⟨RX1, "operationAt", "(I)LMarlStore$Operation;"⟩
abbrev cX1_writeAt : ByteArray := prog_3_method_14_code
def yX1_writeAt : MethodName := ⟨RX1, "writeAt", "(LMarlStore$Value;LMarlStore$Value;II)V"⟩
abbrev cX1_writeObjects : ByteArray := prog_3_method_15_code
def yX1_writeObjects : MethodName := ⟨RX1, "writeObjects", "(LMarlStore$Value;LMarlStore$Value;II)V"⟩
abbrev cX1_writeBelow : ByteArray := prog_3_method_16_code
def yX1_writeBelow : MethodName := ⟨RX1, "writeBelow", "(LMarlStore$Value;LMarlStore$Value;III)V"⟩
abbrev cX1_writeLists : ByteArray := prog_3_method_17_code
def yX1_writeLists : MethodName := ⟨RX1, "writeLists", "(LMarlStore$Value;LMarlStore$Value;II)V"⟩
abbrev cX1_note : ByteArray := prog_3_method_18_code
def yX1_note : MethodName := ⟨RX1, "note", "(IIILMarlStore$Value;)V"⟩
def RX2 : String := "MarlStore$Editor"
def TX2 : u_T := fun k => match k with
  | 0 => ("MarlStore$Editor", "whole", "LMarlStore$Value;", false)
  | 1 => ("MarlStore$Editor", "taken", "LMarlStore$Value;", false)
  | 2 => ("MarlStore$Editor", "length", "I", false)
  | 3 => ("MarlStore$Editor", "passed", "[LMarlStore$Value;", true)
  | _ => ("MarlStore$Editor", "places", "[I", true)
def tyX2 : Nat → FieldType := fun k => match k with
  | 0 => .object "MarlStore$Value"
  | 1 => .object "MarlStore$Value"
  | 2 => .int
  | 3 => .array (.object "MarlStore$Value")
  | _ => .array .int
theorem nmX2 : ∀ a, a < 5 → ∀ b, b < 5 → a ≠ b → (TX2 a).2.1 ≠ (TX2 b).2.1 := by decide +kernel
theorem tyX2_ok : ∀ k, k < 5 → parseFieldDescriptor (TX2 k).2.2.1 = some (tyX2 k) := by decide +kernel
abbrev cX2_init : ByteArray := prog_4_method_1_code
def yX2_init : MethodName := ⟨RX2, "<init>", "(LMarlStore$Value;)V"⟩
abbrev cX2_begin : ByteArray := prog_4_method_2_code
def yX2_begin : MethodName := ⟨RX2, "begin", "(LMarlStore$Value;)V"⟩
abbrev cX2_isAllowed : ByteArray := prog_4_method_3_code
def yX2_isAllowed : MethodName := ⟨RX2, "isAllowed", "()Z"⟩
abbrev cX2_perform : ByteArray := prog_4_method_4_code
def yX2_perform : MethodName := ⟨RX2, "perform", "(LMarlStore$Operation;)Z"⟩
abbrev cX2_addAt : ByteArray := prog_4_method_5_code
def yX2_addAt : MethodName := ⟨RX2, "addAt", "([IIILMarlStore$Value;)Z"⟩
abbrev cX2_dropAt : ByteArray := prog_4_method_6_code
def yX2_dropAt : MethodName := ⟨RX2, "dropAt", "([III)Z"⟩
abbrev cX2_putAt : ByteArray := prog_4_method_7_code
def yX2_putAt : MethodName := ⟨RX2, "putAt", "([IILMarlStore$Value;)Z"⟩
abbrev cX2_testAt : ByteArray := prog_4_method_8_code
def yX2_testAt : MethodName := ⟨RX2, "testAt", "([IILMarlStore$Value;)Z"⟩
abbrev cX2_follow : ByteArray := prog_4_method_9_code
def yX2_follow : MethodName := ⟨RX2, "follow", "([II)LMarlStore$Value;"⟩
abbrev cX2_rebuild : ByteArray := prog_4_method_10_code
def yX2_rebuild : MethodName := ⟨RX2, "rebuild", "(LMarlStore$Value;)V"⟩
def RX3 : String := "MarlStore$Operation"
def TX3 : u_T := fun k => match k with
  | 0 => ("MarlStore$Operation", "code", "I", true)
  | 1 => ("MarlStore$Operation", "path", "[I", true)
  | 2 => ("MarlStore$Operation", "step", "I", true)
  | _ => ("MarlStore$Operation", "value", "LMarlStore$Value;", true)
def tyX3 : Nat → FieldType := fun k => match k with
  | 0 => .int
  | 1 => .array .int
  | 2 => .int
  | _ => .object "MarlStore$Value"
theorem nmX3 : ∀ a, a < 4 → ∀ b, b < 4 → a ≠ b → (TX3 a).2.1 ≠ (TX3 b).2.1 := by decide +kernel
theorem tyX3_ok : ∀ k, k < 4 → parseFieldDescriptor (TX3 k).2.2.1 = some (tyX3 k) := by decide +kernel
abbrev cX3_init : ByteArray := prog_5_method_1_code
def yX3_init : MethodName := ⟨RX3, "<init>", "(I[IILMarlStore$Value;)V"⟩
abbrev cX3_inverse : ByteArray := prog_5_method_2_code
def yX3_inverse : MethodName := ⟨RX3, "inverse", "(LMarlStore$Value;)LMarlStore$Operation;"⟩
abbrev cX3_tell : ByteArray := prog_5_method_3_code
def yX3_tell : MethodName := ⟨RX3, "tell", "(I)I"⟩
def RX4 : String := "MarlStore$Patch"
def TX4 : u_T := fun k => match k with
  | 0 => ("MarlStore$Patch", "count", "I", false)
  | _ => ("MarlStore$Patch", "held", "[LMarlStore$Operation;", true)
def tyX4 : Nat → FieldType := fun k => match k with
  | 0 => .int
  | _ => .array (.object "MarlStore$Operation")
theorem nmX4 : ∀ a, a < 2 → ∀ b, b < 2 → a ≠ b → (TX4 a).2.1 ≠ (TX4 b).2.1 := by decide +kernel
theorem tyX4_ok : ∀ k, k < 2 → parseFieldDescriptor (TX4 k).2.2.1 = some (tyX4 k) := by decide +kernel
abbrev cX4_init : ByteArray := prog_6_method_1_code
def yX4_init : MethodName := ⟨RX4, "<init>", "()V"⟩
abbrev cX4_clear : ByteArray := prog_6_method_2_code
def yX4_clear : MethodName := ⟨RX4, "clear", "()V"⟩
abbrev cX4_append : ByteArray := prog_6_method_3_code
def yX4_append : MethodName := ⟨RX4, "append", "(LMarlStore$Operation;)V"⟩
abbrev cX4_operationAt : ByteArray := prog_6_method_4_code
def yX4_operationAt : MethodName := ⟨RX4, "operationAt", "(I)LMarlStore$Operation;"⟩
def RX5 : String := "MarlStore$Pointer"
def TX5 : u_T := fun k => match k with
  | 0 => ("MarlStore$Pointer", "at", "I", false)
  | 1 => ("MarlStore$Pointer", "length", "I", false)
  | _ => ("MarlStore$Pointer", "path", "[I", true)
def tyX5 : Nat → FieldType := fun k => match k with
  | 0 => .int
  | 1 => .int
  | _ => .array .int
theorem nmX5 : ∀ a, a < 3 → ∀ b, b < 3 → a ≠ b → (TX5 a).2.1 ≠ (TX5 b).2.1 := by decide +kernel
theorem tyX5_ok : ∀ k, k < 3 → parseFieldDescriptor (TX5 k).2.2.1 = some (tyX5 k) := by decide +kernel
abbrev cX5_init : ByteArray := prog_7_method_1_code
def yX5_init : MethodName := ⟨RX5, "<init>", "()V"⟩
abbrev cX5_goToWhole : ByteArray := prog_7_method_3_code
def yX5_goToWhole : MethodName := ⟨RX5, "goToWhole", "(I)V"⟩
abbrev cX5_goDown : ByteArray := prog_7_method_4_code
def yX5_goDown : MethodName := ⟨RX5, "goDown", "(I)Z"⟩
abbrev cX5_goUp : ByteArray := prog_7_method_5_code
def yX5_goUp : MethodName := ⟨RX5, "goUp", "()Z"⟩
abbrev cX5_settle : ByteArray := prog_7_method_7_code
def yX5_settle : MethodName := ⟨RX5, "settle", "(LMarlStore$Value;)V"⟩
def RX6 : String := "MarlStore$Query"
def TX6 : u_T := fun k => match k with
  | 0 => ("MarlStore$Query", "count", "I", false)
  | 1 => ("MarlStore$Query", "codes", "[I", true)
  | _ => ("MarlStore$Query", "ns", "[I", true)
def tyX6 : Nat → FieldType := fun k => match k with
  | 0 => .int
  | 1 => .array .int
  | _ => .array .int
theorem nmX6 : ∀ a, a < 3 → ∀ b, b < 3 → a ≠ b → (TX6 a).2.1 ≠ (TX6 b).2.1 := by decide +kernel
theorem tyX6_ok : ∀ k, k < 3 → parseFieldDescriptor (TX6 k).2.2.1 = some (tyX6 k) := by decide +kernel
abbrev cX6_init : ByteArray := prog_8_method_1_code
def yX6_init : MethodName := ⟨RX6, "<init>", "()V"⟩
abbrev cX6_append : ByteArray := prog_8_method_2_code
def yX6_append : MethodName := ⟨RX6, "append", "(II)Z"⟩
abbrev cX6_findIn : ByteArray := prog_8_method_3_code
def yX6_findIn : MethodName := ⟨RX6, "findIn", "(LMarlStore$Walk;)J"⟩
def RX7 : String := "MarlStore$Schema"
def TX7 : u_T := fun k => match k with
  | 0 => ("MarlStore$Schema", "kinds", "I", false)
  | 1 => ("MarlStore$Schema", "low", "I", false)
  | 2 => ("MarlStore$Schema", "high", "I", false)
  | 3 => ("MarlStore$Schema", "least", "I", false)
  | 4 => ("MarlStore$Schema", "most", "I", false)
  | 5 => ("MarlStore$Schema", "item", "I", false)
  | 6 => ("MarlStore$Schema", "rest", "I", false)
  | 7 => ("MarlStore$Schema", "keyCount", "I", false)
  | 8 => ("MarlStore$Schema", "keys", "[I", true)
  | 9 => ("MarlStore$Schema", "owns", "[I", true)
  | _ => ("MarlStore$Schema", "isNeeded", "[Z", true)
def tyX7 : Nat → FieldType := fun k => match k with
  | 0 => .int
  | 1 => .int
  | 2 => .int
  | 3 => .int
  | 4 => .int
  | 5 => .int
  | 6 => .int
  | 7 => .int
  | 8 => .array .int
  | 9 => .array .int
  | _ => .array .boolean
theorem nmX7 : ∀ a, a < 11 → ∀ b, b < 11 → a ≠ b → (TX7 a).2.1 ≠ (TX7 b).2.1 := by decide +kernel
theorem tyX7_ok : ∀ k, k < 11 → parseFieldDescriptor (TX7 k).2.2.1 = some (tyX7 k) := by decide +kernel
abbrev cX7_init : ByteArray := prog_9_method_1_code
def yX7_init : MethodName := ⟨RX7, "<init>", "()V"⟩
abbrev cX7_placeOfKey : ByteArray := prog_9_method_4_code
def yX7_placeOfKey : MethodName := ⟨RX7, "placeOfKey", "(I)I"⟩
abbrev cX7_forChild : ByteArray := prog_9_method_5_code
def yX7_forChild : MethodName := ⟨RX7, "forChild", "(II)I"⟩
abbrev cX7_countMissing : ByteArray := prog_9_method_6_code
def yX7_countMissing : MethodName := ⟨RX7, "countMissing", "(LMarlStore$Value;)I"⟩
def RX8 : String := "MarlStore$Value"
def TX8 : u_T := fun k => match k with
  | 0 => ("MarlStore$Value", "kind", "I", true)
  | 1 => ("MarlStore$Value", "number", "I", true)
  | 2 => ("MarlStore$Value", "keys", "[I", true)
  | 3 => ("MarlStore$Value", "parts", "[LMarlStore$Value;", true)
  | 4 => ("MarlStore$Value", "size", "I", true)
  | _ => ("MarlStore$Value", "depth", "I", true)
def tyX8 : Nat → FieldType := fun k => match k with
  | 0 => .int
  | 1 => .int
  | 2 => .array .int
  | 3 => .array (.object "MarlStore$Value")
  | 4 => .int
  | _ => .int
theorem nmX8 : ∀ a, a < 6 → ∀ b, b < 6 → a ≠ b → (TX8 a).2.1 ≠ (TX8 b).2.1 := by decide +kernel
theorem tyX8_ok : ∀ k, k < 6 → parseFieldDescriptor (TX8 k).2.2.1 = some (tyX8 k) := by decide +kernel
abbrev cX8_init : ByteArray := prog_10_method_1_code
def yX8_init : MethodName := ⟨RX8, "<init>", "(II[I[LMarlStore$Value;)V"⟩
abbrev cX8_width : ByteArray := prog_10_method_2_code
def yX8_width : MethodName := ⟨RX8, "width", "()I"⟩
abbrev cX8_partAt : ByteArray := prog_10_method_3_code
def yX8_partAt : MethodName := ⟨RX8, "partAt", "(I)LMarlStore$Value;"⟩
abbrev cX8_stepOf : ByteArray := prog_10_method_4_code
def yX8_stepOf : MethodName := ⟨RX8, "stepOf", "(I)I"⟩
abbrev cX8_placeOf : ByteArray := prog_10_method_5_code
def yX8_placeOf : MethodName := ⟨RX8, "placeOf", "(I)I"⟩
abbrev cX8_placeToAdd : ByteArray := prog_10_method_6_code
def yX8_placeToAdd : MethodName := ⟨RX8, "placeToAdd", "(I)I"⟩
abbrev cX8_below : ByteArray := prog_10_method_7_code
def yX8_below : MethodName := ⟨RX8, "below", "([II)LMarlStore$Value;"⟩
abbrev cX8_withPart : ByteArray := prog_10_method_8_code
def yX8_withPart : MethodName := ⟨RX8, "withPart", "(ILMarlStore$Value;)LMarlStore$Value;"⟩
abbrev cX8_withAdded : ByteArray := prog_10_method_9_code
def yX8_withAdded : MethodName := ⟨RX8, "withAdded", "(IILMarlStore$Value;)LMarlStore$Value;"⟩
abbrev cX8_withoutPart : ByteArray := prog_10_method_10_code
def yX8_withoutPart : MethodName := ⟨RX8, "withoutPart", "(I)LMarlStore$Value;"⟩
abbrev cX8_isSameAs : ByteArray := prog_10_method_11_code
def yX8_isSameAs : MethodName := ⟨RX8, "isSameAs", "(LMarlStore$Value;)Z"⟩
abbrev cX8_areSame : ByteArray := prog_10_method_12_code
def yX8_areSame : MethodName := ⟨RX8, "areSame", "(LMarlStore$Value;LMarlStore$Value;I)Z"⟩
def RX9 : String := "MarlStore$Walk"
def TX9 : u_T := fun k => match k with
  | 0 => ("MarlStore$Walk", "count", "I", false)
  | 1 => ("MarlStore$Walk", "values", "[LMarlStore$Value;", true)
  | 2 => ("MarlStore$Walk", "parents", "[I", true)
  | 3 => ("MarlStore$Walk", "steps", "[I", true)
  | _ => ("MarlStore$Walk", "levels", "[I", true)
def tyX9 : Nat → FieldType := fun k => match k with
  | 0 => .int
  | 1 => .array (.object "MarlStore$Value")
  | 2 => .array .int
  | 3 => .array .int
  | _ => .array .int
theorem nmX9 : ∀ a, a < 5 → ∀ b, b < 5 → a ≠ b → (TX9 a).2.1 ≠ (TX9 b).2.1 := by decide +kernel
theorem tyX9_ok : ∀ k, k < 5 → parseFieldDescriptor (TX9 k).2.2.1 = some (tyX9 k) := by decide +kernel
abbrev cX9_init : ByteArray := prog_11_method_1_code
def yX9_init : MethodName := ⟨RX9, "<init>", "()V"⟩
abbrev cX9_fill : ByteArray := prog_11_method_2_code
def yX9_fill : MethodName := ⟨RX9, "fill", "(LMarlStore$Value;)V"⟩
abbrev cX9_enter : ByteArray := prog_11_method_3_code
def yX9_enter : MethodName := ⟨RX9, "enter", "(ILMarlStore$Value;III)V"⟩
abbrev cX9_valueAt : ByteArray := prog_11_method_4_code
def yX9_valueAt : MethodName := ⟨RX9, "valueAt", "(I)LMarlStore$Value;"⟩
abbrev cX9_above : ByteArray := prog_11_method_5_code
def yX9_above : MethodName := ⟨RX9, "above", "(I)I"⟩
abbrev cX9_stepTo : ByteArray := prog_11_method_6_code
def yX9_stepTo : MethodName := ⟨RX9, "stepTo", "(I)I"⟩
abbrev cX9_pick : ByteArray := prog_11_method_8_code
def yX9_pick : MethodName := ⟨RX9, "pick", "(JII)J"⟩
abbrev cX9_isPicked : ByteArray := prog_11_method_9_code
def yX9_isPicked : MethodName := ⟨RX9, "isPicked", "(JJILMarlStore$Value;II)Z"⟩
abbrev cX9_isLast : ByteArray := prog_11_method_10_code
def yX9_isLast : MethodName := ⟨RX9, "isLast", "(ILMarlStore$Value;)Z"⟩
abbrev cX9_without : ByteArray := prog_11_method_14_code
def yX9_without : MethodName := ⟨RX9, "without", "(J)LMarlStore$Value;"⟩
def RX10 : String := "MarlStore"
def TX10 : u_T := fun k => match k with
  | 0 => ("MarlStore", "wholes", "[LMarlStore$Value;", true)
  | 1 => ("MarlStore", "clipped", "LMarlStore$Value;", false)
  | 2 => ("MarlStore", "pointer", "LMarlStore$Pointer;", true)
  | 3 => ("MarlStore", "editor", "LMarlStore$Editor;", true)
  | 4 => ("MarlStore", "allPatches", "[LMarlStore$Patch;", true)
  | 5 => ("MarlStore", "patchCount", "I", false)
  | 6 => ("MarlStore", "takenOut", "[LMarlStore$Value;", true)
  | 7 => ("MarlStore", "differ", "LMarlStore$Differ;", true)
  | 8 => ("MarlStore", "schemas", "[LMarlStore$Schema;", true)
  | 9 => ("MarlStore", "schemaCount", "I", false)
  | 10 => ("MarlStore", "checker", "LMarlStore$Checker;", true)
  | 11 => ("MarlStore", "queries", "[LMarlStore$Query;", true)
  | 12 => ("MarlStore", "queryCount", "I", false)
  | _ => ("MarlStore", "walk", "LMarlStore$Walk;", true)
def tyX10 : Nat → FieldType := fun k => match k with
  | 0 => .array (.object "MarlStore$Value")
  | 1 => .object "MarlStore$Value"
  | 2 => .object "MarlStore$Pointer"
  | 3 => .object "MarlStore$Editor"
  | 4 => .array (.object "MarlStore$Patch")
  | 5 => .int
  | 6 => .array (.object "MarlStore$Value")
  | 7 => .object "MarlStore$Differ"
  | 8 => .array (.object "MarlStore$Schema")
  | 9 => .int
  | 10 => .object "MarlStore$Checker"
  | 11 => .array (.object "MarlStore$Query")
  | 12 => .int
  | _ => .object "MarlStore$Walk"
theorem nmX10 : ∀ a, a < 14 → ∀ b, b < 14 → a ≠ b → (TX10 a).2.1 ≠ (TX10 b).2.1 := by decide +kernel
theorem tyX10_ok : ∀ k, k < 14 → parseFieldDescriptor (TX10 k).2.2.1 = some (tyX10 k) := by decide +kernel
abbrev cX10_init : ByteArray := prog_1_method_1_code
def yX10_init : MethodName := ⟨RX10, "<init>", "()V"⟩
abbrev cX10_point : ByteArray := prog_1_method_2_code
def yX10_point : MethodName := ⟨RX10, "point", "(I)I"⟩
abbrev cX10_into : ByteArray := prog_1_method_3_code
def yX10_into : MethodName := ⟨RX10, "into", "(I)I"⟩
abbrev cX10_up : ByteArray := prog_1_method_4_code
def yX10_up : MethodName := ⟨RX10, "up", "()I"⟩
abbrev cX10_document : ByteArray := prog_1_method_5_code
def yX10_document : MethodName := ⟨RX10, "document", "()I"⟩
abbrev cX10_steps : ByteArray := prog_1_method_6_code
def yX10_steps : MethodName := ⟨RX10, "steps", "()I"⟩
abbrev cX10_stepAt : ByteArray := prog_1_method_7_code
def yX10_stepAt : MethodName := ⟨RX10, "stepAt", "(I)I"⟩
abbrev cX10_set : ByteArray := prog_1_method_8_code
def yX10_set : MethodName := ⟨RX10, "set", "(II)I"⟩
abbrev cX10_copy : ByteArray := prog_1_method_9_code
def yX10_copy : MethodName := ⟨RX10, "copy", "()I"⟩
abbrev cX10_insert : ByteArray := prog_1_method_11_code
def yX10_insert : MethodName := ⟨RX10, "insert", "(I)I"⟩
abbrev cX10_drop : ByteArray := prog_1_method_12_code
def yX10_drop : MethodName := ⟨RX10, "drop", "(I)I"⟩
abbrev cX10_kind : ByteArray := prog_1_method_13_code
def yX10_kind : MethodName := ⟨RX10, "kind", "()I"⟩
abbrev cX10_number : ByteArray := prog_1_method_14_code
def yX10_number : MethodName := ⟨RX10, "number", "()I"⟩
abbrev cX10_children : ByteArray := prog_1_method_15_code
def yX10_children : MethodName := ⟨RX10, "children", "()I"⟩
abbrev cX10_childStep : ByteArray := prog_1_method_16_code
def yX10_childStep : MethodName := ⟨RX10, "childStep", "(I)I"⟩
abbrev cX10_size : ByteArray := prog_1_method_17_code
def yX10_size : MethodName := ⟨RX10, "size", "(I)I"⟩
abbrev cX10_depth : ByteArray := prog_1_method_18_code
def yX10_depth : MethodName := ⟨RX10, "depth", "(I)I"⟩
abbrev cX10_clip : ByteArray := prog_1_method_19_code
def yX10_clip : MethodName := ⟨RX10, "clip", "()I"⟩
abbrev cX10_apply : ByteArray := prog_1_method_22_code
def yX10_apply : MethodName := ⟨RX10, "apply", "(II)I"⟩
abbrev cX10_failsAt : ByteArray := prog_1_method_23_code
def yX10_failsAt : MethodName := ⟨RX10, "failsAt", "(II)I"⟩
abbrev cX10_diff : ByteArray := prog_1_method_24_code
def yX10_diff : MethodName := ⟨RX10, "diff", "(II)I"⟩
abbrev cX10_forget : ByteArray := prog_1_method_25_code
def yX10_forget : MethodName := ⟨RX10, "forget", "()I"⟩
abbrev cX10_patches : ByteArray := prog_1_method_26_code
def yX10_patches : MethodName := ⟨RX10, "patches", "()I"⟩
abbrev cX10_operations : ByteArray := prog_1_method_27_code
def yX10_operations : MethodName := ⟨RX10, "operations", "(I)I"⟩
abbrev cX10_ofOperation : ByteArray := prog_1_method_28_code
def yX10_ofOperation : MethodName := ⟨RX10, "ofOperation", "(III)I"⟩
abbrev cX10_difference : ByteArray := prog_1_method_29_code
def yX10_difference : MethodName := ⟨RX10, "difference", "(II)I"⟩
abbrev cX10_changes : ByteArray := prog_1_method_30_code
def yX10_changes : MethodName := ⟨RX10, "changes", "(II)I"⟩
abbrev cX10_fitting : ByteArray := prog_1_method_37_code
def yX10_fitting : MethodName := ⟨RX10, "fitting", "(I)I"⟩
abbrev cX10_addQuery : ByteArray := prog_1_method_38_code
def yX10_addQuery : MethodName := ⟨RX10, "addQuery", "()I"⟩
abbrev cX10_addPart : ByteArray := prog_1_method_39_code
def yX10_addPart : MethodName := ⟨RX10, "addPart", "(III)I"⟩
abbrev cX10_found : ByteArray := prog_1_method_40_code
def yX10_found : MethodName := ⟨RX10, "found", "(II)I"⟩
abbrev cX10_dropFound : ByteArray := prog_1_method_44_code
def yX10_dropFound : MethodName := ⟨RX10, "dropFound", "(II)I"⟩
abbrev cX10_digest : ByteArray := prog_1_method_45_code
def yX10_digest : MethodName := ⟨RX10, "digest", "()J"⟩
abbrev cX10_wholeOf : ByteArray := prog_1_method_46_code
def yX10_wholeOf : MethodName := ⟨RX10, "wholeOf", "(I)LMarlStore$Value;"⟩
abbrev cX10_patchOf : ByteArray := prog_1_method_47_code
def yX10_patchOf : MethodName := ⟨RX10, "patchOf", "(I)LMarlStore$Patch;"⟩
abbrev cX10_schemaOf : ByteArray := prog_1_method_48_code
def yX10_schemaOf : MethodName := ⟨RX10, "schemaOf", "(I)LMarlStore$Schema;"⟩
abbrev cX10_queryOf : ByteArray := prog_1_method_49_code
def yX10_queryOf : MethodName := ⟨RX10, "queryOf", "(I)LMarlStore$Query;"⟩
abbrev cX10_beginPatch : ByteArray := prog_1_method_50_code
def yX10_beginPatch : MethodName := ⟨RX10, "beginPatch", "()I"⟩
abbrev cX10_pointed : ByteArray := prog_1_method_51_code
def yX10_pointed : MethodName := ⟨RX10, "pointed", "()LMarlStore$Value;"⟩
abbrev cX10_changeTo : ByteArray := prog_1_method_52_code
def yX10_changeTo : MethodName := ⟨RX10, "changeTo", "(ILMarlStore$Value;)V"⟩
abbrev cX10_finish : ByteArray := prog_1_method_53_code
def yX10_finish : MethodName := ⟨RX10, "finish", "(Z)I"⟩
abbrev cX10_tryOut : ByteArray := prog_1_method_54_code
def yX10_tryOut : MethodName := ⟨RX10, "tryOut", "(LMarlStore$Patch;LMarlStore$Value;)I"⟩
abbrev cX10_writeInverse : ByteArray := prog_1_method_55_code
def yX10_writeInverse : MethodName := ⟨RX10, "writeInverse", "(LMarlStore$Patch;LMarlStore$Patch;)V"⟩
abbrev cX10_countFailures : ByteArray := prog_1_method_56_code
def yX10_countFailures : MethodName := ⟨RX10, "countFailures", "(III)I"⟩
abbrev cX10_isPart : ByteArray := prog_1_method_57_code
def yX10_isPart : MethodName := ⟨RX10, "isPart", "(II)Z"⟩
abbrev cX10_findIn : ByteArray := prog_1_method_58_code
def yX10_findIn : MethodName := ⟨RX10, "findIn", "(II)J"⟩
abbrev cX10_isIn : ByteArray := prog_1_method_59_code
def yX10_isIn : MethodName := ⟨RX10, "isIn", "(JI)Z"⟩
abbrev cX10_digestValue : ByteArray := prog_1_method_61_code
def yX10_digestValue : MethodName := ⟨RX10, "digestValue", "(JLMarlStore$Value;)J"⟩
abbrev cX10_digestPatches : ByteArray := prog_1_method_62_code
def yX10_digestPatches : MethodName := ⟨RX10, "digestPatches", "(J)J"⟩
def RX11 : String := "MarlStoreModel$Patch"
def TX11 : u_T := fun k => match k with
  | _ => ("", "", "", false)
def tyX11 : Nat → FieldType := fun k => match k with
  | _ => .int
theorem nmX11 : ∀ a, a < 0 → ∀ b, b < 0 → a ≠ b → (TX11 a).2.1 ≠ (TX11 b).2.1 := by decide +kernel
theorem tyX11_ok : ∀ k, k < 0 → parseFieldDescriptor (TX11 k).2.2.1 = some (tyX11 k) := by decide +kernel
def RX12 : String := "MarlStoreModel$Value"
def TX12 : u_T := fun k => match k with
  | _ => ("", "", "", false)
def tyX12 : Nat → FieldType := fun k => match k with
  | _ => .int
theorem nmX12 : ∀ a, a < 0 → ∀ b, b < 0 → a ≠ b → (TX12 a).2.1 ≠ (TX12 b).2.1 := by decide +kernel
theorem tyX12_ok : ∀ k, k < 0 → parseFieldDescriptor (TX12 k).2.2.1 = some (tyX12 k) := by decide +kernel
def RX13 : String := "MarlStoreModel"
def TX13 : u_T := fun k => match k with
  | _ => ("", "", "", false)
def tyX13 : Nat → FieldType := fun k => match k with
  | _ => .int
theorem nmX13 : ∀ a, a < 0 → ∀ b, b < 0 → a ≠ b → (TX13 a).2.1 ≠ (TX13 b).2.1 := by decide +kernel
theorem tyX13_ok : ∀ k, k < 0 → parseFieldDescriptor (TX13 k).2.2.1 = some (tyX13 k) := by decide +kernel
def RJx145de : String := "java/io/Serializable"
def TJx145de : u_T := fun k => match k with
  | _ => ("", "", "", false)
def tyJx145de : Nat → FieldType := fun k => match k with
  | _ => .int
def RJx8e188 : String := "java/lang/Cloneable"
def TJx8e188 : u_T := fun k => match k with
  | _ => ("", "", "", false)
def tyJx8e188 : Nat → FieldType := fun k => match k with
  | _ => .int
def RJ13 : String := "java/lang/Long"
def TJ13 : u_T := fun k => match k with
  | _ => ("", "", "", false)
def tyJ13 : Nat → FieldType := fun k => match k with
  | _ => .int
abbrev cJ13_bitCount_95d88 : ByteArray := prog_21_method_50_code
def yJ13_bitCount_95d88 : MethodName := ⟨RJ13, "bitCount", "(J)I"⟩
def RJ9 : String := "java/lang/Math"
def TJ9 : u_T := fun k => match k with
  | _ => ("", "", "", false)
def tyJ9 : Nat → FieldType := fun k => match k with
  | _ => .int
abbrev cJ9_max_7cf53 : ByteArray := prog_22_method_65_code
def yJ9_max_7cf53 : MethodName := ⟨RJ9, "max", "(II)I"⟩
abbrev cJ9_min_7cf53 : ByteArray := prog_22_method_69_code
def yJ9_min_7cf53 : MethodName := ⟨RJ9, "min", "(II)I"⟩
def RJ0 : String := "java/lang/String"
def TJ0 : u_T := fun k => match k with
  | _ => ("", "", "", false)
def tyJ0 : Nat → FieldType := fun k => match k with
  | _ => .int
def RJ10 : String := "java/lang/System"
def TJ10 : u_T := fun k => match k with
  | _ => ("", "", "", false)
def tyJ10 : Nat → FieldType := fun k => match k with
  | _ => .int
def RJ7 : String := "java/util/Arrays"
def TJ7 : u_T := fun k => match k with
  | _ => ("", "", "", false)
def tyJ7 : Nat → FieldType := fun k => match k with
  | _ => .int
abbrev cJ7_copyOf_59c91 : ByteArray := prog_27_method_123_code
def yJ7_copyOf_59c91 : MethodName := ⟨RJ7, "copyOf", "([II)[I"⟩
def RL : String := "MarlStoreLaw"
abbrev cL_below : ByteArray := method_2_code
def yL_below : MethodName := ⟨RL, "below", "(II)I"⟩
abbrev cL_cell : ByteArray := method_3_code
def yL_cell : MethodName := ⟨RL, "cell", "([II)I"⟩
abbrev cL_law : ByteArray := code
def yL_law : MethodName := ⟨RL, "law", "([I)Z"⟩
abbrev cL_act : ByteArray := method_5_code
def yL_act : MethodName := ⟨RL, "act", "(LMarlStore;I)Z"⟩
abbrev cL_isTurnedBack : ByteArray := method_6_code
def yL_isTurnedBack : MethodName := ⟨RL, "isTurnedBack", "(LMarlStore;II)Z"⟩
abbrev cL_areDocumentsRight : ByteArray := method_7_code
def yL_areDocumentsRight : MethodName := ⟨RL, "areDocumentsRight", "(LMarlStore;)Z"⟩
abbrev cL_areFewRight : ByteArray := method_8_code
def yL_areFewRight : MethodName := ⟨RL, "areFewRight", "(LMarlStore;)Z"⟩
abbrev vwCl : List vw_C := [(RX0, TX0, 7), (RX1, TX1, 4), (RX2, TX2, 5), (RX3, TX3, 4), (RX4, TX4, 2), (RX5, TX5, 3), (RX6, TX6, 3), (RX7, TX7, 11), (RX8, TX8, 6), (RX9, TX9, 5), (RX10, TX10, 14)]
end
section
theorem dX0_init_0 : decode cX0_init 0 = .ok (.aload_n 0, 1) := by decide +kernel
theorem dX0_init_1 : decode cX0_init 1 = .ok (.invokespecial 3, 3) := by decide +kernel
theorem dX0_init_4 : decode cX0_init 4 = .ok (.aload_n 0, 1) := by decide +kernel
theorem dX0_init_5 : decode cX0_init 5 = .ok (.bipush 50, 2) := by decide +kernel
theorem dX0_init_7 : decode cX0_init 7 = .ok (.newarray .int, 2) := by decide +kernel
theorem dX0_init_9 : decode cX0_init 9 = .ok (.putfield 9, 3) := by decide +kernel
theorem dX0_init_12 : decode cX0_init 12 = .ok (.aload_n 0, 1) := by decide +kernel
theorem dX0_init_13 : decode cX0_init 13 = .ok (.aload_n 1, 1) := by decide +kernel
theorem dX0_init_14 : decode cX0_init 14 = .ok (.putfield 15, 3) := by decide +kernel
theorem dX0_init_17 : decode cX0_init 17 = .ok (.aload_n 0, 1) := by decide +kernel
theorem dX0_init_18 : decode cX0_init 18 = .ok (.aload_n 2, 1) := by decide +kernel
theorem dX0_init_19 : decode cX0_init 19 = .ok (.putfield 19, 3) := by decide +kernel
theorem dX0_init_22 : decode cX0_init 22 = .ok (.return_, 1) := by decide +kernel
theorem dX0_countFailures_0 : decode cX0_countFailures 0 = .ok (.aload_n 0, 1) := by decide +kernel
theorem dX0_countFailures_1 : decode cX0_countFailures 1 = .ok (.iload_n 2, 1) := by decide +kernel
theorem dX0_countFailures_2 : decode cX0_countFailures 2 = .ok (.putfield 23, 3) := by decide +kernel
theorem dX0_countFailures_5 : decode cX0_countFailures 5 = .ok (.aload_n 0, 1) := by decide +kernel
theorem dX0_countFailures_6 : decode cX0_countFailures 6 = .ok (.iconst 0, 1) := by decide +kernel
theorem dX0_countFailures_7 : decode cX0_countFailures 7 = .ok (.putfield 27, 3) := by decide +kernel
theorem dX0_countFailures_10 : decode cX0_countFailures 10 = .ok (.iconst 0, 1) := by decide +kernel
theorem dX0_countFailures_11 : decode cX0_countFailures 11 = .ok (.istore_n 3, 1) := by decide +kernel
theorem dX0_countFailures_12 : decode cX0_countFailures 12 = .ok (.iload_n 3, 1) := by decide +kernel
theorem dX0_countFailures_13 : decode cX0_countFailures 13 = .ok (.aload_n 0, 1) := by decide +kernel
theorem dX0_countFailures_14 : decode cX0_countFailures 14 = .ok (.getfield 15, 3) := by decide +kernel
theorem dX0_countFailures_17 : decode cX0_countFailures 17 = .ok (.getfield 30, 3) := by decide +kernel
theorem dX0_countFailures_20 : decode cX0_countFailures 20 = .ok (.if_icmp .ge 131, 3) := by decide +kernel
theorem dX0_countFailures_23 : decode cX0_countFailures 23 = .ok (.iload_n 3, 1) := by decide +kernel
theorem dX0_countFailures_24 : decode cX0_countFailures 24 = .ok (.aload_n 0, 1) := by decide +kernel
theorem dX0_countFailures_25 : decode cX0_countFailures 25 = .ok (.getfield 9, 3) := by decide +kernel
theorem dX0_countFailures_28 : decode cX0_countFailures 28 = .ok (.arraylength, 1) := by decide +kernel
theorem dX0_countFailures_29 : decode cX0_countFailures 29 = .ok (.if_icmp .ge 122, 3) := by decide +kernel
theorem dX0_countFailures_32 : decode cX0_countFailures 32 = .ok (.aload_n 0, 1) := by decide +kernel
theorem dX0_countFailures_33 : decode cX0_countFailures 33 = .ok (.getfield 15, 3) := by decide +kernel
theorem dX0_countFailures_36 : decode cX0_countFailures 36 = .ok (.iload_n 3, 1) := by decide +kernel
theorem dX0_countFailures_37 : decode cX0_countFailures 37 = .ok (.invokevirtual 33, 3) := by decide +kernel
theorem dX0_countFailures_40 : decode cX0_countFailures 40 = .ok (.astore 4, 2) := by decide +kernel
theorem dX0_countFailures_42 : decode cX0_countFailures 42 = .ok (.aload_n 0, 1) := by decide +kernel
theorem dX0_countFailures_43 : decode cX0_countFailures 43 = .ok (.getfield 9, 3) := by decide +kernel
theorem dX0_countFailures_46 : decode cX0_countFailures 46 = .ok (.iload_n 3, 1) := by decide +kernel
theorem dX0_countFailures_47 : decode cX0_countFailures 47 = .ok (.iload_n 3, 1) := by decide +kernel
theorem dX0_countFailures_48 : decode cX0_countFailures 48 = .ok (.ifCond .ne 7, 3) := by decide +kernel
theorem dX0_countFailures_51 : decode cX0_countFailures 51 = .ok (.iload_n 1, 1) := by decide +kernel
theorem dX0_countFailures_52 : decode cX0_countFailures 52 = .ok (.goto 16, 3) := by decide +kernel
theorem dX0_countFailures_55 : decode cX0_countFailures 55 = .ok (.aload_n 0, 1) := by decide +kernel
theorem dX0_countFailures_56 : decode cX0_countFailures 56 = .ok (.aload_n 0, 1) := by decide +kernel
theorem dX0_countFailures_57 : decode cX0_countFailures 57 = .ok (.getfield 15, 3) := by decide +kernel
theorem dX0_countFailures_60 : decode cX0_countFailures 60 = .ok (.iload_n 3, 1) := by decide +kernel
theorem dX0_countFailures_61 : decode cX0_countFailures 61 = .ok (.invokevirtual 37, 3) := by decide +kernel
theorem dX0_countFailures_64 : decode cX0_countFailures 64 = .ok (.iload_n 3, 1) := by decide +kernel
theorem dX0_countFailures_65 : decode cX0_countFailures 65 = .ok (.invokevirtual 41, 3) := by decide +kernel
theorem dX0_countFailures_68 : decode cX0_countFailures 68 = .ok (.iastore, 1) := by decide +kernel
theorem dX0_countFailures_69 : decode cX0_countFailures 69 = .ok (.aload_n 0, 1) := by decide +kernel
theorem dX0_countFailures_70 : decode cX0_countFailures 70 = .ok (.getfield 9, 3) := by decide +kernel
theorem dX0_countFailures_73 : decode cX0_countFailures 73 = .ok (.iload_n 3, 1) := by decide +kernel
theorem dX0_countFailures_74 : decode cX0_countFailures 74 = .ok (.iaload, 1) := by decide +kernel
theorem dX0_countFailures_75 : decode cX0_countFailures 75 = .ok (.bipush (-2), 2) := by decide +kernel
theorem dX0_countFailures_77 : decode cX0_countFailures 77 = .ok (.if_icmp .ne 12, 3) := by decide +kernel
theorem dX0_countFailures_80 : decode cX0_countFailures 80 = .ok (.aload_n 0, 1) := by decide +kernel
theorem dX0_countFailures_81 : decode cX0_countFailures 81 = .ok (.iload_n 3, 1) := by decide +kernel
theorem dX0_countFailures_82 : decode cX0_countFailures 82 = .ok (.iconst 5, 1) := by decide +kernel
theorem dX0_countFailures_83 : decode cX0_countFailures 83 = .ok (.invokevirtual 45, 3) := by decide +kernel
theorem dX0_countFailures_86 : decode cX0_countFailures 86 = .ok (.goto 59, 3) := by decide +kernel
theorem dX0_countFailures_89 : decode cX0_countFailures 89 = .ok (.aload_n 0, 1) := by decide +kernel
theorem dX0_countFailures_90 : decode cX0_countFailures 90 = .ok (.getfield 9, 3) := by decide +kernel
theorem dX0_countFailures_93 : decode cX0_countFailures 93 = .ok (.iload_n 3, 1) := by decide +kernel
theorem dX0_countFailures_94 : decode cX0_countFailures 94 = .ok (.iaload, 1) := by decide +kernel
theorem dX0_countFailures_95 : decode cX0_countFailures 95 = .ok (.ifCond .lt 50, 3) := by decide +kernel
theorem dX0_countFailures_98 : decode cX0_countFailures 98 = .ok (.aload_n 0, 1) := by decide +kernel
theorem dX0_countFailures_99 : decode cX0_countFailures 99 = .ok (.getfield 9, 3) := by decide +kernel
theorem dX0_countFailures_102 : decode cX0_countFailures 102 = .ok (.iload_n 3, 1) := by decide +kernel
theorem dX0_countFailures_103 : decode cX0_countFailures 103 = .ok (.iaload, 1) := by decide +kernel
theorem dX0_countFailures_104 : decode cX0_countFailures 104 = .ok (.aload_n 0, 1) := by decide +kernel
theorem dX0_countFailures_105 : decode cX0_countFailures 105 = .ok (.getfield 19, 3) := by decide +kernel
theorem dX0_countFailures_108 : decode cX0_countFailures 108 = .ok (.arraylength, 1) := by decide +kernel
theorem dX0_countFailures_109 : decode cX0_countFailures 109 = .ok (.if_icmp .ge 36, 3) := by decide +kernel
theorem dX0_countFailures_112 : decode cX0_countFailures 112 = .ok (.aload 4, 2) := by decide +kernel
theorem dX0_countFailures_114 : decode cX0_countFailures 114 = .ok (.ifnull 31, 3) := by decide +kernel
theorem dX0_countFailures_117 : decode cX0_countFailures 117 = .ok (.aload_n 0, 1) := by decide +kernel
theorem dX0_countFailures_118 : decode cX0_countFailures 118 = .ok (.iload_n 3, 1) := by decide +kernel
theorem dX0_countFailures_119 : decode cX0_countFailures 119 = .ok (.aload 4, 2) := by decide +kernel
theorem dX0_countFailures_121 : decode cX0_countFailures 121 = .ok (.aload_n 0, 1) := by decide +kernel
theorem dX0_countFailures_122 : decode cX0_countFailures 122 = .ok (.getfield 19, 3) := by decide +kernel
theorem dX0_countFailures_125 : decode cX0_countFailures 125 = .ok (.aload_n 0, 1) := by decide +kernel
theorem dX0_countFailures_126 : decode cX0_countFailures 126 = .ok (.getfield 9, 3) := by decide +kernel
theorem dX0_countFailures_129 : decode cX0_countFailures 129 = .ok (.iload_n 3, 1) := by decide +kernel
theorem dX0_countFailures_130 : decode cX0_countFailures 130 = .ok (.iaload, 1) := by decide +kernel
theorem dX0_countFailures_131 : decode cX0_countFailures 131 = .ok (.aaload, 1) := by decide +kernel
theorem dX0_countFailures_132 : decode cX0_countFailures 132 = .ok (.invokevirtual 49, 3) := by decide +kernel
theorem dX0_countFailures_135 : decode cX0_countFailures 135 = .ok (.ifCond .ne 10, 3) := by decide +kernel
theorem dX0_countFailures_138 : decode cX0_countFailures 138 = .ok (.aload_n 0, 1) := by decide +kernel
theorem dX0_countFailures_139 : decode cX0_countFailures 139 = .ok (.getfield 9, 3) := by decide +kernel
theorem dX0_countFailures_142 : decode cX0_countFailures 142 = .ok (.iload_n 3, 1) := by decide +kernel
theorem dX0_countFailures_143 : decode cX0_countFailures 143 = .ok (.iconst (-1), 1) := by decide +kernel
theorem dX0_countFailures_144 : decode cX0_countFailures 144 = .ok (.iastore, 1) := by decide +kernel
theorem dX0_countFailures_145 : decode cX0_countFailures 145 = .ok (.iinc 3 1, 3) := by decide +kernel
theorem dX0_countFailures_148 : decode cX0_countFailures 148 = .ok (.goto (-136), 3) := by decide +kernel
theorem dX0_countFailures_151 : decode cX0_countFailures 151 = .ok (.aload_n 0, 1) := by decide +kernel
theorem dX0_countFailures_152 : decode cX0_countFailures 152 = .ok (.getfield 27, 3) := by decide +kernel
theorem dX0_countFailures_155 : decode cX0_countFailures 155 = .ok (.ireturn, 1) := by decide +kernel
theorem dX0_schemaBelow_0 : decode cX0_schemaBelow 0 = .ok (.aload_n 0, 1) := by decide +kernel
theorem dX0_schemaBelow_1 : decode cX0_schemaBelow 1 = .ok (.getfield 15, 3) := by decide +kernel
theorem dX0_schemaBelow_4 : decode cX0_schemaBelow 4 = .ok (.iload_n 1, 1) := by decide +kernel
theorem dX0_schemaBelow_5 : decode cX0_schemaBelow 5 = .ok (.invokevirtual 33, 3) := by decide +kernel
theorem dX0_schemaBelow_8 : decode cX0_schemaBelow 8 = .ok (.astore_n 3, 1) := by decide +kernel
theorem dX0_schemaBelow_9 : decode cX0_schemaBelow 9 = .ok (.aload_n 3, 1) := by decide +kernel
theorem dX0_schemaBelow_10 : decode cX0_schemaBelow 10 = .ok (.ifnull 39, 3) := by decide +kernel
theorem dX0_schemaBelow_13 : decode cX0_schemaBelow 13 = .ok (.iload_n 1, 1) := by decide +kernel
theorem dX0_schemaBelow_14 : decode cX0_schemaBelow 14 = .ok (.ifCond .lt 35, 3) := by decide +kernel
theorem dX0_schemaBelow_17 : decode cX0_schemaBelow 17 = .ok (.iload_n 1, 1) := by decide +kernel
theorem dX0_schemaBelow_18 : decode cX0_schemaBelow 18 = .ok (.aload_n 0, 1) := by decide +kernel
theorem dX0_schemaBelow_19 : decode cX0_schemaBelow 19 = .ok (.getfield 9, 3) := by decide +kernel
theorem dX0_schemaBelow_22 : decode cX0_schemaBelow 22 = .ok (.arraylength, 1) := by decide +kernel
theorem dX0_schemaBelow_23 : decode cX0_schemaBelow 23 = .ok (.if_icmp .ge 26, 3) := by decide +kernel
theorem dX0_schemaBelow_26 : decode cX0_schemaBelow 26 = .ok (.aload_n 0, 1) := by decide +kernel
theorem dX0_schemaBelow_27 : decode cX0_schemaBelow 27 = .ok (.getfield 9, 3) := by decide +kernel
theorem dX0_schemaBelow_30 : decode cX0_schemaBelow 30 = .ok (.iload_n 1, 1) := by decide +kernel
theorem dX0_schemaBelow_31 : decode cX0_schemaBelow 31 = .ok (.iaload, 1) := by decide +kernel
theorem dX0_schemaBelow_32 : decode cX0_schemaBelow 32 = .ok (.ifCond .lt 17, 3) := by decide +kernel
theorem dX0_schemaBelow_35 : decode cX0_schemaBelow 35 = .ok (.aload_n 0, 1) := by decide +kernel
theorem dX0_schemaBelow_36 : decode cX0_schemaBelow 36 = .ok (.getfield 9, 3) := by decide +kernel
theorem dX0_schemaBelow_39 : decode cX0_schemaBelow 39 = .ok (.iload_n 1, 1) := by decide +kernel
theorem dX0_schemaBelow_40 : decode cX0_schemaBelow 40 = .ok (.iaload, 1) := by decide +kernel
theorem dX0_schemaBelow_41 : decode cX0_schemaBelow 41 = .ok (.aload_n 0, 1) := by decide +kernel
theorem dX0_schemaBelow_42 : decode cX0_schemaBelow 42 = .ok (.getfield 19, 3) := by decide +kernel
theorem dX0_schemaBelow_45 : decode cX0_schemaBelow 45 = .ok (.arraylength, 1) := by decide +kernel
theorem dX0_schemaBelow_46 : decode cX0_schemaBelow 46 = .ok (.if_icmp .lt 5, 3) := by decide +kernel
theorem dX0_schemaBelow_49 : decode cX0_schemaBelow 49 = .ok (.iconst (-1), 1) := by decide +kernel
theorem dX0_schemaBelow_50 : decode cX0_schemaBelow 50 = .ok (.ireturn, 1) := by decide +kernel
theorem dX0_schemaBelow_51 : decode cX0_schemaBelow 51 = .ok (.aload_n 0, 1) := by decide +kernel
theorem dX0_schemaBelow_52 : decode cX0_schemaBelow 52 = .ok (.getfield 19, 3) := by decide +kernel
theorem dX0_schemaBelow_55 : decode cX0_schemaBelow 55 = .ok (.aload_n 0, 1) := by decide +kernel
theorem dX0_schemaBelow_56 : decode cX0_schemaBelow 56 = .ok (.getfield 9, 3) := by decide +kernel
theorem dX0_schemaBelow_59 : decode cX0_schemaBelow 59 = .ok (.iload_n 1, 1) := by decide +kernel
theorem dX0_schemaBelow_60 : decode cX0_schemaBelow 60 = .ok (.iaload, 1) := by decide +kernel
theorem dX0_schemaBelow_61 : decode cX0_schemaBelow 61 = .ok (.aaload, 1) := by decide +kernel
theorem dX0_schemaBelow_62 : decode cX0_schemaBelow 62 = .ok (.aload_n 3, 1) := by decide +kernel
theorem dX0_schemaBelow_63 : decode cX0_schemaBelow 63 = .ok (.getfield 53, 3) := by decide +kernel
theorem dX0_schemaBelow_66 : decode cX0_schemaBelow 66 = .ok (.aload_n 0, 1) := by decide +kernel
theorem dX0_schemaBelow_67 : decode cX0_schemaBelow 67 = .ok (.getfield 15, 3) := by decide +kernel
theorem dX0_schemaBelow_70 : decode cX0_schemaBelow 70 = .ok (.iload_n 2, 1) := by decide +kernel
theorem dX0_schemaBelow_71 : decode cX0_schemaBelow 71 = .ok (.invokevirtual 58, 3) := by decide +kernel
theorem dX0_schemaBelow_74 : decode cX0_schemaBelow 74 = .ok (.invokevirtual 61, 3) := by decide +kernel
theorem dX0_schemaBelow_77 : decode cX0_schemaBelow 77 = .ok (.ireturn, 1) := by decide +kernel
theorem dX0_isOfKind_0 : decode cX0_isOfKind 0 = .ok (.aload_n 3, 1) := by decide +kernel
theorem dX0_isOfKind_1 : decode cX0_isOfKind 1 = .ok (.getfield 66, 3) := by decide +kernel
theorem dX0_isOfKind_4 : decode cX0_isOfKind 4 = .ok (.aload_n 2, 1) := by decide +kernel
theorem dX0_isOfKind_5 : decode cX0_isOfKind 5 = .ok (.getfield 53, 3) := by decide +kernel
theorem dX0_isOfKind_8 : decode cX0_isOfKind 8 = .ok (.ishr, 1) := by decide +kernel
theorem dX0_isOfKind_9 : decode cX0_isOfKind 9 = .ok (.iconst 1, 1) := by decide +kernel
theorem dX0_isOfKind_10 : decode cX0_isOfKind 10 = .ok (.iand, 1) := by decide +kernel
theorem dX0_isOfKind_11 : decode cX0_isOfKind 11 = .ok (.ifCond .ne 11, 3) := by decide +kernel
theorem dX0_isOfKind_14 : decode cX0_isOfKind 14 = .ok (.aload_n 0, 1) := by decide +kernel
theorem dX0_isOfKind_15 : decode cX0_isOfKind 15 = .ok (.iload_n 1, 1) := by decide +kernel
theorem dX0_isOfKind_16 : decode cX0_isOfKind 16 = .ok (.iconst 1, 1) := by decide +kernel
theorem dX0_isOfKind_17 : decode cX0_isOfKind 17 = .ok (.invokevirtual 45, 3) := by decide +kernel
theorem dX0_isOfKind_20 : decode cX0_isOfKind 20 = .ok (.iconst 0, 1) := by decide +kernel
theorem dX0_isOfKind_21 : decode cX0_isOfKind 21 = .ok (.ireturn, 1) := by decide +kernel
theorem dX0_isOfKind_22 : decode cX0_isOfKind 22 = .ok (.aload_n 2, 1) := by decide +kernel
theorem dX0_isOfKind_23 : decode cX0_isOfKind 23 = .ok (.getfield 53, 3) := by decide +kernel
theorem dX0_isOfKind_26 : decode cX0_isOfKind 26 = .ok (.iconst 2, 1) := by decide +kernel
theorem dX0_isOfKind_27 : decode cX0_isOfKind 27 = .ok (.if_icmp .ne 31, 3) := by decide +kernel
theorem dX0_isOfKind_30 : decode cX0_isOfKind 30 = .ok (.aload_n 2, 1) := by decide +kernel
theorem dX0_isOfKind_31 : decode cX0_isOfKind 31 = .ok (.getfield 69, 3) := by decide +kernel
theorem dX0_isOfKind_34 : decode cX0_isOfKind 34 = .ok (.aload_n 3, 1) := by decide +kernel
theorem dX0_isOfKind_35 : decode cX0_isOfKind 35 = .ok (.getfield 72, 3) := by decide +kernel
theorem dX0_isOfKind_38 : decode cX0_isOfKind 38 = .ok (.if_icmp .lt 14, 3) := by decide +kernel
theorem dX0_isOfKind_41 : decode cX0_isOfKind 41 = .ok (.aload_n 2, 1) := by decide +kernel
theorem dX0_isOfKind_42 : decode cX0_isOfKind 42 = .ok (.getfield 69, 3) := by decide +kernel
theorem dX0_isOfKind_45 : decode cX0_isOfKind 45 = .ok (.aload_n 3, 1) := by decide +kernel
theorem dX0_isOfKind_46 : decode cX0_isOfKind 46 = .ok (.getfield 75, 3) := by decide +kernel
theorem dX0_isOfKind_49 : decode cX0_isOfKind 49 = .ok (.if_icmp .le 9, 3) := by decide +kernel
theorem dX0_isOfKind_52 : decode cX0_isOfKind 52 = .ok (.aload_n 0, 1) := by decide +kernel
theorem dX0_isOfKind_53 : decode cX0_isOfKind 53 = .ok (.iload_n 1, 1) := by decide +kernel
theorem dX0_isOfKind_54 : decode cX0_isOfKind 54 = .ok (.iconst 2, 1) := by decide +kernel
theorem dX0_isOfKind_55 : decode cX0_isOfKind 55 = .ok (.invokevirtual 45, 3) := by decide +kernel
theorem dX0_isOfKind_58 : decode cX0_isOfKind 58 = .ok (.aload_n 2, 1) := by decide +kernel
theorem dX0_isOfKind_59 : decode cX0_isOfKind 59 = .ok (.getfield 53, 3) := by decide +kernel
theorem dX0_isOfKind_62 : decode cX0_isOfKind 62 = .ok (.iconst 3, 1) := by decide +kernel
theorem dX0_isOfKind_63 : decode cX0_isOfKind 63 = .ok (.if_icmp .eq 11, 3) := by decide +kernel
theorem dX0_isOfKind_66 : decode cX0_isOfKind 66 = .ok (.aload_n 2, 1) := by decide +kernel
theorem dX0_isOfKind_67 : decode cX0_isOfKind 67 = .ok (.getfield 53, 3) := by decide +kernel
theorem dX0_isOfKind_70 : decode cX0_isOfKind 70 = .ok (.iconst 4, 1) := by decide +kernel
theorem dX0_isOfKind_71 : decode cX0_isOfKind 71 = .ok (.if_icmp .ne 7, 3) := by decide +kernel
theorem dX0_isOfKind_74 : decode cX0_isOfKind 74 = .ok (.iconst 1, 1) := by decide +kernel
theorem dX0_isOfKind_75 : decode cX0_isOfKind 75 = .ok (.goto 4, 3) := by decide +kernel
theorem dX0_isOfKind_78 : decode cX0_isOfKind 78 = .ok (.iconst 0, 1) := by decide +kernel
theorem dX0_isOfKind_79 : decode cX0_isOfKind 79 = .ok (.istore 4, 2) := by decide +kernel
theorem dX0_isOfKind_81 : decode cX0_isOfKind 81 = .ok (.iload 4, 2) := by decide +kernel
theorem dX0_isOfKind_83 : decode cX0_isOfKind 83 = .ok (.ifCond .eq 31, 3) := by decide +kernel
theorem dX0_isOfKind_86 : decode cX0_isOfKind 86 = .ok (.aload_n 2, 1) := by decide +kernel
theorem dX0_isOfKind_87 : decode cX0_isOfKind 87 = .ok (.invokevirtual 78, 3) := by decide +kernel
theorem dX0_isOfKind_90 : decode cX0_isOfKind 90 = .ok (.aload_n 3, 1) := by decide +kernel
theorem dX0_isOfKind_91 : decode cX0_isOfKind 91 = .ok (.getfield 82, 3) := by decide +kernel
theorem dX0_isOfKind_94 : decode cX0_isOfKind 94 = .ok (.if_icmp .lt 14, 3) := by decide +kernel
theorem dX0_isOfKind_97 : decode cX0_isOfKind 97 = .ok (.aload_n 2, 1) := by decide +kernel
theorem dX0_isOfKind_98 : decode cX0_isOfKind 98 = .ok (.invokevirtual 78, 3) := by decide +kernel
theorem dX0_isOfKind_101 : decode cX0_isOfKind 101 = .ok (.aload_n 3, 1) := by decide +kernel
theorem dX0_isOfKind_102 : decode cX0_isOfKind 102 = .ok (.getfield 85, 3) := by decide +kernel
theorem dX0_isOfKind_105 : decode cX0_isOfKind 105 = .ok (.if_icmp .le 9, 3) := by decide +kernel
theorem dX0_isOfKind_108 : decode cX0_isOfKind 108 = .ok (.aload_n 0, 1) := by decide +kernel
theorem dX0_isOfKind_109 : decode cX0_isOfKind 109 = .ok (.iload_n 1, 1) := by decide +kernel
theorem dX0_isOfKind_110 : decode cX0_isOfKind 110 = .ok (.iconst 3, 1) := by decide +kernel
theorem dX0_isOfKind_111 : decode cX0_isOfKind 111 = .ok (.invokevirtual 45, 3) := by decide +kernel
theorem dX0_isOfKind_114 : decode cX0_isOfKind 114 = .ok (.aload_n 2, 1) := by decide +kernel
theorem dX0_isOfKind_115 : decode cX0_isOfKind 115 = .ok (.getfield 53, 3) := by decide +kernel
theorem dX0_isOfKind_118 : decode cX0_isOfKind 118 = .ok (.iconst 4, 1) := by decide +kernel
theorem dX0_isOfKind_119 : decode cX0_isOfKind 119 = .ok (.if_icmp .ne 11, 3) := by decide +kernel
theorem dX0_isOfKind_122 : decode cX0_isOfKind 122 = .ok (.aload_n 3, 1) := by decide +kernel
theorem dX0_isOfKind_123 : decode cX0_isOfKind 123 = .ok (.aload_n 2, 1) := by decide +kernel
theorem dX0_isOfKind_124 : decode cX0_isOfKind 124 = .ok (.invokevirtual 88, 3) := by decide +kernel
theorem dX0_isOfKind_127 : decode cX0_isOfKind 127 = .ok (.goto 4, 3) := by decide +kernel
theorem dX0_isOfKind_130 : decode cX0_isOfKind 130 = .ok (.iconst 0, 1) := by decide +kernel
theorem dX0_isOfKind_131 : decode cX0_isOfKind 131 = .ok (.istore 5, 2) := by decide +kernel
theorem dX0_isOfKind_133 : decode cX0_isOfKind 133 = .ok (.iconst 0, 1) := by decide +kernel
theorem dX0_isOfKind_134 : decode cX0_isOfKind 134 = .ok (.istore 6, 2) := by decide +kernel
theorem dX0_isOfKind_136 : decode cX0_isOfKind 136 = .ok (.iload 6, 2) := by decide +kernel
theorem dX0_isOfKind_138 : decode cX0_isOfKind 138 = .ok (.iload 5, 2) := by decide +kernel
theorem dX0_isOfKind_140 : decode cX0_isOfKind 140 = .ok (.if_icmp .ge 15, 3) := by decide +kernel
theorem dX0_isOfKind_143 : decode cX0_isOfKind 143 = .ok (.aload_n 0, 1) := by decide +kernel
theorem dX0_isOfKind_144 : decode cX0_isOfKind 144 = .ok (.iload_n 1, 1) := by decide +kernel
theorem dX0_isOfKind_145 : decode cX0_isOfKind 145 = .ok (.iconst 4, 1) := by decide +kernel
theorem dX0_isOfKind_146 : decode cX0_isOfKind 146 = .ok (.invokevirtual 45, 3) := by decide +kernel
theorem dX0_isOfKind_149 : decode cX0_isOfKind 149 = .ok (.iinc 6 1, 3) := by decide +kernel
theorem dX0_isOfKind_152 : decode cX0_isOfKind 152 = .ok (.goto (-16), 3) := by decide +kernel
theorem dX0_isOfKind_155 : decode cX0_isOfKind 155 = .ok (.iconst 1, 1) := by decide +kernel
theorem dX0_isOfKind_156 : decode cX0_isOfKind 156 = .ok (.ireturn, 1) := by decide +kernel
theorem dX0_note_0 : decode cX0_note 0 = .ok (.aload_n 0, 1) := by decide +kernel
theorem dX0_note_1 : decode cX0_note 1 = .ok (.getfield 27, 3) := by decide +kernel
theorem dX0_note_4 : decode cX0_note 4 = .ok (.aload_n 0, 1) := by decide +kernel
theorem dX0_note_5 : decode cX0_note 5 = .ok (.getfield 23, 3) := by decide +kernel
theorem dX0_note_8 : decode cX0_note 8 = .ok (.if_icmp .ne 13, 3) := by decide +kernel
theorem dX0_note_11 : decode cX0_note 11 = .ok (.aload_n 0, 1) := by decide +kernel
theorem dX0_note_12 : decode cX0_note 12 = .ok (.iload_n 1, 1) := by decide +kernel
theorem dX0_note_13 : decode cX0_note 13 = .ok (.putfield 92, 3) := by decide +kernel
theorem dX0_note_16 : decode cX0_note 16 = .ok (.aload_n 0, 1) := by decide +kernel
theorem dX0_note_17 : decode cX0_note 17 = .ok (.iload_n 2, 1) := by decide +kernel
theorem dX0_note_18 : decode cX0_note 18 = .ok (.putfield 95, 3) := by decide +kernel
theorem dX0_note_21 : decode cX0_note 21 = .ok (.aload_n 0, 1) := by decide +kernel
theorem dX0_note_22 : decode cX0_note 22 = .ok (.dup, 1) := by decide +kernel
theorem dX0_note_23 : decode cX0_note 23 = .ok (.getfield 27, 3) := by decide +kernel
theorem dX0_note_26 : decode cX0_note 26 = .ok (.iconst 1, 1) := by decide +kernel
theorem dX0_note_27 : decode cX0_note 27 = .ok (.iadd, 1) := by decide +kernel
theorem dX0_note_28 : decode cX0_note 28 = .ok (.putfield 27, 3) := by decide +kernel
theorem dX0_note_31 : decode cX0_note 31 = .ok (.return_, 1) := by decide +kernel
theorem dX1_init_0 : decode cX1_init 0 = .ok (.aload_n 0, 1) := by decide +kernel
theorem dX1_init_1 : decode cX1_init 1 = .ok (.invokespecial 3, 3) := by decide +kernel
theorem dX1_init_4 : decode cX1_init 4 = .ok (.aload_n 0, 1) := by decide +kernel
theorem dX1_init_5 : decode cX1_init 5 = .ok (.sipush 2600, 3) := by decide +kernel
theorem dX1_init_8 : decode cX1_init 8 = .ok (.newarray .int, 2) := by decide +kernel
theorem dX1_init_10 : decode cX1_init 10 = .ok (.putfield 9, 3) := by decide +kernel
theorem dX1_init_13 : decode cX1_init 13 = .ok (.aload_n 0, 1) := by decide +kernel
theorem dX1_init_14 : decode cX1_init 14 = .ok (.bipush 6, 2) := by decide +kernel
theorem dX1_init_16 : decode cX1_init 16 = .ok (.newarray .int, 2) := by decide +kernel
theorem dX1_init_18 : decode cX1_init 18 = .ok (.putfield 15, 3) := by decide +kernel
theorem dX1_init_21 : decode cX1_init 21 = .ok (.aload_n 0, 1) := by decide +kernel
theorem dX1_init_22 : decode cX1_init 22 = .ok (.bipush 20, 2) := by decide +kernel
theorem dX1_init_24 : decode cX1_init 24 = .ok (.anewarray 18, 3) := by decide +kernel
theorem dX1_init_27 : decode cX1_init 27 = .ok (.putfield 20, 3) := by decide +kernel
theorem dX1_init_30 : decode cX1_init 30 = .ok (.return_, 1) := by decide +kernel
theorem dX1_compare_0 : decode cX1_compare 0 = .ok (.aload_n 0, 1) := by decide +kernel
theorem dX1_compare_1 : decode cX1_compare 1 = .ok (.aload_n 1, 1) := by decide +kernel
theorem dX1_compare_2 : decode cX1_compare 2 = .ok (.aload_n 2, 1) := by decide +kernel
theorem dX1_compare_3 : decode cX1_compare 3 = .ok (.iconst 0, 1) := by decide +kernel
theorem dX1_compare_4 : decode cX1_compare 4 = .ok (.iconst 0, 1) := by decide +kernel
theorem dX1_compare_5 : decode cX1_compare 5 = .ok (.invokevirtual 24, 3) := by decide +kernel
theorem dX1_compare_8 : decode cX1_compare 8 = .ok (.ireturn, 1) := by decide +kernel
theorem dX1_between_0 : decode cX1_between 0 = .ok (.aload_n 1, 1) := by decide +kernel
theorem dX1_between_1 : decode cX1_between 1 = .ok (.aload_n 2, 1) := by decide +kernel
theorem dX1_between_2 : decode cX1_between 2 = .ok (.if_acmp .eq 11, 3) := by decide +kernel
theorem dX1_between_5 : decode cX1_between 5 = .ok (.aload_n 1, 1) := by decide +kernel
theorem dX1_between_6 : decode cX1_between 6 = .ok (.ifnull 7, 3) := by decide +kernel
theorem dX1_between_9 : decode cX1_between 9 = .ok (.aload_n 2, 1) := by decide +kernel
theorem dX1_between_10 : decode cX1_between 10 = .ok (.ifnonnull 5, 3) := by decide +kernel
theorem dX1_between_13 : decode cX1_between 13 = .ok (.iconst 0, 1) := by decide +kernel
theorem dX1_between_14 : decode cX1_between 14 = .ok (.ireturn, 1) := by decide +kernel
theorem dX1_between_15 : decode cX1_between 15 = .ok (.iload_n 3, 1) := by decide +kernel
theorem dX1_between_16 : decode cX1_between 16 = .ok (.bipush 40, 2) := by decide +kernel
theorem dX1_between_18 : decode cX1_between 18 = .ok (.if_icmp .gt 51, 3) := by decide +kernel
theorem dX1_between_21 : decode cX1_between 21 = .ok (.aload_n 1, 1) := by decide +kernel
theorem dX1_between_22 : decode cX1_between 22 = .ok (.getfield 28, 3) := by decide +kernel
theorem dX1_between_25 : decode cX1_between 25 = .ok (.iconst 3, 1) := by decide +kernel
theorem dX1_between_26 : decode cX1_between 26 = .ok (.if_icmp .ne 43, 3) := by decide +kernel
theorem dX1_between_29 : decode cX1_between 29 = .ok (.aload_n 2, 1) := by decide +kernel
theorem dX1_between_30 : decode cX1_between 30 = .ok (.getfield 28, 3) := by decide +kernel
theorem dX1_between_33 : decode cX1_between 33 = .ok (.iconst 3, 1) := by decide +kernel
theorem dX1_between_34 : decode cX1_between 34 = .ok (.if_icmp .ne 35, 3) := by decide +kernel
theorem dX1_between_37 : decode cX1_between 37 = .ok (.aload_n 0, 1) := by decide +kernel
theorem dX1_between_38 : decode cX1_between 38 = .ok (.aload_n 1, 1) := by decide +kernel
theorem dX1_between_39 : decode cX1_between 39 = .ok (.aload_n 2, 1) := by decide +kernel
theorem dX1_between_40 : decode cX1_between 40 = .ok (.iload_n 3, 1) := by decide +kernel
theorem dX1_between_41 : decode cX1_between 41 = .ok (.iload 4, 2) := by decide +kernel
theorem dX1_between_43 : decode cX1_between 43 = .ok (.invokevirtual 34, 3) := by decide +kernel
theorem dX1_between_46 : decode cX1_between 46 = .ok (.ifCond .eq 13, 3) := by decide +kernel
theorem dX1_between_49 : decode cX1_between 49 = .ok (.aload_n 0, 1) := by decide +kernel
theorem dX1_between_50 : decode cX1_between 50 = .ok (.getfield 9, 3) := by decide +kernel
theorem dX1_between_53 : decode cX1_between 53 = .ok (.iload 4, 2) := by decide +kernel
theorem dX1_between_55 : decode cX1_between 55 = .ok (.iaload, 1) := by decide +kernel
theorem dX1_between_56 : decode cX1_between 56 = .ok (.goto 12, 3) := by decide +kernel
theorem dX1_between_59 : decode cX1_between 59 = .ok (.aload_n 1, 1) := by decide +kernel
theorem dX1_between_60 : decode cX1_between 60 = .ok (.getfield 38, 3) := by decide +kernel
theorem dX1_between_63 : decode cX1_between 63 = .ok (.aload_n 2, 1) := by decide +kernel
theorem dX1_between_64 : decode cX1_between 64 = .ok (.getfield 38, 3) := by decide +kernel
theorem dX1_between_67 : decode cX1_between 67 = .ok (.iadd, 1) := by decide +kernel
theorem dX1_between_68 : decode cX1_between 68 = .ok (.ireturn, 1) := by decide +kernel
theorem dX1_between_69 : decode cX1_between 69 = .ok (.iload_n 3, 1) := by decide +kernel
theorem dX1_between_70 : decode cX1_between 70 = .ok (.bipush 40, 2) := by decide +kernel
theorem dX1_between_72 : decode cX1_between 72 = .ok (.if_icmp .gt 29, 3) := by decide +kernel
theorem dX1_between_75 : decode cX1_between 75 = .ok (.aload_n 1, 1) := by decide +kernel
theorem dX1_between_76 : decode cX1_between 76 = .ok (.getfield 28, 3) := by decide +kernel
theorem dX1_between_79 : decode cX1_between 79 = .ok (.iconst 4, 1) := by decide +kernel
theorem dX1_between_80 : decode cX1_between 80 = .ok (.if_icmp .ne 21, 3) := by decide +kernel
theorem dX1_between_83 : decode cX1_between 83 = .ok (.aload_n 2, 1) := by decide +kernel
theorem dX1_between_84 : decode cX1_between 84 = .ok (.getfield 28, 3) := by decide +kernel
theorem dX1_between_87 : decode cX1_between 87 = .ok (.iconst 4, 1) := by decide +kernel
theorem dX1_between_88 : decode cX1_between 88 = .ok (.if_icmp .ne 13, 3) := by decide +kernel
theorem dX1_between_91 : decode cX1_between 91 = .ok (.aload_n 0, 1) := by decide +kernel
theorem dX1_between_92 : decode cX1_between 92 = .ok (.aload_n 1, 1) := by decide +kernel
theorem dX1_between_93 : decode cX1_between 93 = .ok (.aload_n 2, 1) := by decide +kernel
theorem dX1_between_94 : decode cX1_between 94 = .ok (.iload_n 3, 1) := by decide +kernel
theorem dX1_between_95 : decode cX1_between 95 = .ok (.iload 4, 2) := by decide +kernel
theorem dX1_between_97 : decode cX1_between 97 = .ok (.invokevirtual 41, 3) := by decide +kernel
theorem dX1_between_100 : decode cX1_between 100 = .ok (.ireturn, 1) := by decide +kernel
theorem dX1_between_101 : decode cX1_between 101 = .ok (.aload_n 1, 1) := by decide +kernel
theorem dX1_between_102 : decode cX1_between 102 = .ok (.getfield 28, 3) := by decide +kernel
theorem dX1_between_105 : decode cX1_between 105 = .ok (.aload_n 2, 1) := by decide +kernel
theorem dX1_between_106 : decode cX1_between 106 = .ok (.getfield 28, 3) := by decide +kernel
theorem dX1_between_109 : decode cX1_between 109 = .ok (.if_icmp .ne 18, 3) := by decide +kernel
theorem dX1_between_112 : decode cX1_between 112 = .ok (.aload_n 1, 1) := by decide +kernel
theorem dX1_between_113 : decode cX1_between 113 = .ok (.getfield 44, 3) := by decide +kernel
theorem dX1_between_116 : decode cX1_between 116 = .ok (.aload_n 2, 1) := by decide +kernel
theorem dX1_between_117 : decode cX1_between 117 = .ok (.getfield 44, 3) := by decide +kernel
theorem dX1_between_120 : decode cX1_between 120 = .ok (.if_icmp .ne 7, 3) := by decide +kernel
theorem dX1_between_123 : decode cX1_between 123 = .ok (.iconst 0, 1) := by decide +kernel
theorem dX1_between_124 : decode cX1_between 124 = .ok (.goto 12, 3) := by decide +kernel
theorem dX1_between_127 : decode cX1_between 127 = .ok (.aload_n 1, 1) := by decide +kernel
theorem dX1_between_128 : decode cX1_between 128 = .ok (.getfield 38, 3) := by decide +kernel
theorem dX1_between_131 : decode cX1_between 131 = .ok (.aload_n 2, 1) := by decide +kernel
theorem dX1_between_132 : decode cX1_between 132 = .ok (.getfield 38, 3) := by decide +kernel
theorem dX1_between_135 : decode cX1_between 135 = .ok (.iadd, 1) := by decide +kernel
theorem dX1_between_136 : decode cX1_between 136 = .ok (.ireturn, 1) := by decide +kernel
theorem dX1_betweenObjects_0 : decode cX1_betweenObjects 0 = .ok (.iconst 0, 1) := by decide +kernel
theorem dX1_betweenObjects_1 : decode cX1_betweenObjects 1 = .ok (.istore 5, 2) := by decide +kernel
theorem dX1_betweenObjects_3 : decode cX1_betweenObjects 3 = .ok (.iconst 0, 1) := by decide +kernel
theorem dX1_betweenObjects_4 : decode cX1_betweenObjects 4 = .ok (.istore 6, 2) := by decide +kernel
theorem dX1_betweenObjects_6 : decode cX1_betweenObjects 6 = .ok (.iconst 0, 1) := by decide +kernel
theorem dX1_betweenObjects_7 : decode cX1_betweenObjects 7 = .ok (.istore 7, 2) := by decide +kernel
theorem dX1_betweenObjects_9 : decode cX1_betweenObjects 9 = .ok (.aload_n 1, 1) := by decide +kernel
theorem dX1_betweenObjects_10 : decode cX1_betweenObjects 10 = .ok (.invokevirtual 47, 3) := by decide +kernel
theorem dX1_betweenObjects_13 : decode cX1_betweenObjects 13 = .ok (.aload_n 2, 1) := by decide +kernel
theorem dX1_betweenObjects_14 : decode cX1_betweenObjects 14 = .ok (.invokevirtual 47, 3) := by decide +kernel
theorem dX1_betweenObjects_17 : decode cX1_betweenObjects 17 = .ok (.iadd, 1) := by decide +kernel
theorem dX1_betweenObjects_18 : decode cX1_betweenObjects 18 = .ok (.istore 8, 2) := by decide +kernel
theorem dX1_betweenObjects_20 : decode cX1_betweenObjects 20 = .ok (.iload 8, 2) := by decide +kernel
theorem dX1_betweenObjects_22 : decode cX1_betweenObjects 22 = .ok (.ifCond .le 112, 3) := by decide +kernel
theorem dX1_betweenObjects_25 : decode cX1_betweenObjects 25 = .ok (.aload_n 1, 1) := by decide +kernel
theorem dX1_betweenObjects_26 : decode cX1_betweenObjects 26 = .ok (.iload 6, 2) := by decide +kernel
theorem dX1_betweenObjects_28 : decode cX1_betweenObjects 28 = .ok (.aload_n 2, 1) := by decide +kernel
theorem dX1_betweenObjects_29 : decode cX1_betweenObjects 29 = .ok (.iload 7, 2) := by decide +kernel
theorem dX1_betweenObjects_31 : decode cX1_betweenObjects 31 = .ok (.invokestatic 51, 3) := by decide +kernel
theorem dX1_betweenObjects_34 : decode cX1_betweenObjects 34 = .ok (.istore 9, 2) := by decide +kernel
theorem dX1_betweenObjects_36 : decode cX1_betweenObjects 36 = .ok (.iload 9, 2) := by decide +kernel
theorem dX1_betweenObjects_38 : decode cX1_betweenObjects 38 = .ok (.ifCond .ne 35, 3) := by decide +kernel
theorem dX1_betweenObjects_41 : decode cX1_betweenObjects 41 = .ok (.iload 5, 2) := by decide +kernel
theorem dX1_betweenObjects_43 : decode cX1_betweenObjects 43 = .ok (.aload_n 0, 1) := by decide +kernel
theorem dX1_betweenObjects_44 : decode cX1_betweenObjects 44 = .ok (.aload_n 1, 1) := by decide +kernel
theorem dX1_betweenObjects_45 : decode cX1_betweenObjects 45 = .ok (.iload 6, 2) := by decide +kernel
theorem dX1_betweenObjects_47 : decode cX1_betweenObjects 47 = .ok (.invokevirtual 55, 3) := by decide +kernel
theorem dX1_betweenObjects_50 : decode cX1_betweenObjects 50 = .ok (.aload_n 2, 1) := by decide +kernel
theorem dX1_betweenObjects_51 : decode cX1_betweenObjects 51 = .ok (.iload 7, 2) := by decide +kernel
theorem dX1_betweenObjects_53 : decode cX1_betweenObjects 53 = .ok (.invokevirtual 55, 3) := by decide +kernel
theorem dX1_betweenObjects_56 : decode cX1_betweenObjects 56 = .ok (.iload_n 3, 1) := by decide +kernel
theorem dX1_betweenObjects_57 : decode cX1_betweenObjects 57 = .ok (.iconst 1, 1) := by decide +kernel
theorem dX1_betweenObjects_58 : decode cX1_betweenObjects 58 = .ok (.iadd, 1) := by decide +kernel
theorem dX1_betweenObjects_59 : decode cX1_betweenObjects 59 = .ok (.iload 4, 2) := by decide +kernel
theorem dX1_betweenObjects_61 : decode cX1_betweenObjects 61 = .ok (.invokevirtual 24, 3) := by decide +kernel
theorem dX1_betweenObjects_64 : decode cX1_betweenObjects 64 = .ok (.iadd, 1) := by decide +kernel
theorem dX1_betweenObjects_65 : decode cX1_betweenObjects 65 = .ok (.istore 5, 2) := by decide +kernel
theorem dX1_betweenObjects_67 : decode cX1_betweenObjects 67 = .ok (.iinc 8 (-1), 3) := by decide +kernel
theorem dX1_betweenObjects_70 : decode cX1_betweenObjects 70 = .ok (.goto 28, 3) := by decide +kernel
theorem dX1_betweenObjects_73 : decode cX1_betweenObjects 73 = .ok (.iload 5, 2) := by decide +kernel
theorem dX1_betweenObjects_75 : decode cX1_betweenObjects 75 = .ok (.iload 9, 2) := by decide +kernel
theorem dX1_betweenObjects_77 : decode cX1_betweenObjects 77 = .ok (.ifCond .ge 12, 3) := by decide +kernel
theorem dX1_betweenObjects_80 : decode cX1_betweenObjects 80 = .ok (.aload_n 1, 1) := by decide +kernel
theorem dX1_betweenObjects_81 : decode cX1_betweenObjects 81 = .ok (.iload 6, 2) := by decide +kernel
theorem dX1_betweenObjects_83 : decode cX1_betweenObjects 83 = .ok (.invokestatic 59, 3) := by decide +kernel
theorem dX1_betweenObjects_86 : decode cX1_betweenObjects 86 = .ok (.goto 9, 3) := by decide +kernel
theorem dX1_betweenObjects_89 : decode cX1_betweenObjects 89 = .ok (.aload_n 2, 1) := by decide +kernel
theorem dX1_betweenObjects_90 : decode cX1_betweenObjects 90 = .ok (.iload 7, 2) := by decide +kernel
theorem dX1_betweenObjects_92 : decode cX1_betweenObjects 92 = .ok (.invokestatic 59, 3) := by decide +kernel
theorem dX1_betweenObjects_95 : decode cX1_betweenObjects 95 = .ok (.iadd, 1) := by decide +kernel
theorem dX1_betweenObjects_96 : decode cX1_betweenObjects 96 = .ok (.istore 5, 2) := by decide +kernel
theorem dX1_betweenObjects_98 : decode cX1_betweenObjects 98 = .ok (.iload 6, 2) := by decide +kernel
theorem dX1_betweenObjects_100 : decode cX1_betweenObjects 100 = .ok (.iload 9, 2) := by decide +kernel
theorem dX1_betweenObjects_102 : decode cX1_betweenObjects 102 = .ok (.ifCond .gt 7, 3) := by decide +kernel
theorem dX1_betweenObjects_105 : decode cX1_betweenObjects 105 = .ok (.iconst 1, 1) := by decide +kernel
theorem dX1_betweenObjects_106 : decode cX1_betweenObjects 106 = .ok (.goto 4, 3) := by decide +kernel
theorem dX1_betweenObjects_109 : decode cX1_betweenObjects 109 = .ok (.iconst 0, 1) := by decide +kernel
theorem dX1_betweenObjects_110 : decode cX1_betweenObjects 110 = .ok (.iadd, 1) := by decide +kernel
theorem dX1_betweenObjects_111 : decode cX1_betweenObjects 111 = .ok (.istore 6, 2) := by decide +kernel
theorem dX1_betweenObjects_113 : decode cX1_betweenObjects 113 = .ok (.iload 7, 2) := by decide +kernel
theorem dX1_betweenObjects_115 : decode cX1_betweenObjects 115 = .ok (.iload 9, 2) := by decide +kernel
theorem dX1_betweenObjects_117 : decode cX1_betweenObjects 117 = .ok (.ifCond .lt 7, 3) := by decide +kernel
theorem dX1_betweenObjects_120 : decode cX1_betweenObjects 120 = .ok (.iconst 1, 1) := by decide +kernel
theorem dX1_betweenObjects_121 : decode cX1_betweenObjects 121 = .ok (.goto 4, 3) := by decide +kernel
theorem dX1_betweenObjects_124 : decode cX1_betweenObjects 124 = .ok (.iconst 0, 1) := by decide +kernel
theorem dX1_betweenObjects_125 : decode cX1_betweenObjects 125 = .ok (.iadd, 1) := by decide +kernel
theorem dX1_betweenObjects_126 : decode cX1_betweenObjects 126 = .ok (.istore 7, 2) := by decide +kernel
theorem dX1_betweenObjects_128 : decode cX1_betweenObjects 128 = .ok (.iinc 8 (-1), 3) := by decide +kernel
theorem dX1_betweenObjects_131 : decode cX1_betweenObjects 131 = .ok (.goto (-111), 3) := by decide +kernel
theorem dX1_betweenObjects_134 : decode cX1_betweenObjects 134 = .ok (.iload 5, 2) := by decide +kernel
theorem dX1_betweenObjects_136 : decode cX1_betweenObjects 136 = .ok (.ireturn, 1) := by decide +kernel
theorem dX1_order_0 : decode cX1_order 0 = .ok (.iload_n 1, 1) := by decide +kernel
theorem dX1_order_1 : decode cX1_order 1 = .ok (.aload_n 0, 1) := by decide +kernel
theorem dX1_order_2 : decode cX1_order 2 = .ok (.invokevirtual 47, 3) := by decide +kernel
theorem dX1_order_5 : decode cX1_order 5 = .ok (.if_icmp .ge 11, 3) := by decide +kernel
theorem dX1_order_8 : decode cX1_order 8 = .ok (.aload_n 0, 1) := by decide +kernel
theorem dX1_order_9 : decode cX1_order 9 = .ok (.iload_n 1, 1) := by decide +kernel
theorem dX1_order_10 : decode cX1_order 10 = .ok (.invokevirtual 63, 3) := by decide +kernel
theorem dX1_order_13 : decode cX1_order 13 = .ok (.goto 5, 3) := by decide +kernel
theorem dX1_order_16 : decode cX1_order 16 = .ok (.bipush 100, 2) := by decide +kernel
theorem dX1_order_18 : decode cX1_order 18 = .ok (.istore 4, 2) := by decide +kernel
theorem dX1_order_20 : decode cX1_order 20 = .ok (.iload_n 3, 1) := by decide +kernel
theorem dX1_order_21 : decode cX1_order 21 = .ok (.aload_n 2, 1) := by decide +kernel
theorem dX1_order_22 : decode cX1_order 22 = .ok (.invokevirtual 47, 3) := by decide +kernel
theorem dX1_order_25 : decode cX1_order 25 = .ok (.if_icmp .ge 11, 3) := by decide +kernel
theorem dX1_order_28 : decode cX1_order 28 = .ok (.aload_n 2, 1) := by decide +kernel
theorem dX1_order_29 : decode cX1_order 29 = .ok (.iload_n 3, 1) := by decide +kernel
theorem dX1_order_30 : decode cX1_order 30 = .ok (.invokevirtual 63, 3) := by decide +kernel
theorem dX1_order_33 : decode cX1_order 33 = .ok (.goto 5, 3) := by decide +kernel
theorem dX1_order_36 : decode cX1_order 36 = .ok (.bipush 100, 2) := by decide +kernel
theorem dX1_order_38 : decode cX1_order 38 = .ok (.istore 5, 2) := by decide +kernel
theorem dX1_order_40 : decode cX1_order 40 = .ok (.iload 4, 2) := by decide +kernel
theorem dX1_order_42 : decode cX1_order 42 = .ok (.iload 5, 2) := by decide +kernel
theorem dX1_order_44 : decode cX1_order 44 = .ok (.isub, 1) := by decide +kernel
theorem dX1_order_45 : decode cX1_order 45 = .ok (.ireturn, 1) := by decide +kernel
theorem dX1_sizeAt_0 : decode cX1_sizeAt 0 = .ok (.aload_n 0, 1) := by decide +kernel
theorem dX1_sizeAt_1 : decode cX1_sizeAt 1 = .ok (.iload_n 1, 1) := by decide +kernel
theorem dX1_sizeAt_2 : decode cX1_sizeAt 2 = .ok (.invokevirtual 55, 3) := by decide +kernel
theorem dX1_sizeAt_5 : decode cX1_sizeAt 5 = .ok (.astore_n 2, 1) := by decide +kernel
theorem dX1_sizeAt_6 : decode cX1_sizeAt 6 = .ok (.aload_n 2, 1) := by decide +kernel
theorem dX1_sizeAt_7 : decode cX1_sizeAt 7 = .ok (.ifnonnull 7, 3) := by decide +kernel
theorem dX1_sizeAt_10 : decode cX1_sizeAt 10 = .ok (.iconst 0, 1) := by decide +kernel
theorem dX1_sizeAt_11 : decode cX1_sizeAt 11 = .ok (.goto 7, 3) := by decide +kernel
theorem dX1_sizeAt_14 : decode cX1_sizeAt 14 = .ok (.aload_n 2, 1) := by decide +kernel
theorem dX1_sizeAt_15 : decode cX1_sizeAt 15 = .ok (.getfield 38, 3) := by decide +kernel
theorem dX1_sizeAt_18 : decode cX1_sizeAt 18 = .ok (.ireturn, 1) := by decide +kernel
theorem dX1_fillTable_0 : decode cX1_fillTable 0 = .ok (.aload_n 1, 1) := by decide +kernel
theorem dX1_fillTable_1 : decode cX1_fillTable 1 = .ok (.invokevirtual 47, 3) := by decide +kernel
theorem dX1_fillTable_4 : decode cX1_fillTable 4 = .ok (.iconst 1, 1) := by decide +kernel
theorem dX1_fillTable_5 : decode cX1_fillTable 5 = .ok (.iadd, 1) := by decide +kernel
theorem dX1_fillTable_6 : decode cX1_fillTable 6 = .ok (.istore 5, 2) := by decide +kernel
theorem dX1_fillTable_8 : decode cX1_fillTable 8 = .ok (.aload_n 2, 1) := by decide +kernel
theorem dX1_fillTable_9 : decode cX1_fillTable 9 = .ok (.invokevirtual 47, 3) := by decide +kernel
theorem dX1_fillTable_12 : decode cX1_fillTable 12 = .ok (.iconst 1, 1) := by decide +kernel
theorem dX1_fillTable_13 : decode cX1_fillTable 13 = .ok (.iadd, 1) := by decide +kernel
theorem dX1_fillTable_14 : decode cX1_fillTable 14 = .ok (.istore 6, 2) := by decide +kernel
theorem dX1_fillTable_16 : decode cX1_fillTable 16 = .ok (.iload 4, 2) := by decide +kernel
theorem dX1_fillTable_18 : decode cX1_fillTable 18 = .ok (.ifCond .lt 33, 3) := by decide +kernel
theorem dX1_fillTable_21 : decode cX1_fillTable 21 = .ok (.iload 5, 2) := by decide +kernel
theorem dX1_fillTable_23 : decode cX1_fillTable 23 = .ok (.bipush 50, 2) := by decide +kernel
theorem dX1_fillTable_25 : decode cX1_fillTable 25 = .ok (.if_icmp .gt 26, 3) := by decide +kernel
theorem dX1_fillTable_28 : decode cX1_fillTable 28 = .ok (.iload 6, 2) := by decide +kernel
theorem dX1_fillTable_30 : decode cX1_fillTable 30 = .ok (.bipush 50, 2) := by decide +kernel
theorem dX1_fillTable_32 : decode cX1_fillTable 32 = .ok (.if_icmp .gt 19, 3) := by decide +kernel
theorem dX1_fillTable_35 : decode cX1_fillTable 35 = .ok (.iload 4, 2) := by decide +kernel
theorem dX1_fillTable_37 : decode cX1_fillTable 37 = .ok (.iload 5, 2) := by decide +kernel
theorem dX1_fillTable_39 : decode cX1_fillTable 39 = .ok (.iload 6, 2) := by decide +kernel
theorem dX1_fillTable_41 : decode cX1_fillTable 41 = .ok (.imul, 1) := by decide +kernel
theorem dX1_fillTable_42 : decode cX1_fillTable 42 = .ok (.iadd, 1) := by decide +kernel
theorem dX1_fillTable_43 : decode cX1_fillTable 43 = .ok (.aload_n 0, 1) := by decide +kernel
theorem dX1_fillTable_44 : decode cX1_fillTable 44 = .ok (.getfield 9, 3) := by decide +kernel
theorem dX1_fillTable_47 : decode cX1_fillTable 47 = .ok (.arraylength, 1) := by decide +kernel
theorem dX1_fillTable_48 : decode cX1_fillTable 48 = .ok (.if_icmp .le 5, 3) := by decide +kernel
theorem dX1_fillTable_51 : decode cX1_fillTable 51 = .ok (.iconst 0, 1) := by decide +kernel
theorem dX1_fillTable_52 : decode cX1_fillTable 52 = .ok (.ireturn, 1) := by decide +kernel
theorem dX1_fillTable_53 : decode cX1_fillTable 53 = .ok (.iload 5, 2) := by decide +kernel
theorem dX1_fillTable_55 : decode cX1_fillTable 55 = .ok (.iconst 1, 1) := by decide +kernel
theorem dX1_fillTable_56 : decode cX1_fillTable 56 = .ok (.isub, 1) := by decide +kernel
theorem dX1_fillTable_57 : decode cX1_fillTable 57 = .ok (.istore 7, 2) := by decide +kernel
theorem dX1_fillTable_59 : decode cX1_fillTable 59 = .ok (.iload 7, 2) := by decide +kernel
theorem dX1_fillTable_61 : decode cX1_fillTable 61 = .ok (.ifCond .lt 55, 3) := by decide +kernel
theorem dX1_fillTable_64 : decode cX1_fillTable 64 = .ok (.iload 6, 2) := by decide +kernel
theorem dX1_fillTable_66 : decode cX1_fillTable 66 = .ok (.iconst 1, 1) := by decide +kernel
theorem dX1_fillTable_67 : decode cX1_fillTable 67 = .ok (.isub, 1) := by decide +kernel
theorem dX1_fillTable_68 : decode cX1_fillTable 68 = .ok (.istore 8, 2) := by decide +kernel
theorem dX1_fillTable_70 : decode cX1_fillTable 70 = .ok (.iload 8, 2) := by decide +kernel
theorem dX1_fillTable_72 : decode cX1_fillTable 72 = .ok (.ifCond .lt 38, 3) := by decide +kernel
theorem dX1_fillTable_75 : decode cX1_fillTable 75 = .ok (.aload_n 0, 1) := by decide +kernel
theorem dX1_fillTable_76 : decode cX1_fillTable 76 = .ok (.getfield 9, 3) := by decide +kernel
theorem dX1_fillTable_79 : decode cX1_fillTable 79 = .ok (.iload 4, 2) := by decide +kernel
theorem dX1_fillTable_81 : decode cX1_fillTable 81 = .ok (.iload 7, 2) := by decide +kernel
theorem dX1_fillTable_83 : decode cX1_fillTable 83 = .ok (.iload 6, 2) := by decide +kernel
theorem dX1_fillTable_85 : decode cX1_fillTable 85 = .ok (.imul, 1) := by decide +kernel
theorem dX1_fillTable_86 : decode cX1_fillTable 86 = .ok (.iadd, 1) := by decide +kernel
theorem dX1_fillTable_87 : decode cX1_fillTable 87 = .ok (.iload 8, 2) := by decide +kernel
theorem dX1_fillTable_89 : decode cX1_fillTable 89 = .ok (.iadd, 1) := by decide +kernel
theorem dX1_fillTable_90 : decode cX1_fillTable 90 = .ok (.aload_n 0, 1) := by decide +kernel
theorem dX1_fillTable_91 : decode cX1_fillTable 91 = .ok (.aload_n 1, 1) := by decide +kernel
theorem dX1_fillTable_92 : decode cX1_fillTable 92 = .ok (.iload 7, 2) := by decide +kernel
theorem dX1_fillTable_94 : decode cX1_fillTable 94 = .ok (.aload_n 2, 1) := by decide +kernel
theorem dX1_fillTable_95 : decode cX1_fillTable 95 = .ok (.iload 8, 2) := by decide +kernel
theorem dX1_fillTable_97 : decode cX1_fillTable 97 = .ok (.iload_n 3, 1) := by decide +kernel
theorem dX1_fillTable_98 : decode cX1_fillTable 98 = .ok (.iload 4, 2) := by decide +kernel
theorem dX1_fillTable_100 : decode cX1_fillTable 100 = .ok (.invokevirtual 67, 3) := by decide +kernel
theorem dX1_fillTable_103 : decode cX1_fillTable 103 = .ok (.iastore, 1) := by decide +kernel
theorem dX1_fillTable_104 : decode cX1_fillTable 104 = .ok (.iinc 8 (-1), 3) := by decide +kernel
theorem dX1_fillTable_107 : decode cX1_fillTable 107 = .ok (.goto (-37), 3) := by decide +kernel
theorem dX1_fillTable_110 : decode cX1_fillTable 110 = .ok (.iinc 7 (-1), 3) := by decide +kernel
theorem dX1_fillTable_113 : decode cX1_fillTable 113 = .ok (.goto (-54), 3) := by decide +kernel
theorem dX1_fillTable_116 : decode cX1_fillTable 116 = .ok (.iconst 1, 1) := by decide +kernel
theorem dX1_fillTable_117 : decode cX1_fillTable 117 = .ok (.ireturn, 1) := by decide +kernel
theorem dX1_leastFrom_0 : decode cX1_leastFrom 0 = .ok (.iload_n 2, 1) := by decide +kernel
theorem dX1_leastFrom_1 : decode cX1_leastFrom 1 = .ok (.aload_n 1, 1) := by decide +kernel
theorem dX1_leastFrom_2 : decode cX1_leastFrom 2 = .ok (.invokevirtual 47, 3) := by decide +kernel
theorem dX1_leastFrom_5 : decode cX1_leastFrom 5 = .ok (.if_icmp .lt 14, 3) := by decide +kernel
theorem dX1_leastFrom_8 : decode cX1_leastFrom 8 = .ok (.iload 4, 2) := by decide +kernel
theorem dX1_leastFrom_10 : decode cX1_leastFrom 10 = .ok (.aload_n 3, 1) := by decide +kernel
theorem dX1_leastFrom_11 : decode cX1_leastFrom 11 = .ok (.invokevirtual 47, 3) := by decide +kernel
theorem dX1_leastFrom_14 : decode cX1_leastFrom 14 = .ok (.if_icmp .lt 5, 3) := by decide +kernel
theorem dX1_leastFrom_17 : decode cX1_leastFrom 17 = .ok (.iconst 0, 1) := by decide +kernel
theorem dX1_leastFrom_18 : decode cX1_leastFrom 18 = .ok (.ireturn, 1) := by decide +kernel
theorem dX1_leastFrom_19 : decode cX1_leastFrom 19 = .ok (.iload_n 2, 1) := by decide +kernel
theorem dX1_leastFrom_20 : decode cX1_leastFrom 20 = .ok (.aload_n 1, 1) := by decide +kernel
theorem dX1_leastFrom_21 : decode cX1_leastFrom 21 = .ok (.invokevirtual 47, 3) := by decide +kernel
theorem dX1_leastFrom_24 : decode cX1_leastFrom 24 = .ok (.if_icmp .lt 24, 3) := by decide +kernel
theorem dX1_leastFrom_27 : decode cX1_leastFrom 27 = .ok (.aload_n 3, 1) := by decide +kernel
theorem dX1_leastFrom_28 : decode cX1_leastFrom 28 = .ok (.iload 4, 2) := by decide +kernel
theorem dX1_leastFrom_30 : decode cX1_leastFrom 30 = .ok (.invokestatic 59, 3) := by decide +kernel
theorem dX1_leastFrom_33 : decode cX1_leastFrom 33 = .ok (.aload_n 0, 1) := by decide +kernel
theorem dX1_leastFrom_34 : decode cX1_leastFrom 34 = .ok (.aload_n 1, 1) := by decide +kernel
theorem dX1_leastFrom_35 : decode cX1_leastFrom 35 = .ok (.iload_n 2, 1) := by decide +kernel
theorem dX1_leastFrom_36 : decode cX1_leastFrom 36 = .ok (.aload_n 3, 1) := by decide +kernel
theorem dX1_leastFrom_37 : decode cX1_leastFrom 37 = .ok (.iload 4, 2) := by decide +kernel
theorem dX1_leastFrom_39 : decode cX1_leastFrom 39 = .ok (.iconst 1, 1) := by decide +kernel
theorem dX1_leastFrom_40 : decode cX1_leastFrom 40 = .ok (.iadd, 1) := by decide +kernel
theorem dX1_leastFrom_41 : decode cX1_leastFrom 41 = .ok (.iload 6, 2) := by decide +kernel
theorem dX1_leastFrom_43 : decode cX1_leastFrom 43 = .ok (.invokevirtual 71, 3) := by decide +kernel
theorem dX1_leastFrom_46 : decode cX1_leastFrom 46 = .ok (.iadd, 1) := by decide +kernel
theorem dX1_leastFrom_47 : decode cX1_leastFrom 47 = .ok (.ireturn, 1) := by decide +kernel
theorem dX1_leastFrom_48 : decode cX1_leastFrom 48 = .ok (.iload 4, 2) := by decide +kernel
theorem dX1_leastFrom_50 : decode cX1_leastFrom 50 = .ok (.aload_n 3, 1) := by decide +kernel
theorem dX1_leastFrom_51 : decode cX1_leastFrom 51 = .ok (.invokevirtual 47, 3) := by decide +kernel
theorem dX1_leastFrom_54 : decode cX1_leastFrom 54 = .ok (.if_icmp .lt 23, 3) := by decide +kernel
theorem dX1_leastFrom_57 : decode cX1_leastFrom 57 = .ok (.aload_n 1, 1) := by decide +kernel
theorem dX1_leastFrom_58 : decode cX1_leastFrom 58 = .ok (.iload_n 2, 1) := by decide +kernel
theorem dX1_leastFrom_59 : decode cX1_leastFrom 59 = .ok (.invokestatic 59, 3) := by decide +kernel
theorem dX1_leastFrom_62 : decode cX1_leastFrom 62 = .ok (.aload_n 0, 1) := by decide +kernel
theorem dX1_leastFrom_63 : decode cX1_leastFrom 63 = .ok (.aload_n 1, 1) := by decide +kernel
theorem dX1_leastFrom_64 : decode cX1_leastFrom 64 = .ok (.iload_n 2, 1) := by decide +kernel
theorem dX1_leastFrom_65 : decode cX1_leastFrom 65 = .ok (.iconst 1, 1) := by decide +kernel
theorem dX1_leastFrom_66 : decode cX1_leastFrom 66 = .ok (.iadd, 1) := by decide +kernel
theorem dX1_leastFrom_67 : decode cX1_leastFrom 67 = .ok (.aload_n 3, 1) := by decide +kernel
theorem dX1_leastFrom_68 : decode cX1_leastFrom 68 = .ok (.iload 4, 2) := by decide +kernel
theorem dX1_leastFrom_70 : decode cX1_leastFrom 70 = .ok (.iload 6, 2) := by decide +kernel
theorem dX1_leastFrom_72 : decode cX1_leastFrom 72 = .ok (.invokevirtual 71, 3) := by decide +kernel
theorem dX1_leastFrom_75 : decode cX1_leastFrom 75 = .ok (.iadd, 1) := by decide +kernel
theorem dX1_leastFrom_76 : decode cX1_leastFrom 76 = .ok (.ireturn, 1) := by decide +kernel
theorem dX1_leastFrom_77 : decode cX1_leastFrom 77 = .ok (.aload_n 3, 1) := by decide +kernel
theorem dX1_leastFrom_78 : decode cX1_leastFrom 78 = .ok (.iload 4, 2) := by decide +kernel
theorem dX1_leastFrom_80 : decode cX1_leastFrom 80 = .ok (.invokestatic 59, 3) := by decide +kernel
theorem dX1_leastFrom_83 : decode cX1_leastFrom 83 = .ok (.aload_n 0, 1) := by decide +kernel
theorem dX1_leastFrom_84 : decode cX1_leastFrom 84 = .ok (.aload_n 1, 1) := by decide +kernel
theorem dX1_leastFrom_85 : decode cX1_leastFrom 85 = .ok (.iload_n 2, 1) := by decide +kernel
theorem dX1_leastFrom_86 : decode cX1_leastFrom 86 = .ok (.aload_n 3, 1) := by decide +kernel
theorem dX1_leastFrom_87 : decode cX1_leastFrom 87 = .ok (.iload 4, 2) := by decide +kernel
theorem dX1_leastFrom_89 : decode cX1_leastFrom 89 = .ok (.iconst 1, 1) := by decide +kernel
theorem dX1_leastFrom_90 : decode cX1_leastFrom 90 = .ok (.iadd, 1) := by decide +kernel
theorem dX1_leastFrom_91 : decode cX1_leastFrom 91 = .ok (.iload 6, 2) := by decide +kernel
theorem dX1_leastFrom_93 : decode cX1_leastFrom 93 = .ok (.invokevirtual 71, 3) := by decide +kernel
theorem dX1_leastFrom_96 : decode cX1_leastFrom 96 = .ok (.iadd, 1) := by decide +kernel
theorem dX1_leastFrom_97 : decode cX1_leastFrom 97 = .ok (.aload_n 1, 1) := by decide +kernel
theorem dX1_leastFrom_98 : decode cX1_leastFrom 98 = .ok (.iload_n 2, 1) := by decide +kernel
theorem dX1_leastFrom_99 : decode cX1_leastFrom 99 = .ok (.invokestatic 59, 3) := by decide +kernel
theorem dX1_leastFrom_102 : decode cX1_leastFrom 102 = .ok (.aload_n 0, 1) := by decide +kernel
theorem dX1_leastFrom_103 : decode cX1_leastFrom 103 = .ok (.aload_n 1, 1) := by decide +kernel
theorem dX1_leastFrom_104 : decode cX1_leastFrom 104 = .ok (.iload_n 2, 1) := by decide +kernel
theorem dX1_leastFrom_105 : decode cX1_leastFrom 105 = .ok (.iconst 1, 1) := by decide +kernel
theorem dX1_leastFrom_106 : decode cX1_leastFrom 106 = .ok (.iadd, 1) := by decide +kernel
theorem dX1_leastFrom_107 : decode cX1_leastFrom 107 = .ok (.aload_n 3, 1) := by decide +kernel
theorem dX1_leastFrom_108 : decode cX1_leastFrom 108 = .ok (.iload 4, 2) := by decide +kernel
theorem dX1_leastFrom_110 : decode cX1_leastFrom 110 = .ok (.iload 6, 2) := by decide +kernel
theorem dX1_leastFrom_112 : decode cX1_leastFrom 112 = .ok (.invokevirtual 71, 3) := by decide +kernel
theorem dX1_leastFrom_115 : decode cX1_leastFrom 115 = .ok (.iadd, 1) := by decide +kernel
theorem dX1_leastFrom_116 : decode cX1_leastFrom 116 = .ok (.invokestatic 75, 3) := by decide +kernel
theorem dX1_leastFrom_119 : decode cX1_leastFrom 119 = .ok (.istore 7, 2) := by decide +kernel
theorem dX1_leastFrom_121 : decode cX1_leastFrom 121 = .ok (.iload 7, 2) := by decide +kernel
theorem dX1_leastFrom_123 : decode cX1_leastFrom 123 = .ok (.aload_n 0, 1) := by decide +kernel
theorem dX1_leastFrom_124 : decode cX1_leastFrom 124 = .ok (.aload_n 1, 1) := by decide +kernel
theorem dX1_leastFrom_125 : decode cX1_leastFrom 125 = .ok (.iload_n 2, 1) := by decide +kernel
theorem dX1_leastFrom_126 : decode cX1_leastFrom 126 = .ok (.aload_n 3, 1) := by decide +kernel
theorem dX1_leastFrom_127 : decode cX1_leastFrom 127 = .ok (.iload 4, 2) := by decide +kernel
theorem dX1_leastFrom_129 : decode cX1_leastFrom 129 = .ok (.iload 5, 2) := by decide +kernel
theorem dX1_leastFrom_131 : decode cX1_leastFrom 131 = .ok (.iload 6, 2) := by decide +kernel
theorem dX1_leastFrom_133 : decode cX1_leastFrom 133 = .ok (.invokevirtual 81, 3) := by decide +kernel
theorem dX1_leastFrom_136 : decode cX1_leastFrom 136 = .ok (.invokestatic 75, 3) := by decide +kernel
theorem dX1_leastFrom_139 : decode cX1_leastFrom 139 = .ok (.ireturn, 1) := by decide +kernel
theorem dX1_pairedFrom_0 : decode cX1_pairedFrom 0 = .ok (.aload_n 0, 1) := by decide +kernel
theorem dX1_pairedFrom_1 : decode cX1_pairedFrom 1 = .ok (.aload_n 1, 1) := by decide +kernel
theorem dX1_pairedFrom_2 : decode cX1_pairedFrom 2 = .ok (.iload_n 2, 1) := by decide +kernel
theorem dX1_pairedFrom_3 : decode cX1_pairedFrom 3 = .ok (.invokevirtual 55, 3) := by decide +kernel
theorem dX1_pairedFrom_6 : decode cX1_pairedFrom 6 = .ok (.aload_n 3, 1) := by decide +kernel
theorem dX1_pairedFrom_7 : decode cX1_pairedFrom 7 = .ok (.iload 4, 2) := by decide +kernel
theorem dX1_pairedFrom_9 : decode cX1_pairedFrom 9 = .ok (.invokevirtual 55, 3) := by decide +kernel
theorem dX1_pairedFrom_12 : decode cX1_pairedFrom 12 = .ok (.iload 5, 2) := by decide +kernel
theorem dX1_pairedFrom_14 : decode cX1_pairedFrom 14 = .ok (.iconst 1, 1) := by decide +kernel
theorem dX1_pairedFrom_15 : decode cX1_pairedFrom 15 = .ok (.iadd, 1) := by decide +kernel
theorem dX1_pairedFrom_16 : decode cX1_pairedFrom 16 = .ok (.aload_n 1, 1) := by decide +kernel
theorem dX1_pairedFrom_17 : decode cX1_pairedFrom 17 = .ok (.aload_n 3, 1) := by decide +kernel
theorem dX1_pairedFrom_18 : decode cX1_pairedFrom 18 = .ok (.iload 6, 2) := by decide +kernel
theorem dX1_pairedFrom_20 : decode cX1_pairedFrom 20 = .ok (.invokestatic 84, 3) := by decide +kernel
theorem dX1_pairedFrom_23 : decode cX1_pairedFrom 23 = .ok (.invokevirtual 24, 3) := by decide +kernel
theorem dX1_pairedFrom_26 : decode cX1_pairedFrom 26 = .ok (.aload_n 0, 1) := by decide +kernel
theorem dX1_pairedFrom_27 : decode cX1_pairedFrom 27 = .ok (.aload_n 1, 1) := by decide +kernel
theorem dX1_pairedFrom_28 : decode cX1_pairedFrom 28 = .ok (.iload_n 2, 1) := by decide +kernel
theorem dX1_pairedFrom_29 : decode cX1_pairedFrom 29 = .ok (.iconst 1, 1) := by decide +kernel
theorem dX1_pairedFrom_30 : decode cX1_pairedFrom 30 = .ok (.iadd, 1) := by decide +kernel
theorem dX1_pairedFrom_31 : decode cX1_pairedFrom 31 = .ok (.aload_n 3, 1) := by decide +kernel
theorem dX1_pairedFrom_32 : decode cX1_pairedFrom 32 = .ok (.iload 4, 2) := by decide +kernel
theorem dX1_pairedFrom_34 : decode cX1_pairedFrom 34 = .ok (.iconst 1, 1) := by decide +kernel
theorem dX1_pairedFrom_35 : decode cX1_pairedFrom 35 = .ok (.iadd, 1) := by decide +kernel
theorem dX1_pairedFrom_36 : decode cX1_pairedFrom 36 = .ok (.iload 6, 2) := by decide +kernel
theorem dX1_pairedFrom_38 : decode cX1_pairedFrom 38 = .ok (.invokevirtual 71, 3) := by decide +kernel
theorem dX1_pairedFrom_41 : decode cX1_pairedFrom 41 = .ok (.iadd, 1) := by decide +kernel
theorem dX1_pairedFrom_42 : decode cX1_pairedFrom 42 = .ok (.ireturn, 1) := by decide +kernel
theorem dX1_freeBehind_0 : decode cX1_freeBehind 0 = .ok (.iload_n 2, 1) := by decide +kernel
theorem dX1_freeBehind_1 : decode cX1_freeBehind 1 = .ok (.aload_n 0, 1) := by decide +kernel
theorem dX1_freeBehind_2 : decode cX1_freeBehind 2 = .ok (.invokevirtual 47, 3) := by decide +kernel
theorem dX1_freeBehind_5 : decode cX1_freeBehind 5 = .ok (.iconst 1, 1) := by decide +kernel
theorem dX1_freeBehind_6 : decode cX1_freeBehind 6 = .ok (.iadd, 1) := by decide +kernel
theorem dX1_freeBehind_7 : decode cX1_freeBehind 7 = .ok (.aload_n 1, 1) := by decide +kernel
theorem dX1_freeBehind_8 : decode cX1_freeBehind 8 = .ok (.invokevirtual 47, 3) := by decide +kernel
theorem dX1_freeBehind_11 : decode cX1_freeBehind 11 = .ok (.iconst 1, 1) := by decide +kernel
theorem dX1_freeBehind_12 : decode cX1_freeBehind 12 = .ok (.iadd, 1) := by decide +kernel
theorem dX1_freeBehind_13 : decode cX1_freeBehind 13 = .ok (.imul, 1) := by decide +kernel
theorem dX1_freeBehind_14 : decode cX1_freeBehind 14 = .ok (.iadd, 1) := by decide +kernel
theorem dX1_freeBehind_15 : decode cX1_freeBehind 15 = .ok (.ireturn, 1) := by decide +kernel
theorem dX1_cell_0 : decode cX1_cell 0 = .ok (.iload 5, 2) := by decide +kernel
theorem dX1_cell_2 : decode cX1_cell 2 = .ok (.iload_n 2, 1) := by decide +kernel
theorem dX1_cell_3 : decode cX1_cell 3 = .ok (.aload_n 3, 1) := by decide +kernel
theorem dX1_cell_4 : decode cX1_cell 4 = .ok (.invokevirtual 47, 3) := by decide +kernel
theorem dX1_cell_7 : decode cX1_cell 7 = .ok (.iconst 1, 1) := by decide +kernel
theorem dX1_cell_8 : decode cX1_cell 8 = .ok (.iadd, 1) := by decide +kernel
theorem dX1_cell_9 : decode cX1_cell 9 = .ok (.imul, 1) := by decide +kernel
theorem dX1_cell_10 : decode cX1_cell 10 = .ok (.iadd, 1) := by decide +kernel
theorem dX1_cell_11 : decode cX1_cell 11 = .ok (.iload 4, 2) := by decide +kernel
theorem dX1_cell_13 : decode cX1_cell 13 = .ok (.iadd, 1) := by decide +kernel
theorem dX1_cell_14 : decode cX1_cell 14 = .ok (.istore 6, 2) := by decide +kernel
theorem dX1_cell_16 : decode cX1_cell 16 = .ok (.iload_n 2, 1) := by decide +kernel
theorem dX1_cell_17 : decode cX1_cell 17 = .ok (.aload_n 1, 1) := by decide +kernel
theorem dX1_cell_18 : decode cX1_cell 18 = .ok (.invokevirtual 47, 3) := by decide +kernel
theorem dX1_cell_21 : decode cX1_cell 21 = .ok (.if_icmp .gt 27, 3) := by decide +kernel
theorem dX1_cell_24 : decode cX1_cell 24 = .ok (.iload 4, 2) := by decide +kernel
theorem dX1_cell_26 : decode cX1_cell 26 = .ok (.aload_n 3, 1) := by decide +kernel
theorem dX1_cell_27 : decode cX1_cell 27 = .ok (.invokevirtual 47, 3) := by decide +kernel
theorem dX1_cell_30 : decode cX1_cell 30 = .ok (.if_icmp .gt 18, 3) := by decide +kernel
theorem dX1_cell_33 : decode cX1_cell 33 = .ok (.iload 6, 2) := by decide +kernel
theorem dX1_cell_35 : decode cX1_cell 35 = .ok (.ifCond .lt 13, 3) := by decide +kernel
theorem dX1_cell_38 : decode cX1_cell 38 = .ok (.iload 6, 2) := by decide +kernel
theorem dX1_cell_40 : decode cX1_cell 40 = .ok (.aload_n 0, 1) := by decide +kernel
theorem dX1_cell_41 : decode cX1_cell 41 = .ok (.getfield 9, 3) := by decide +kernel
theorem dX1_cell_44 : decode cX1_cell 44 = .ok (.arraylength, 1) := by decide +kernel
theorem dX1_cell_45 : decode cX1_cell 45 = .ok (.if_icmp .lt 5, 3) := by decide +kernel
theorem dX1_cell_48 : decode cX1_cell 48 = .ok (.iconst 0, 1) := by decide +kernel
theorem dX1_cell_49 : decode cX1_cell 49 = .ok (.ireturn, 1) := by decide +kernel
theorem dX1_cell_50 : decode cX1_cell 50 = .ok (.aload_n 0, 1) := by decide +kernel
theorem dX1_cell_51 : decode cX1_cell 51 = .ok (.getfield 9, 3) := by decide +kernel
theorem dX1_cell_54 : decode cX1_cell 54 = .ok (.iload 6, 2) := by decide +kernel
theorem dX1_cell_56 : decode cX1_cell 56 = .ok (.iaload, 1) := by decide +kernel
theorem dX1_cell_57 : decode cX1_cell 57 = .ok (.ireturn, 1) := by decide +kernel
theorem dX1_write_0 : decode cX1_write 0 = .ok (.aload_n 0, 1) := by decide +kernel
theorem dX1_write_1 : decode cX1_write 1 = .ok (.iconst 0, 1) := by decide +kernel
theorem dX1_write_2 : decode cX1_write 2 = .ok (.putfield 88, 3) := by decide +kernel
theorem dX1_write_5 : decode cX1_write 5 = .ok (.aload_n 0, 1) := by decide +kernel
theorem dX1_write_6 : decode cX1_write 6 = .ok (.aload_n 1, 1) := by decide +kernel
theorem dX1_write_7 : decode cX1_write 7 = .ok (.aload_n 2, 1) := by decide +kernel
theorem dX1_write_8 : decode cX1_write 8 = .ok (.iconst 0, 1) := by decide +kernel
theorem dX1_write_9 : decode cX1_write 9 = .ok (.iconst 0, 1) := by decide +kernel
theorem dX1_write_10 : decode cX1_write 10 = .ok (.invokevirtual 91, 3) := by decide +kernel
theorem dX1_write_13 : decode cX1_write 13 = .ok (.aload_n 0, 1) := by decide +kernel
theorem dX1_write_14 : decode cX1_write 14 = .ok (.getfield 88, 3) := by decide +kernel
theorem dX1_write_17 : decode cX1_write 17 = .ok (.ireturn, 1) := by decide +kernel
theorem dX1_operationAt_0 : decode cX1_operationAt 0 = .ok (.iload_n 1, 1) := by decide +kernel
theorem dX1_operationAt_1 : decode cX1_operationAt 1 = .ok (.ifCond .lt 20, 3) := by decide +kernel
theorem dX1_operationAt_4 : decode cX1_operationAt 4 = .ok (.iload_n 1, 1) := by decide +kernel
theorem dX1_operationAt_5 : decode cX1_operationAt 5 = .ok (.aload_n 0, 1) := by decide +kernel
theorem dX1_operationAt_6 : decode cX1_operationAt 6 = .ok (.getfield 88, 3) := by decide +kernel
theorem dX1_operationAt_9 : decode cX1_operationAt 9 = .ok (.if_icmp .ge 12, 3) := by decide +kernel
theorem dX1_operationAt_12 : decode cX1_operationAt 12 = .ok (.iload_n 1, 1) := by decide +kernel
theorem dX1_operationAt_13 : decode cX1_operationAt 13 = .ok (.aload_n 0, 1) := by decide +kernel
theorem dX1_operationAt_14 : decode cX1_operationAt 14 = .ok (.getfield 20, 3) := by decide +kernel
theorem dX1_operationAt_17 : decode cX1_operationAt 17 = .ok (.arraylength, 1) := by decide +kernel
theorem dX1_operationAt_18 : decode cX1_operationAt 18 = .ok (.if_icmp .lt 5, 3) := by decide +kernel
theorem dX1_operationAt_21 : decode cX1_operationAt 21 = .ok (.aconst_null, 1) := by decide +kernel
theorem dX1_operationAt_22 : decode cX1_operationAt 22 = .ok (.areturn, 1) := by decide +kernel
theorem dX1_operationAt_23 : decode cX1_operationAt 23 = .ok (.aload_n 0, 1) := by decide +kernel
theorem dX1_operationAt_24 : decode cX1_operationAt 24 = .ok (.getfield 20, 3) := by decide +kernel
theorem dX1_operationAt_27 : decode cX1_operationAt 27 = .ok (.iload_n 1, 1) := by decide +kernel
theorem dX1_operationAt_28 : decode cX1_operationAt 28 = .ok (.aaload, 1) := by decide +kernel
theorem dX1_operationAt_29 : decode cX1_operationAt 29 = .ok (.areturn, 1) := by decide +kernel
theorem dX1_writeAt_0 : decode cX1_writeAt 0 = .ok (.aload_n 1, 1) := by decide +kernel
theorem dX1_writeAt_1 : decode cX1_writeAt 1 = .ok (.ifnull 15, 3) := by decide +kernel
theorem dX1_writeAt_4 : decode cX1_writeAt 4 = .ok (.aload_n 2, 1) := by decide +kernel
theorem dX1_writeAt_5 : decode cX1_writeAt 5 = .ok (.ifnull 11, 3) := by decide +kernel
theorem dX1_writeAt_8 : decode cX1_writeAt 8 = .ok (.aload_n 1, 1) := by decide +kernel
theorem dX1_writeAt_9 : decode cX1_writeAt 9 = .ok (.aload_n 2, 1) := by decide +kernel
theorem dX1_writeAt_10 : decode cX1_writeAt 10 = .ok (.invokevirtual 95, 3) := by decide +kernel
theorem dX1_writeAt_13 : decode cX1_writeAt 13 = .ok (.ifCond .eq 4, 3) := by decide +kernel
theorem dX1_writeAt_16 : decode cX1_writeAt 16 = .ok (.return_, 1) := by decide +kernel
theorem dX1_writeAt_17 : decode cX1_writeAt 17 = .ok (.iload_n 3, 1) := by decide +kernel
theorem dX1_writeAt_18 : decode cX1_writeAt 18 = .ok (.aload_n 0, 1) := by decide +kernel
theorem dX1_writeAt_19 : decode cX1_writeAt 19 = .ok (.getfield 15, 3) := by decide +kernel
theorem dX1_writeAt_22 : decode cX1_writeAt 22 = .ok (.arraylength, 1) := by decide +kernel
theorem dX1_writeAt_23 : decode cX1_writeAt 23 = .ok (.if_icmp .ge 7, 3) := by decide +kernel
theorem dX1_writeAt_26 : decode cX1_writeAt 26 = .ok (.iconst 1, 1) := by decide +kernel
theorem dX1_writeAt_27 : decode cX1_writeAt 27 = .ok (.goto 4, 3) := by decide +kernel
theorem dX1_writeAt_30 : decode cX1_writeAt 30 = .ok (.iconst 0, 1) := by decide +kernel
theorem dX1_writeAt_31 : decode cX1_writeAt 31 = .ok (.istore 5, 2) := by decide +kernel
theorem dX1_writeAt_33 : decode cX1_writeAt 33 = .ok (.iload 5, 2) := by decide +kernel
theorem dX1_writeAt_35 : decode cX1_writeAt 35 = .ok (.ifCond .eq 43, 3) := by decide +kernel
theorem dX1_writeAt_38 : decode cX1_writeAt 38 = .ok (.aload_n 1, 1) := by decide +kernel
theorem dX1_writeAt_39 : decode cX1_writeAt 39 = .ok (.getfield 28, 3) := by decide +kernel
theorem dX1_writeAt_42 : decode cX1_writeAt 42 = .ok (.iconst 3, 1) := by decide +kernel
theorem dX1_writeAt_43 : decode cX1_writeAt 43 = .ok (.if_icmp .ne 35, 3) := by decide +kernel
theorem dX1_writeAt_46 : decode cX1_writeAt 46 = .ok (.aload_n 2, 1) := by decide +kernel
theorem dX1_writeAt_47 : decode cX1_writeAt 47 = .ok (.getfield 28, 3) := by decide +kernel
theorem dX1_writeAt_50 : decode cX1_writeAt 50 = .ok (.iconst 3, 1) := by decide +kernel
theorem dX1_writeAt_51 : decode cX1_writeAt 51 = .ok (.if_icmp .ne 27, 3) := by decide +kernel
theorem dX1_writeAt_54 : decode cX1_writeAt 54 = .ok (.aload_n 0, 1) := by decide +kernel
theorem dX1_writeAt_55 : decode cX1_writeAt 55 = .ok (.aload_n 1, 1) := by decide +kernel
theorem dX1_writeAt_56 : decode cX1_writeAt 56 = .ok (.aload_n 2, 1) := by decide +kernel
theorem dX1_writeAt_57 : decode cX1_writeAt 57 = .ok (.iload_n 3, 1) := by decide +kernel
theorem dX1_writeAt_58 : decode cX1_writeAt 58 = .ok (.iload 4, 2) := by decide +kernel
theorem dX1_writeAt_60 : decode cX1_writeAt 60 = .ok (.invokevirtual 34, 3) := by decide +kernel
theorem dX1_writeAt_63 : decode cX1_writeAt 63 = .ok (.ifCond .eq 15, 3) := by decide +kernel
theorem dX1_writeAt_66 : decode cX1_writeAt 66 = .ok (.aload_n 0, 1) := by decide +kernel
theorem dX1_writeAt_67 : decode cX1_writeAt 67 = .ok (.aload_n 1, 1) := by decide +kernel
theorem dX1_writeAt_68 : decode cX1_writeAt 68 = .ok (.aload_n 2, 1) := by decide +kernel
theorem dX1_writeAt_69 : decode cX1_writeAt 69 = .ok (.iload_n 3, 1) := by decide +kernel
theorem dX1_writeAt_70 : decode cX1_writeAt 70 = .ok (.iload 4, 2) := by decide +kernel
theorem dX1_writeAt_72 : decode cX1_writeAt 72 = .ok (.invokevirtual 99, 3) := by decide +kernel
theorem dX1_writeAt_75 : decode cX1_writeAt 75 = .ok (.goto 44, 3) := by decide +kernel
theorem dX1_writeAt_78 : decode cX1_writeAt 78 = .ok (.iload 5, 2) := by decide +kernel
theorem dX1_writeAt_80 : decode cX1_writeAt 80 = .ok (.ifCond .eq 31, 3) := by decide +kernel
theorem dX1_writeAt_83 : decode cX1_writeAt 83 = .ok (.aload_n 1, 1) := by decide +kernel
theorem dX1_writeAt_84 : decode cX1_writeAt 84 = .ok (.getfield 28, 3) := by decide +kernel
theorem dX1_writeAt_87 : decode cX1_writeAt 87 = .ok (.iconst 4, 1) := by decide +kernel
theorem dX1_writeAt_88 : decode cX1_writeAt 88 = .ok (.if_icmp .ne 23, 3) := by decide +kernel
theorem dX1_writeAt_91 : decode cX1_writeAt 91 = .ok (.aload_n 2, 1) := by decide +kernel
theorem dX1_writeAt_92 : decode cX1_writeAt 92 = .ok (.getfield 28, 3) := by decide +kernel
theorem dX1_writeAt_95 : decode cX1_writeAt 95 = .ok (.iconst 4, 1) := by decide +kernel
theorem dX1_writeAt_96 : decode cX1_writeAt 96 = .ok (.if_icmp .ne 15, 3) := by decide +kernel
theorem dX1_writeAt_99 : decode cX1_writeAt 99 = .ok (.aload_n 0, 1) := by decide +kernel
theorem dX1_writeAt_100 : decode cX1_writeAt 100 = .ok (.aload_n 1, 1) := by decide +kernel
theorem dX1_writeAt_101 : decode cX1_writeAt 101 = .ok (.aload_n 2, 1) := by decide +kernel
theorem dX1_writeAt_102 : decode cX1_writeAt 102 = .ok (.iload_n 3, 1) := by decide +kernel
theorem dX1_writeAt_103 : decode cX1_writeAt 103 = .ok (.iload 4, 2) := by decide +kernel
theorem dX1_writeAt_105 : decode cX1_writeAt 105 = .ok (.invokevirtual 102, 3) := by decide +kernel
theorem dX1_writeAt_108 : decode cX1_writeAt 108 = .ok (.goto 11, 3) := by decide +kernel
theorem dX1_writeAt_111 : decode cX1_writeAt 111 = .ok (.aload_n 0, 1) := by decide +kernel
theorem dX1_writeAt_112 : decode cX1_writeAt 112 = .ok (.iconst 2, 1) := by decide +kernel
theorem dX1_writeAt_113 : decode cX1_writeAt 113 = .ok (.iload_n 3, 1) := by decide +kernel
theorem dX1_writeAt_114 : decode cX1_writeAt 114 = .ok (.iconst 0, 1) := by decide +kernel
theorem dX1_writeAt_115 : decode cX1_writeAt 115 = .ok (.aload_n 2, 1) := by decide +kernel
theorem dX1_writeAt_116 : decode cX1_writeAt 116 = .ok (.invokevirtual 105, 3) := by decide +kernel
theorem dX1_writeAt_119 : decode cX1_writeAt 119 = .ok (.return_, 1) := by decide +kernel
theorem dX1_writeObjects_0 : decode cX1_writeObjects 0 = .ok (.iconst 0, 1) := by decide +kernel
theorem dX1_writeObjects_1 : decode cX1_writeObjects 1 = .ok (.istore 5, 2) := by decide +kernel
theorem dX1_writeObjects_3 : decode cX1_writeObjects 3 = .ok (.iconst 0, 1) := by decide +kernel
theorem dX1_writeObjects_4 : decode cX1_writeObjects 4 = .ok (.istore 6, 2) := by decide +kernel
theorem dX1_writeObjects_6 : decode cX1_writeObjects 6 = .ok (.aload_n 1, 1) := by decide +kernel
theorem dX1_writeObjects_7 : decode cX1_writeObjects 7 = .ok (.invokevirtual 47, 3) := by decide +kernel
theorem dX1_writeObjects_10 : decode cX1_writeObjects 10 = .ok (.aload_n 2, 1) := by decide +kernel
theorem dX1_writeObjects_11 : decode cX1_writeObjects 11 = .ok (.invokevirtual 47, 3) := by decide +kernel
theorem dX1_writeObjects_14 : decode cX1_writeObjects 14 = .ok (.iadd, 1) := by decide +kernel
theorem dX1_writeObjects_15 : decode cX1_writeObjects 15 = .ok (.istore 7, 2) := by decide +kernel
theorem dX1_writeObjects_17 : decode cX1_writeObjects 17 = .ok (.iload 7, 2) := by decide +kernel
theorem dX1_writeObjects_19 : decode cX1_writeObjects 19 = .ok (.ifCond .le 125, 3) := by decide +kernel
theorem dX1_writeObjects_22 : decode cX1_writeObjects 22 = .ok (.aload_n 1, 1) := by decide +kernel
theorem dX1_writeObjects_23 : decode cX1_writeObjects 23 = .ok (.iload 5, 2) := by decide +kernel
theorem dX1_writeObjects_25 : decode cX1_writeObjects 25 = .ok (.aload_n 2, 1) := by decide +kernel
theorem dX1_writeObjects_26 : decode cX1_writeObjects 26 = .ok (.iload 6, 2) := by decide +kernel
theorem dX1_writeObjects_28 : decode cX1_writeObjects 28 = .ok (.invokestatic 51, 3) := by decide +kernel
theorem dX1_writeObjects_31 : decode cX1_writeObjects 31 = .ok (.istore 8, 2) := by decide +kernel
theorem dX1_writeObjects_33 : decode cX1_writeObjects 33 = .ok (.iload 8, 2) := by decide +kernel
theorem dX1_writeObjects_35 : decode cX1_writeObjects 35 = .ok (.ifCond .ne 34, 3) := by decide +kernel
theorem dX1_writeObjects_38 : decode cX1_writeObjects 38 = .ok (.aload_n 0, 1) := by decide +kernel
theorem dX1_writeObjects_39 : decode cX1_writeObjects 39 = .ok (.aload_n 1, 1) := by decide +kernel
theorem dX1_writeObjects_40 : decode cX1_writeObjects 40 = .ok (.iload 5, 2) := by decide +kernel
theorem dX1_writeObjects_42 : decode cX1_writeObjects 42 = .ok (.invokevirtual 55, 3) := by decide +kernel
theorem dX1_writeObjects_45 : decode cX1_writeObjects 45 = .ok (.aload_n 2, 1) := by decide +kernel
theorem dX1_writeObjects_46 : decode cX1_writeObjects 46 = .ok (.iload 6, 2) := by decide +kernel
theorem dX1_writeObjects_48 : decode cX1_writeObjects 48 = .ok (.invokevirtual 55, 3) := by decide +kernel
theorem dX1_writeObjects_51 : decode cX1_writeObjects 51 = .ok (.aload_n 1, 1) := by decide +kernel
theorem dX1_writeObjects_52 : decode cX1_writeObjects 52 = .ok (.iload 5, 2) := by decide +kernel
theorem dX1_writeObjects_54 : decode cX1_writeObjects 54 = .ok (.invokevirtual 63, 3) := by decide +kernel
theorem dX1_writeObjects_57 : decode cX1_writeObjects 57 = .ok (.iload_n 3, 1) := by decide +kernel
theorem dX1_writeObjects_58 : decode cX1_writeObjects 58 = .ok (.iload 4, 2) := by decide +kernel
theorem dX1_writeObjects_60 : decode cX1_writeObjects 60 = .ok (.invokevirtual 109, 3) := by decide +kernel
theorem dX1_writeObjects_63 : decode cX1_writeObjects 63 = .ok (.iinc 7 (-1), 3) := by decide +kernel
theorem dX1_writeObjects_66 : decode cX1_writeObjects 66 = .ok (.goto 42, 3) := by decide +kernel
theorem dX1_writeObjects_69 : decode cX1_writeObjects 69 = .ok (.iload 8, 2) := by decide +kernel
theorem dX1_writeObjects_71 : decode cX1_writeObjects 71 = .ok (.ifCond .ge 19, 3) := by decide +kernel
theorem dX1_writeObjects_74 : decode cX1_writeObjects 74 = .ok (.aload_n 0, 1) := by decide +kernel
theorem dX1_writeObjects_75 : decode cX1_writeObjects 75 = .ok (.iconst 1, 1) := by decide +kernel
theorem dX1_writeObjects_76 : decode cX1_writeObjects 76 = .ok (.iload_n 3, 1) := by decide +kernel
theorem dX1_writeObjects_77 : decode cX1_writeObjects 77 = .ok (.aload_n 1, 1) := by decide +kernel
theorem dX1_writeObjects_78 : decode cX1_writeObjects 78 = .ok (.iload 5, 2) := by decide +kernel
theorem dX1_writeObjects_80 : decode cX1_writeObjects 80 = .ok (.invokevirtual 63, 3) := by decide +kernel
theorem dX1_writeObjects_83 : decode cX1_writeObjects 83 = .ok (.aconst_null, 1) := by decide +kernel
theorem dX1_writeObjects_84 : decode cX1_writeObjects 84 = .ok (.invokevirtual 105, 3) := by decide +kernel
theorem dX1_writeObjects_87 : decode cX1_writeObjects 87 = .ok (.goto 21, 3) := by decide +kernel
theorem dX1_writeObjects_90 : decode cX1_writeObjects 90 = .ok (.aload_n 0, 1) := by decide +kernel
theorem dX1_writeObjects_91 : decode cX1_writeObjects 91 = .ok (.iconst 0, 1) := by decide +kernel
theorem dX1_writeObjects_92 : decode cX1_writeObjects 92 = .ok (.iload_n 3, 1) := by decide +kernel
theorem dX1_writeObjects_93 : decode cX1_writeObjects 93 = .ok (.aload_n 2, 1) := by decide +kernel
theorem dX1_writeObjects_94 : decode cX1_writeObjects 94 = .ok (.iload 6, 2) := by decide +kernel
theorem dX1_writeObjects_96 : decode cX1_writeObjects 96 = .ok (.invokevirtual 63, 3) := by decide +kernel
theorem dX1_writeObjects_99 : decode cX1_writeObjects 99 = .ok (.aload_n 2, 1) := by decide +kernel
theorem dX1_writeObjects_100 : decode cX1_writeObjects 100 = .ok (.iload 6, 2) := by decide +kernel
theorem dX1_writeObjects_102 : decode cX1_writeObjects 102 = .ok (.invokevirtual 55, 3) := by decide +kernel
theorem dX1_writeObjects_105 : decode cX1_writeObjects 105 = .ok (.invokevirtual 105, 3) := by decide +kernel
theorem dX1_writeObjects_108 : decode cX1_writeObjects 108 = .ok (.iload 5, 2) := by decide +kernel
theorem dX1_writeObjects_110 : decode cX1_writeObjects 110 = .ok (.iload 8, 2) := by decide +kernel
theorem dX1_writeObjects_112 : decode cX1_writeObjects 112 = .ok (.ifCond .gt 7, 3) := by decide +kernel
theorem dX1_writeObjects_115 : decode cX1_writeObjects 115 = .ok (.iconst 1, 1) := by decide +kernel
theorem dX1_writeObjects_116 : decode cX1_writeObjects 116 = .ok (.goto 4, 3) := by decide +kernel
theorem dX1_writeObjects_119 : decode cX1_writeObjects 119 = .ok (.iconst 0, 1) := by decide +kernel
theorem dX1_writeObjects_120 : decode cX1_writeObjects 120 = .ok (.iadd, 1) := by decide +kernel
theorem dX1_writeObjects_121 : decode cX1_writeObjects 121 = .ok (.istore 5, 2) := by decide +kernel
theorem dX1_writeObjects_123 : decode cX1_writeObjects 123 = .ok (.iload 6, 2) := by decide +kernel
theorem dX1_writeObjects_125 : decode cX1_writeObjects 125 = .ok (.iload 8, 2) := by decide +kernel
theorem dX1_writeObjects_127 : decode cX1_writeObjects 127 = .ok (.ifCond .lt 7, 3) := by decide +kernel
theorem dX1_writeObjects_130 : decode cX1_writeObjects 130 = .ok (.iconst 1, 1) := by decide +kernel
theorem dX1_writeObjects_131 : decode cX1_writeObjects 131 = .ok (.goto 4, 3) := by decide +kernel
theorem dX1_writeObjects_134 : decode cX1_writeObjects 134 = .ok (.iconst 0, 1) := by decide +kernel
theorem dX1_writeObjects_135 : decode cX1_writeObjects 135 = .ok (.iadd, 1) := by decide +kernel
theorem dX1_writeObjects_136 : decode cX1_writeObjects 136 = .ok (.istore 6, 2) := by decide +kernel
theorem dX1_writeObjects_138 : decode cX1_writeObjects 138 = .ok (.iinc 7 (-1), 3) := by decide +kernel
theorem dX1_writeObjects_141 : decode cX1_writeObjects 141 = .ok (.goto (-124), 3) := by decide +kernel
theorem dX1_writeObjects_144 : decode cX1_writeObjects 144 = .ok (.return_, 1) := by decide +kernel
theorem dX1_writeBelow_0 : decode cX1_writeBelow 0 = .ok (.iload 4, 2) := by decide +kernel
theorem dX1_writeBelow_2 : decode cX1_writeBelow 2 = .ok (.ifCond .lt 33, 3) := by decide +kernel
theorem dX1_writeBelow_5 : decode cX1_writeBelow 5 = .ok (.iload 4, 2) := by decide +kernel
theorem dX1_writeBelow_7 : decode cX1_writeBelow 7 = .ok (.aload_n 0, 1) := by decide +kernel
theorem dX1_writeBelow_8 : decode cX1_writeBelow 8 = .ok (.getfield 15, 3) := by decide +kernel
theorem dX1_writeBelow_11 : decode cX1_writeBelow 11 = .ok (.arraylength, 1) := by decide +kernel
theorem dX1_writeBelow_12 : decode cX1_writeBelow 12 = .ok (.if_icmp .ge 23, 3) := by decide +kernel
theorem dX1_writeBelow_15 : decode cX1_writeBelow 15 = .ok (.aload_n 0, 1) := by decide +kernel
theorem dX1_writeBelow_16 : decode cX1_writeBelow 16 = .ok (.getfield 15, 3) := by decide +kernel
theorem dX1_writeBelow_19 : decode cX1_writeBelow 19 = .ok (.iload 4, 2) := by decide +kernel
theorem dX1_writeBelow_21 : decode cX1_writeBelow 21 = .ok (.iload_n 3, 1) := by decide +kernel
theorem dX1_writeBelow_22 : decode cX1_writeBelow 22 = .ok (.iastore, 1) := by decide +kernel
theorem dX1_writeBelow_23 : decode cX1_writeBelow 23 = .ok (.aload_n 0, 1) := by decide +kernel
theorem dX1_writeBelow_24 : decode cX1_writeBelow 24 = .ok (.aload_n 1, 1) := by decide +kernel
theorem dX1_writeBelow_25 : decode cX1_writeBelow 25 = .ok (.aload_n 2, 1) := by decide +kernel
theorem dX1_writeBelow_26 : decode cX1_writeBelow 26 = .ok (.iload 4, 2) := by decide +kernel
theorem dX1_writeBelow_28 : decode cX1_writeBelow 28 = .ok (.iconst 1, 1) := by decide +kernel
theorem dX1_writeBelow_29 : decode cX1_writeBelow 29 = .ok (.iadd, 1) := by decide +kernel
theorem dX1_writeBelow_30 : decode cX1_writeBelow 30 = .ok (.iload 5, 2) := by decide +kernel
theorem dX1_writeBelow_32 : decode cX1_writeBelow 32 = .ok (.invokevirtual 91, 3) := by decide +kernel
theorem dX1_writeBelow_35 : decode cX1_writeBelow 35 = .ok (.return_, 1) := by decide +kernel
theorem dX1_writeLists_0 : decode cX1_writeLists 0 = .ok (.iconst 0, 1) := by decide +kernel
theorem dX1_writeLists_1 : decode cX1_writeLists 1 = .ok (.istore 5, 2) := by decide +kernel
theorem dX1_writeLists_3 : decode cX1_writeLists 3 = .ok (.iconst 0, 1) := by decide +kernel
theorem dX1_writeLists_4 : decode cX1_writeLists 4 = .ok (.istore 6, 2) := by decide +kernel
theorem dX1_writeLists_6 : decode cX1_writeLists 6 = .ok (.aload_n 1, 1) := by decide +kernel
theorem dX1_writeLists_7 : decode cX1_writeLists 7 = .ok (.invokevirtual 47, 3) := by decide +kernel
theorem dX1_writeLists_10 : decode cX1_writeLists 10 = .ok (.aload_n 2, 1) := by decide +kernel
theorem dX1_writeLists_11 : decode cX1_writeLists 11 = .ok (.invokevirtual 47, 3) := by decide +kernel
theorem dX1_writeLists_14 : decode cX1_writeLists 14 = .ok (.iadd, 1) := by decide +kernel
theorem dX1_writeLists_15 : decode cX1_writeLists 15 = .ok (.istore 7, 2) := by decide +kernel
theorem dX1_writeLists_17 : decode cX1_writeLists 17 = .ok (.iload 7, 2) := by decide +kernel
theorem dX1_writeLists_19 : decode cX1_writeLists 19 = .ok (.ifCond .le 184, 3) := by decide +kernel
theorem dX1_writeLists_22 : decode cX1_writeLists 22 = .ok (.aload_n 0, 1) := by decide +kernel
theorem dX1_writeLists_23 : decode cX1_writeLists 23 = .ok (.aload_n 1, 1) := by decide +kernel
theorem dX1_writeLists_24 : decode cX1_writeLists 24 = .ok (.iload 5, 2) := by decide +kernel
theorem dX1_writeLists_26 : decode cX1_writeLists 26 = .ok (.aload_n 2, 1) := by decide +kernel
theorem dX1_writeLists_27 : decode cX1_writeLists 27 = .ok (.iload 6, 2) := by decide +kernel
theorem dX1_writeLists_29 : decode cX1_writeLists 29 = .ok (.iload 4, 2) := by decide +kernel
theorem dX1_writeLists_31 : decode cX1_writeLists 31 = .ok (.invokevirtual 71, 3) := by decide +kernel
theorem dX1_writeLists_34 : decode cX1_writeLists 34 = .ok (.istore 8, 2) := by decide +kernel
theorem dX1_writeLists_36 : decode cX1_writeLists 36 = .ok (.iload 5, 2) := by decide +kernel
theorem dX1_writeLists_38 : decode cX1_writeLists 38 = .ok (.aload_n 1, 1) := by decide +kernel
theorem dX1_writeLists_39 : decode cX1_writeLists 39 = .ok (.invokevirtual 47, 3) := by decide +kernel
theorem dX1_writeLists_42 : decode cX1_writeLists 42 = .ok (.if_icmp .ge 7, 3) := by decide +kernel
theorem dX1_writeLists_45 : decode cX1_writeLists 45 = .ok (.iconst 1, 1) := by decide +kernel
theorem dX1_writeLists_46 : decode cX1_writeLists 46 = .ok (.goto 4, 3) := by decide +kernel
theorem dX1_writeLists_49 : decode cX1_writeLists 49 = .ok (.iconst 0, 1) := by decide +kernel
theorem dX1_writeLists_50 : decode cX1_writeLists 50 = .ok (.istore 9, 2) := by decide +kernel
theorem dX1_writeLists_52 : decode cX1_writeLists 52 = .ok (.iload 6, 2) := by decide +kernel
theorem dX1_writeLists_54 : decode cX1_writeLists 54 = .ok (.aload_n 2, 1) := by decide +kernel
theorem dX1_writeLists_55 : decode cX1_writeLists 55 = .ok (.invokevirtual 47, 3) := by decide +kernel
theorem dX1_writeLists_58 : decode cX1_writeLists 58 = .ok (.if_icmp .ge 7, 3) := by decide +kernel
theorem dX1_writeLists_61 : decode cX1_writeLists 61 = .ok (.iconst 1, 1) := by decide +kernel
theorem dX1_writeLists_62 : decode cX1_writeLists 62 = .ok (.goto 4, 3) := by decide +kernel
theorem dX1_writeLists_65 : decode cX1_writeLists 65 = .ok (.iconst 0, 1) := by decide +kernel
theorem dX1_writeLists_66 : decode cX1_writeLists 66 = .ok (.istore 10, 2) := by decide +kernel
theorem dX1_writeLists_68 : decode cX1_writeLists 68 = .ok (.iload 9, 2) := by decide +kernel
theorem dX1_writeLists_70 : decode cX1_writeLists 70 = .ok (.ifCond .eq 64, 3) := by decide +kernel
theorem dX1_writeLists_73 : decode cX1_writeLists 73 = .ok (.iload 10, 2) := by decide +kernel
theorem dX1_writeLists_75 : decode cX1_writeLists 75 = .ok (.ifCond .eq 59, 3) := by decide +kernel
theorem dX1_writeLists_78 : decode cX1_writeLists 78 = .ok (.iload 8, 2) := by decide +kernel
theorem dX1_writeLists_80 : decode cX1_writeLists 80 = .ok (.aload_n 0, 1) := by decide +kernel
theorem dX1_writeLists_81 : decode cX1_writeLists 81 = .ok (.aload_n 1, 1) := by decide +kernel
theorem dX1_writeLists_82 : decode cX1_writeLists 82 = .ok (.iload 5, 2) := by decide +kernel
theorem dX1_writeLists_84 : decode cX1_writeLists 84 = .ok (.aload_n 2, 1) := by decide +kernel
theorem dX1_writeLists_85 : decode cX1_writeLists 85 = .ok (.iload 6, 2) := by decide +kernel
theorem dX1_writeLists_87 : decode cX1_writeLists 87 = .ok (.iload_n 3, 1) := by decide +kernel
theorem dX1_writeLists_88 : decode cX1_writeLists 88 = .ok (.iload 4, 2) := by decide +kernel
theorem dX1_writeLists_90 : decode cX1_writeLists 90 = .ok (.invokevirtual 81, 3) := by decide +kernel
theorem dX1_writeLists_93 : decode cX1_writeLists 93 = .ok (.if_icmp .ne 41, 3) := by decide +kernel
theorem dX1_writeLists_96 : decode cX1_writeLists 96 = .ok (.aload_n 0, 1) := by decide +kernel
theorem dX1_writeLists_97 : decode cX1_writeLists 97 = .ok (.aload_n 1, 1) := by decide +kernel
theorem dX1_writeLists_98 : decode cX1_writeLists 98 = .ok (.iload 5, 2) := by decide +kernel
theorem dX1_writeLists_100 : decode cX1_writeLists 100 = .ok (.invokevirtual 55, 3) := by decide +kernel
theorem dX1_writeLists_103 : decode cX1_writeLists 103 = .ok (.aload_n 2, 1) := by decide +kernel
theorem dX1_writeLists_104 : decode cX1_writeLists 104 = .ok (.iload 6, 2) := by decide +kernel
theorem dX1_writeLists_106 : decode cX1_writeLists 106 = .ok (.invokevirtual 55, 3) := by decide +kernel
theorem dX1_writeLists_109 : decode cX1_writeLists 109 = .ok (.iload 6, 2) := by decide +kernel
theorem dX1_writeLists_111 : decode cX1_writeLists 111 = .ok (.iload_n 3, 1) := by decide +kernel
theorem dX1_writeLists_112 : decode cX1_writeLists 112 = .ok (.aload_n 1, 1) := by decide +kernel
theorem dX1_writeLists_113 : decode cX1_writeLists 113 = .ok (.aload_n 2, 1) := by decide +kernel
theorem dX1_writeLists_114 : decode cX1_writeLists 114 = .ok (.iload 4, 2) := by decide +kernel
theorem dX1_writeLists_116 : decode cX1_writeLists 116 = .ok (.invokestatic 84, 3) := by decide +kernel
theorem dX1_writeLists_119 : decode cX1_writeLists 119 = .ok (.invokevirtual 109, 3) := by decide +kernel
theorem dX1_writeLists_122 : decode cX1_writeLists 122 = .ok (.iinc 5 1, 3) := by decide +kernel
theorem dX1_writeLists_125 : decode cX1_writeLists 125 = .ok (.iinc 6 1, 3) := by decide +kernel
theorem dX1_writeLists_128 : decode cX1_writeLists 128 = .ok (.iinc 7 (-1), 3) := by decide +kernel
theorem dX1_writeLists_131 : decode cX1_writeLists 131 = .ok (.goto 66, 3) := by decide +kernel
theorem dX1_writeLists_134 : decode cX1_writeLists 134 = .ok (.iload 9, 2) := by decide +kernel
theorem dX1_writeLists_136 : decode cX1_writeLists 136 = .ok (.ifCond .eq 44, 3) := by decide +kernel
theorem dX1_writeLists_139 : decode cX1_writeLists 139 = .ok (.iload 8, 2) := by decide +kernel
theorem dX1_writeLists_141 : decode cX1_writeLists 141 = .ok (.aload_n 1, 1) := by decide +kernel
theorem dX1_writeLists_142 : decode cX1_writeLists 142 = .ok (.iload 5, 2) := by decide +kernel
theorem dX1_writeLists_144 : decode cX1_writeLists 144 = .ok (.invokestatic 59, 3) := by decide +kernel
theorem dX1_writeLists_147 : decode cX1_writeLists 147 = .ok (.aload_n 0, 1) := by decide +kernel
theorem dX1_writeLists_148 : decode cX1_writeLists 148 = .ok (.aload_n 1, 1) := by decide +kernel
theorem dX1_writeLists_149 : decode cX1_writeLists 149 = .ok (.iload 5, 2) := by decide +kernel
theorem dX1_writeLists_151 : decode cX1_writeLists 151 = .ok (.iconst 1, 1) := by decide +kernel
theorem dX1_writeLists_152 : decode cX1_writeLists 152 = .ok (.iadd, 1) := by decide +kernel
theorem dX1_writeLists_153 : decode cX1_writeLists 153 = .ok (.aload_n 2, 1) := by decide +kernel
theorem dX1_writeLists_154 : decode cX1_writeLists 154 = .ok (.iload 6, 2) := by decide +kernel
theorem dX1_writeLists_156 : decode cX1_writeLists 156 = .ok (.iload 4, 2) := by decide +kernel
theorem dX1_writeLists_158 : decode cX1_writeLists 158 = .ok (.invokevirtual 71, 3) := by decide +kernel
theorem dX1_writeLists_161 : decode cX1_writeLists 161 = .ok (.iadd, 1) := by decide +kernel
theorem dX1_writeLists_162 : decode cX1_writeLists 162 = .ok (.if_icmp .ne 18, 3) := by decide +kernel
theorem dX1_writeLists_165 : decode cX1_writeLists 165 = .ok (.aload_n 0, 1) := by decide +kernel
theorem dX1_writeLists_166 : decode cX1_writeLists 166 = .ok (.iconst 1, 1) := by decide +kernel
theorem dX1_writeLists_167 : decode cX1_writeLists 167 = .ok (.iload_n 3, 1) := by decide +kernel
theorem dX1_writeLists_168 : decode cX1_writeLists 168 = .ok (.iload 6, 2) := by decide +kernel
theorem dX1_writeLists_170 : decode cX1_writeLists 170 = .ok (.aconst_null, 1) := by decide +kernel
theorem dX1_writeLists_171 : decode cX1_writeLists 171 = .ok (.invokevirtual 105, 3) := by decide +kernel
theorem dX1_writeLists_174 : decode cX1_writeLists 174 = .ok (.iinc 5 1, 3) := by decide +kernel
theorem dX1_writeLists_177 : decode cX1_writeLists 177 = .ok (.goto 20, 3) := by decide +kernel
theorem dX1_writeLists_180 : decode cX1_writeLists 180 = .ok (.aload_n 0, 1) := by decide +kernel
theorem dX1_writeLists_181 : decode cX1_writeLists 181 = .ok (.iconst 0, 1) := by decide +kernel
theorem dX1_writeLists_182 : decode cX1_writeLists 182 = .ok (.iload_n 3, 1) := by decide +kernel
theorem dX1_writeLists_183 : decode cX1_writeLists 183 = .ok (.iload 6, 2) := by decide +kernel
theorem dX1_writeLists_185 : decode cX1_writeLists 185 = .ok (.aload_n 2, 1) := by decide +kernel
theorem dX1_writeLists_186 : decode cX1_writeLists 186 = .ok (.iload 6, 2) := by decide +kernel
theorem dX1_writeLists_188 : decode cX1_writeLists 188 = .ok (.invokevirtual 55, 3) := by decide +kernel
theorem dX1_writeLists_191 : decode cX1_writeLists 191 = .ok (.invokevirtual 105, 3) := by decide +kernel
theorem dX1_writeLists_194 : decode cX1_writeLists 194 = .ok (.iinc 6 1, 3) := by decide +kernel
theorem dX1_writeLists_197 : decode cX1_writeLists 197 = .ok (.iinc 7 (-1), 3) := by decide +kernel
theorem dX1_writeLists_200 : decode cX1_writeLists 200 = .ok (.goto (-183), 3) := by decide +kernel
theorem dX1_writeLists_203 : decode cX1_writeLists 203 = .ok (.return_, 1) := by decide +kernel
theorem dX1_note_0 : decode cX1_note 0 = .ok (.aload_n 0, 1) := by decide +kernel
theorem dX1_note_1 : decode cX1_note 1 = .ok (.getfield 88, 3) := by decide +kernel
theorem dX1_note_4 : decode cX1_note 4 = .ok (.ifCond .lt 56, 3) := by decide +kernel
theorem dX1_note_7 : decode cX1_note 7 = .ok (.aload_n 0, 1) := by decide +kernel
theorem dX1_note_8 : decode cX1_note 8 = .ok (.getfield 88, 3) := by decide +kernel
theorem dX1_note_11 : decode cX1_note 11 = .ok (.aload_n 0, 1) := by decide +kernel
theorem dX1_note_12 : decode cX1_note 12 = .ok (.getfield 20, 3) := by decide +kernel
theorem dX1_note_15 : decode cX1_note 15 = .ok (.arraylength, 1) := by decide +kernel
theorem dX1_note_16 : decode cX1_note 16 = .ok (.if_icmp .ge 44, 3) := by decide +kernel
theorem dX1_note_19 : decode cX1_note 19 = .ok (.iload_n 2, 1) := by decide +kernel
theorem dX1_note_20 : decode cX1_note 20 = .ok (.ifCond .lt 40, 3) := by decide +kernel
theorem dX1_note_23 : decode cX1_note 23 = .ok (.iload_n 2, 1) := by decide +kernel
theorem dX1_note_24 : decode cX1_note 24 = .ok (.aload_n 0, 1) := by decide +kernel
theorem dX1_note_25 : decode cX1_note 25 = .ok (.getfield 15, 3) := by decide +kernel
theorem dX1_note_28 : decode cX1_note 28 = .ok (.arraylength, 1) := by decide +kernel
theorem dX1_note_29 : decode cX1_note 29 = .ok (.if_icmp .gt 31, 3) := by decide +kernel
theorem dX1_note_32 : decode cX1_note 32 = .ok (.aload_n 0, 1) := by decide +kernel
theorem dX1_note_33 : decode cX1_note 33 = .ok (.getfield 20, 3) := by decide +kernel
theorem dX1_note_36 : decode cX1_note 36 = .ok (.aload_n 0, 1) := by decide +kernel
theorem dX1_note_37 : decode cX1_note 37 = .ok (.getfield 88, 3) := by decide +kernel
theorem dX1_note_40 : decode cX1_note 40 = .ok (.new 18, 3) := by decide +kernel
theorem dX1_note_43 : decode cX1_note 43 = .ok (.dup, 1) := by decide +kernel
theorem dX1_note_44 : decode cX1_note 44 = .ok (.iload_n 1, 1) := by decide +kernel
theorem dX1_note_45 : decode cX1_note 45 = .ok (.aload_n 0, 1) := by decide +kernel
theorem dX1_note_46 : decode cX1_note 46 = .ok (.getfield 15, 3) := by decide +kernel
theorem dX1_note_49 : decode cX1_note 49 = .ok (.iload_n 2, 1) := by decide +kernel
theorem dX1_note_50 : decode cX1_note 50 = .ok (.invokestatic 113, 3) := by decide +kernel
theorem dX1_note_53 : decode cX1_note 53 = .ok (.iload_n 3, 1) := by decide +kernel
theorem dX1_note_54 : decode cX1_note 54 = .ok (.aload 4, 2) := by decide +kernel
theorem dX1_note_56 : decode cX1_note 56 = .ok (.invokespecial 119, 3) := by decide +kernel
theorem dX1_note_59 : decode cX1_note 59 = .ok (.aastore, 1) := by decide +kernel
theorem dX1_note_60 : decode cX1_note 60 = .ok (.aload_n 0, 1) := by decide +kernel
theorem dX1_note_61 : decode cX1_note 61 = .ok (.dup, 1) := by decide +kernel
theorem dX1_note_62 : decode cX1_note 62 = .ok (.getfield 88, 3) := by decide +kernel
theorem dX1_note_65 : decode cX1_note 65 = .ok (.iconst 1, 1) := by decide +kernel
theorem dX1_note_66 : decode cX1_note 66 = .ok (.iadd, 1) := by decide +kernel
theorem dX1_note_67 : decode cX1_note 67 = .ok (.putfield 88, 3) := by decide +kernel
theorem dX1_note_70 : decode cX1_note 70 = .ok (.return_, 1) := by decide +kernel
theorem dX2_init_0 : decode cX2_init 0 = .ok (.aload_n 0, 1) := by decide +kernel
theorem dX2_init_1 : decode cX2_init 1 = .ok (.invokespecial 3, 3) := by decide +kernel
theorem dX2_init_4 : decode cX2_init 4 = .ok (.aload_n 0, 1) := by decide +kernel
theorem dX2_init_5 : decode cX2_init 5 = .ok (.bipush 6, 2) := by decide +kernel
theorem dX2_init_7 : decode cX2_init 7 = .ok (.anewarray 9, 3) := by decide +kernel
theorem dX2_init_10 : decode cX2_init 10 = .ok (.putfield 11, 3) := by decide +kernel
theorem dX2_init_13 : decode cX2_init 13 = .ok (.aload_n 0, 1) := by decide +kernel
theorem dX2_init_14 : decode cX2_init 14 = .ok (.bipush 6, 2) := by decide +kernel
theorem dX2_init_16 : decode cX2_init 16 = .ok (.newarray .int, 2) := by decide +kernel
theorem dX2_init_18 : decode cX2_init 18 = .ok (.putfield 17, 3) := by decide +kernel
theorem dX2_init_21 : decode cX2_init 21 = .ok (.aload_n 0, 1) := by decide +kernel
theorem dX2_init_22 : decode cX2_init 22 = .ok (.aload_n 1, 1) := by decide +kernel
theorem dX2_init_23 : decode cX2_init 23 = .ok (.putfield 21, 3) := by decide +kernel
theorem dX2_init_26 : decode cX2_init 26 = .ok (.return_, 1) := by decide +kernel
theorem dX2_begin_0 : decode cX2_begin 0 = .ok (.aload_n 0, 1) := by decide +kernel
theorem dX2_begin_1 : decode cX2_begin 1 = .ok (.aload_n 1, 1) := by decide +kernel
theorem dX2_begin_2 : decode cX2_begin 2 = .ok (.putfield 21, 3) := by decide +kernel
theorem dX2_begin_5 : decode cX2_begin 5 = .ok (.aload_n 0, 1) := by decide +kernel
theorem dX2_begin_6 : decode cX2_begin 6 = .ok (.aconst_null, 1) := by decide +kernel
theorem dX2_begin_7 : decode cX2_begin 7 = .ok (.putfield 25, 3) := by decide +kernel
theorem dX2_begin_10 : decode cX2_begin 10 = .ok (.return_, 1) := by decide +kernel
theorem dX2_isAllowed_0 : decode cX2_isAllowed 0 = .ok (.aload_n 0, 1) := by decide +kernel
theorem dX2_isAllowed_1 : decode cX2_isAllowed 1 = .ok (.getfield 21, 3) := by decide +kernel
theorem dX2_isAllowed_4 : decode cX2_isAllowed 4 = .ok (.getfield 28, 3) := by decide +kernel
theorem dX2_isAllowed_7 : decode cX2_isAllowed 7 = .ok (.bipush 50, 2) := by decide +kernel
theorem dX2_isAllowed_9 : decode cX2_isAllowed 9 = .ok (.if_icmp .gt 19, 3) := by decide +kernel
theorem dX2_isAllowed_12 : decode cX2_isAllowed 12 = .ok (.aload_n 0, 1) := by decide +kernel
theorem dX2_isAllowed_13 : decode cX2_isAllowed 13 = .ok (.getfield 21, 3) := by decide +kernel
theorem dX2_isAllowed_16 : decode cX2_isAllowed 16 = .ok (.getfield 32, 3) := by decide +kernel
theorem dX2_isAllowed_19 : decode cX2_isAllowed 19 = .ok (.bipush 7, 2) := by decide +kernel
theorem dX2_isAllowed_21 : decode cX2_isAllowed 21 = .ok (.if_icmp .gt 7, 3) := by decide +kernel
theorem dX2_isAllowed_24 : decode cX2_isAllowed 24 = .ok (.iconst 1, 1) := by decide +kernel
theorem dX2_isAllowed_25 : decode cX2_isAllowed 25 = .ok (.goto 4, 3) := by decide +kernel
theorem dX2_isAllowed_28 : decode cX2_isAllowed 28 = .ok (.iconst 0, 1) := by decide +kernel
theorem dX2_isAllowed_29 : decode cX2_isAllowed 29 = .ok (.ireturn, 1) := by decide +kernel
theorem dX2_perform_0 : decode cX2_perform 0 = .ok (.aload_n 1, 1) := by decide +kernel
theorem dX2_perform_1 : decode cX2_perform 1 = .ok (.getfield 35, 3) := by decide +kernel
theorem dX2_perform_4 : decode cX2_perform 4 = .ok (.astore_n 2, 1) := by decide +kernel
theorem dX2_perform_5 : decode cX2_perform 5 = .ok (.aload_n 1, 1) := by decide +kernel
theorem dX2_perform_6 : decode cX2_perform 6 = .ok (.getfield 40, 3) := by decide +kernel
theorem dX2_perform_9 : decode cX2_perform 9 = .ok (.tableswitch 67 0 2 #[27, 43, 55], 27) := by decide +kernel
theorem dX2_perform_36 : decode cX2_perform 36 = .ok (.aload_n 0, 1) := by decide +kernel
theorem dX2_perform_37 : decode cX2_perform 37 = .ok (.aload_n 2, 1) := by decide +kernel
theorem dX2_perform_38 : decode cX2_perform 38 = .ok (.aload_n 2, 1) := by decide +kernel
theorem dX2_perform_39 : decode cX2_perform 39 = .ok (.arraylength, 1) := by decide +kernel
theorem dX2_perform_40 : decode cX2_perform 40 = .ok (.aload_n 1, 1) := by decide +kernel
theorem dX2_perform_41 : decode cX2_perform 41 = .ok (.getfield 43, 3) := by decide +kernel
theorem dX2_perform_44 : decode cX2_perform 44 = .ok (.aload_n 1, 1) := by decide +kernel
theorem dX2_perform_45 : decode cX2_perform 45 = .ok (.getfield 46, 3) := by decide +kernel
theorem dX2_perform_48 : decode cX2_perform 48 = .ok (.invokevirtual 49, 3) := by decide +kernel
theorem dX2_perform_51 : decode cX2_perform 51 = .ok (.ireturn, 1) := by decide +kernel
theorem dX2_perform_52 : decode cX2_perform 52 = .ok (.aload_n 0, 1) := by decide +kernel
theorem dX2_perform_53 : decode cX2_perform 53 = .ok (.aload_n 2, 1) := by decide +kernel
theorem dX2_perform_54 : decode cX2_perform 54 = .ok (.aload_n 2, 1) := by decide +kernel
theorem dX2_perform_55 : decode cX2_perform 55 = .ok (.arraylength, 1) := by decide +kernel
theorem dX2_perform_56 : decode cX2_perform 56 = .ok (.aload_n 1, 1) := by decide +kernel
theorem dX2_perform_57 : decode cX2_perform 57 = .ok (.getfield 43, 3) := by decide +kernel
theorem dX2_perform_60 : decode cX2_perform 60 = .ok (.invokevirtual 53, 3) := by decide +kernel
theorem dX2_perform_63 : decode cX2_perform 63 = .ok (.ireturn, 1) := by decide +kernel
theorem dX2_perform_64 : decode cX2_perform 64 = .ok (.aload_n 0, 1) := by decide +kernel
theorem dX2_perform_65 : decode cX2_perform 65 = .ok (.aload_n 2, 1) := by decide +kernel
theorem dX2_perform_66 : decode cX2_perform 66 = .ok (.aload_n 2, 1) := by decide +kernel
theorem dX2_perform_67 : decode cX2_perform 67 = .ok (.arraylength, 1) := by decide +kernel
theorem dX2_perform_68 : decode cX2_perform 68 = .ok (.aload_n 1, 1) := by decide +kernel
theorem dX2_perform_69 : decode cX2_perform 69 = .ok (.getfield 46, 3) := by decide +kernel
theorem dX2_perform_72 : decode cX2_perform 72 = .ok (.invokevirtual 57, 3) := by decide +kernel
theorem dX2_perform_75 : decode cX2_perform 75 = .ok (.ireturn, 1) := by decide +kernel
theorem dX2_perform_76 : decode cX2_perform 76 = .ok (.aload_n 0, 1) := by decide +kernel
theorem dX2_perform_77 : decode cX2_perform 77 = .ok (.aload_n 2, 1) := by decide +kernel
theorem dX2_perform_78 : decode cX2_perform 78 = .ok (.aload_n 2, 1) := by decide +kernel
theorem dX2_perform_79 : decode cX2_perform 79 = .ok (.arraylength, 1) := by decide +kernel
theorem dX2_perform_80 : decode cX2_perform 80 = .ok (.aload_n 1, 1) := by decide +kernel
theorem dX2_perform_81 : decode cX2_perform 81 = .ok (.getfield 46, 3) := by decide +kernel
theorem dX2_perform_84 : decode cX2_perform 84 = .ok (.invokevirtual 61, 3) := by decide +kernel
theorem dX2_perform_87 : decode cX2_perform 87 = .ok (.ireturn, 1) := by decide +kernel
theorem dX2_addAt_0 : decode cX2_addAt 0 = .ok (.aload_n 0, 1) := by decide +kernel
theorem dX2_addAt_1 : decode cX2_addAt 1 = .ok (.aload_n 1, 1) := by decide +kernel
theorem dX2_addAt_2 : decode cX2_addAt 2 = .ok (.iload_n 2, 1) := by decide +kernel
theorem dX2_addAt_3 : decode cX2_addAt 3 = .ok (.invokevirtual 64, 3) := by decide +kernel
theorem dX2_addAt_6 : decode cX2_addAt 6 = .ok (.astore 5, 2) := by decide +kernel
theorem dX2_addAt_8 : decode cX2_addAt 8 = .ok (.aload_n 0, 1) := by decide +kernel
theorem dX2_addAt_9 : decode cX2_addAt 9 = .ok (.aconst_null, 1) := by decide +kernel
theorem dX2_addAt_10 : decode cX2_addAt 10 = .ok (.putfield 25, 3) := by decide +kernel
theorem dX2_addAt_13 : decode cX2_addAt 13 = .ok (.aload 5, 2) := by decide +kernel
theorem dX2_addAt_15 : decode cX2_addAt 15 = .ok (.ifnull 8, 3) := by decide +kernel
theorem dX2_addAt_18 : decode cX2_addAt 18 = .ok (.aload 4, 2) := by decide +kernel
theorem dX2_addAt_20 : decode cX2_addAt 20 = .ok (.ifnonnull 5, 3) := by decide +kernel
theorem dX2_addAt_23 : decode cX2_addAt 23 = .ok (.iconst 0, 1) := by decide +kernel
theorem dX2_addAt_24 : decode cX2_addAt 24 = .ok (.ireturn, 1) := by decide +kernel
theorem dX2_addAt_25 : decode cX2_addAt 25 = .ok (.aload 5, 2) := by decide +kernel
theorem dX2_addAt_27 : decode cX2_addAt 27 = .ok (.iload_n 3, 1) := by decide +kernel
theorem dX2_addAt_28 : decode cX2_addAt 28 = .ok (.invokevirtual 68, 3) := by decide +kernel
theorem dX2_addAt_31 : decode cX2_addAt 31 = .ok (.istore 6, 2) := by decide +kernel
theorem dX2_addAt_33 : decode cX2_addAt 33 = .ok (.iload 6, 2) := by decide +kernel
theorem dX2_addAt_35 : decode cX2_addAt 35 = .ok (.ifCond .ge 5, 3) := by decide +kernel
theorem dX2_addAt_38 : decode cX2_addAt 38 = .ok (.iconst 0, 1) := by decide +kernel
end
section
theorem dX2_addAt_39 : decode cX2_addAt 39 = .ok (.ireturn, 1) := by decide +kernel
theorem dX2_addAt_40 : decode cX2_addAt 40 = .ok (.aload_n 0, 1) := by decide +kernel
theorem dX2_addAt_41 : decode cX2_addAt 41 = .ok (.aload 5, 2) := by decide +kernel
theorem dX2_addAt_43 : decode cX2_addAt 43 = .ok (.iload 6, 2) := by decide +kernel
theorem dX2_addAt_45 : decode cX2_addAt 45 = .ok (.iload_n 3, 1) := by decide +kernel
theorem dX2_addAt_46 : decode cX2_addAt 46 = .ok (.aload 4, 2) := by decide +kernel
theorem dX2_addAt_48 : decode cX2_addAt 48 = .ok (.invokevirtual 72, 3) := by decide +kernel
theorem dX2_addAt_51 : decode cX2_addAt 51 = .ok (.invokevirtual 76, 3) := by decide +kernel
theorem dX2_addAt_54 : decode cX2_addAt 54 = .ok (.iconst 1, 1) := by decide +kernel
theorem dX2_addAt_55 : decode cX2_addAt 55 = .ok (.ireturn, 1) := by decide +kernel
theorem dX2_dropAt_0 : decode cX2_dropAt 0 = .ok (.aload_n 0, 1) := by decide +kernel
theorem dX2_dropAt_1 : decode cX2_dropAt 1 = .ok (.aload_n 1, 1) := by decide +kernel
theorem dX2_dropAt_2 : decode cX2_dropAt 2 = .ok (.iload_n 2, 1) := by decide +kernel
theorem dX2_dropAt_3 : decode cX2_dropAt 3 = .ok (.invokevirtual 64, 3) := by decide +kernel
theorem dX2_dropAt_6 : decode cX2_dropAt 6 = .ok (.astore 4, 2) := by decide +kernel
theorem dX2_dropAt_8 : decode cX2_dropAt 8 = .ok (.aload_n 0, 1) := by decide +kernel
theorem dX2_dropAt_9 : decode cX2_dropAt 9 = .ok (.aconst_null, 1) := by decide +kernel
theorem dX2_dropAt_10 : decode cX2_dropAt 10 = .ok (.putfield 25, 3) := by decide +kernel
theorem dX2_dropAt_13 : decode cX2_dropAt 13 = .ok (.aload 4, 2) := by decide +kernel
theorem dX2_dropAt_15 : decode cX2_dropAt 15 = .ok (.ifnonnull 5, 3) := by decide +kernel
theorem dX2_dropAt_18 : decode cX2_dropAt 18 = .ok (.iconst 0, 1) := by decide +kernel
theorem dX2_dropAt_19 : decode cX2_dropAt 19 = .ok (.ireturn, 1) := by decide +kernel
theorem dX2_dropAt_20 : decode cX2_dropAt 20 = .ok (.aload 4, 2) := by decide +kernel
theorem dX2_dropAt_22 : decode cX2_dropAt 22 = .ok (.iload_n 3, 1) := by decide +kernel
theorem dX2_dropAt_23 : decode cX2_dropAt 23 = .ok (.invokevirtual 80, 3) := by decide +kernel
theorem dX2_dropAt_26 : decode cX2_dropAt 26 = .ok (.istore 5, 2) := by decide +kernel
theorem dX2_dropAt_28 : decode cX2_dropAt 28 = .ok (.iload 5, 2) := by decide +kernel
theorem dX2_dropAt_30 : decode cX2_dropAt 30 = .ok (.ifCond .ge 5, 3) := by decide +kernel
theorem dX2_dropAt_33 : decode cX2_dropAt 33 = .ok (.iconst 0, 1) := by decide +kernel
theorem dX2_dropAt_34 : decode cX2_dropAt 34 = .ok (.ireturn, 1) := by decide +kernel
theorem dX2_dropAt_35 : decode cX2_dropAt 35 = .ok (.aload_n 0, 1) := by decide +kernel
theorem dX2_dropAt_36 : decode cX2_dropAt 36 = .ok (.aload 4, 2) := by decide +kernel
theorem dX2_dropAt_38 : decode cX2_dropAt 38 = .ok (.iload 5, 2) := by decide +kernel
theorem dX2_dropAt_40 : decode cX2_dropAt 40 = .ok (.invokevirtual 83, 3) := by decide +kernel
theorem dX2_dropAt_43 : decode cX2_dropAt 43 = .ok (.putfield 25, 3) := by decide +kernel
theorem dX2_dropAt_46 : decode cX2_dropAt 46 = .ok (.aload_n 0, 1) := by decide +kernel
theorem dX2_dropAt_47 : decode cX2_dropAt 47 = .ok (.aload 4, 2) := by decide +kernel
theorem dX2_dropAt_49 : decode cX2_dropAt 49 = .ok (.iload 5, 2) := by decide +kernel
theorem dX2_dropAt_51 : decode cX2_dropAt 51 = .ok (.invokevirtual 87, 3) := by decide +kernel
theorem dX2_dropAt_54 : decode cX2_dropAt 54 = .ok (.invokevirtual 76, 3) := by decide +kernel
theorem dX2_dropAt_57 : decode cX2_dropAt 57 = .ok (.iconst 1, 1) := by decide +kernel
theorem dX2_dropAt_58 : decode cX2_dropAt 58 = .ok (.ireturn, 1) := by decide +kernel
theorem dX2_putAt_0 : decode cX2_putAt 0 = .ok (.aload_n 0, 1) := by decide +kernel
theorem dX2_putAt_1 : decode cX2_putAt 1 = .ok (.aload_n 1, 1) := by decide +kernel
theorem dX2_putAt_2 : decode cX2_putAt 2 = .ok (.iload_n 2, 1) := by decide +kernel
theorem dX2_putAt_3 : decode cX2_putAt 3 = .ok (.invokevirtual 64, 3) := by decide +kernel
theorem dX2_putAt_6 : decode cX2_putAt 6 = .ok (.astore 4, 2) := by decide +kernel
theorem dX2_putAt_8 : decode cX2_putAt 8 = .ok (.aload_n 0, 1) := by decide +kernel
theorem dX2_putAt_9 : decode cX2_putAt 9 = .ok (.aload 4, 2) := by decide +kernel
theorem dX2_putAt_11 : decode cX2_putAt 11 = .ok (.putfield 25, 3) := by decide +kernel
theorem dX2_putAt_14 : decode cX2_putAt 14 = .ok (.aload 4, 2) := by decide +kernel
theorem dX2_putAt_16 : decode cX2_putAt 16 = .ok (.ifnull 7, 3) := by decide +kernel
theorem dX2_putAt_19 : decode cX2_putAt 19 = .ok (.aload_n 3, 1) := by decide +kernel
theorem dX2_putAt_20 : decode cX2_putAt 20 = .ok (.ifnonnull 5, 3) := by decide +kernel
theorem dX2_putAt_23 : decode cX2_putAt 23 = .ok (.iconst 0, 1) := by decide +kernel
theorem dX2_putAt_24 : decode cX2_putAt 24 = .ok (.ireturn, 1) := by decide +kernel
theorem dX2_putAt_25 : decode cX2_putAt 25 = .ok (.aload_n 0, 1) := by decide +kernel
theorem dX2_putAt_26 : decode cX2_putAt 26 = .ok (.aload_n 3, 1) := by decide +kernel
theorem dX2_putAt_27 : decode cX2_putAt 27 = .ok (.invokevirtual 76, 3) := by decide +kernel
theorem dX2_putAt_30 : decode cX2_putAt 30 = .ok (.iconst 1, 1) := by decide +kernel
theorem dX2_putAt_31 : decode cX2_putAt 31 = .ok (.ireturn, 1) := by decide +kernel
theorem dX2_testAt_0 : decode cX2_testAt 0 = .ok (.aload_n 0, 1) := by decide +kernel
theorem dX2_testAt_1 : decode cX2_testAt 1 = .ok (.aload_n 1, 1) := by decide +kernel
theorem dX2_testAt_2 : decode cX2_testAt 2 = .ok (.iload_n 2, 1) := by decide +kernel
theorem dX2_testAt_3 : decode cX2_testAt 3 = .ok (.invokevirtual 64, 3) := by decide +kernel
theorem dX2_testAt_6 : decode cX2_testAt 6 = .ok (.astore 4, 2) := by decide +kernel
theorem dX2_testAt_8 : decode cX2_testAt 8 = .ok (.aload_n 0, 1) := by decide +kernel
theorem dX2_testAt_9 : decode cX2_testAt 9 = .ok (.aconst_null, 1) := by decide +kernel
theorem dX2_testAt_10 : decode cX2_testAt 10 = .ok (.putfield 25, 3) := by decide +kernel
theorem dX2_testAt_13 : decode cX2_testAt 13 = .ok (.aload 4, 2) := by decide +kernel
theorem dX2_testAt_15 : decode cX2_testAt 15 = .ok (.ifnull 16, 3) := by decide +kernel
theorem dX2_testAt_18 : decode cX2_testAt 18 = .ok (.aload 4, 2) := by decide +kernel
theorem dX2_testAt_20 : decode cX2_testAt 20 = .ok (.aload_n 3, 1) := by decide +kernel
theorem dX2_testAt_21 : decode cX2_testAt 21 = .ok (.invokevirtual 90, 3) := by decide +kernel
theorem dX2_testAt_24 : decode cX2_testAt 24 = .ok (.ifCond .eq 7, 3) := by decide +kernel
theorem dX2_testAt_27 : decode cX2_testAt 27 = .ok (.iconst 1, 1) := by decide +kernel
theorem dX2_testAt_28 : decode cX2_testAt 28 = .ok (.goto 4, 3) := by decide +kernel
theorem dX2_testAt_31 : decode cX2_testAt 31 = .ok (.iconst 0, 1) := by decide +kernel
theorem dX2_testAt_32 : decode cX2_testAt 32 = .ok (.ireturn, 1) := by decide +kernel
theorem dX2_follow_0 : decode cX2_follow 0 = .ok (.iload_n 2, 1) := by decide +kernel
theorem dX2_follow_1 : decode cX2_follow 1 = .ok (.ifCond .lt 15, 3) := by decide +kernel
theorem dX2_follow_4 : decode cX2_follow 4 = .ok (.iload_n 2, 1) := by decide +kernel
theorem dX2_follow_5 : decode cX2_follow 5 = .ok (.aload_n 1, 1) := by decide +kernel
theorem dX2_follow_6 : decode cX2_follow 6 = .ok (.arraylength, 1) := by decide +kernel
theorem dX2_follow_7 : decode cX2_follow 7 = .ok (.if_icmp .gt 9, 3) := by decide +kernel
theorem dX2_follow_10 : decode cX2_follow 10 = .ok (.iload_n 2, 1) := by decide +kernel
theorem dX2_follow_11 : decode cX2_follow 11 = .ok (.bipush 6, 2) := by decide +kernel
theorem dX2_follow_13 : decode cX2_follow 13 = .ok (.if_icmp .le 5, 3) := by decide +kernel
theorem dX2_follow_16 : decode cX2_follow 16 = .ok (.aconst_null, 1) := by decide +kernel
theorem dX2_follow_17 : decode cX2_follow 17 = .ok (.areturn, 1) := by decide +kernel
theorem dX2_follow_18 : decode cX2_follow 18 = .ok (.aload_n 0, 1) := by decide +kernel
theorem dX2_follow_19 : decode cX2_follow 19 = .ok (.iload_n 2, 1) := by decide +kernel
theorem dX2_follow_20 : decode cX2_follow 20 = .ok (.putfield 94, 3) := by decide +kernel
theorem dX2_follow_23 : decode cX2_follow 23 = .ok (.aload_n 0, 1) := by decide +kernel
theorem dX2_follow_24 : decode cX2_follow 24 = .ok (.getfield 21, 3) := by decide +kernel
theorem dX2_follow_27 : decode cX2_follow 27 = .ok (.astore_n 3, 1) := by decide +kernel
theorem dX2_follow_28 : decode cX2_follow 28 = .ok (.iconst 0, 1) := by decide +kernel
theorem dX2_follow_29 : decode cX2_follow 29 = .ok (.istore 4, 2) := by decide +kernel
theorem dX2_follow_31 : decode cX2_follow 31 = .ok (.iload 4, 2) := by decide +kernel
theorem dX2_follow_33 : decode cX2_follow 33 = .ok (.iload_n 2, 1) := by decide +kernel
theorem dX2_follow_34 : decode cX2_follow 34 = .ok (.if_icmp .ge 48, 3) := by decide +kernel
theorem dX2_follow_37 : decode cX2_follow 37 = .ok (.aload_n 3, 1) := by decide +kernel
theorem dX2_follow_38 : decode cX2_follow 38 = .ok (.ifnull 44, 3) := by decide +kernel
theorem dX2_follow_41 : decode cX2_follow 41 = .ok (.aload_n 0, 1) := by decide +kernel
theorem dX2_follow_42 : decode cX2_follow 42 = .ok (.getfield 11, 3) := by decide +kernel
theorem dX2_follow_45 : decode cX2_follow 45 = .ok (.iload 4, 2) := by decide +kernel
theorem dX2_follow_47 : decode cX2_follow 47 = .ok (.aload_n 3, 1) := by decide +kernel
theorem dX2_follow_48 : decode cX2_follow 48 = .ok (.aastore, 1) := by decide +kernel
theorem dX2_follow_49 : decode cX2_follow 49 = .ok (.aload_n 0, 1) := by decide +kernel
theorem dX2_follow_50 : decode cX2_follow 50 = .ok (.getfield 17, 3) := by decide +kernel
theorem dX2_follow_53 : decode cX2_follow 53 = .ok (.iload 4, 2) := by decide +kernel
theorem dX2_follow_55 : decode cX2_follow 55 = .ok (.aload_n 3, 1) := by decide +kernel
theorem dX2_follow_56 : decode cX2_follow 56 = .ok (.aload_n 1, 1) := by decide +kernel
theorem dX2_follow_57 : decode cX2_follow 57 = .ok (.iload 4, 2) := by decide +kernel
theorem dX2_follow_59 : decode cX2_follow 59 = .ok (.iaload, 1) := by decide +kernel
theorem dX2_follow_60 : decode cX2_follow 60 = .ok (.invokevirtual 80, 3) := by decide +kernel
theorem dX2_follow_63 : decode cX2_follow 63 = .ok (.iastore, 1) := by decide +kernel
theorem dX2_follow_64 : decode cX2_follow 64 = .ok (.aload_n 3, 1) := by decide +kernel
theorem dX2_follow_65 : decode cX2_follow 65 = .ok (.aload_n 0, 1) := by decide +kernel
theorem dX2_follow_66 : decode cX2_follow 66 = .ok (.getfield 17, 3) := by decide +kernel
theorem dX2_follow_69 : decode cX2_follow 69 = .ok (.iload 4, 2) := by decide +kernel
theorem dX2_follow_71 : decode cX2_follow 71 = .ok (.iaload, 1) := by decide +kernel
theorem dX2_follow_72 : decode cX2_follow 72 = .ok (.invokevirtual 83, 3) := by decide +kernel
theorem dX2_follow_75 : decode cX2_follow 75 = .ok (.astore_n 3, 1) := by decide +kernel
theorem dX2_follow_76 : decode cX2_follow 76 = .ok (.iinc 4 1, 3) := by decide +kernel
theorem dX2_follow_79 : decode cX2_follow 79 = .ok (.goto (-48), 3) := by decide +kernel
theorem dX2_follow_82 : decode cX2_follow 82 = .ok (.aload_n 3, 1) := by decide +kernel
theorem dX2_follow_83 : decode cX2_follow 83 = .ok (.areturn, 1) := by decide +kernel
theorem dX2_rebuild_0 : decode cX2_rebuild 0 = .ok (.aload_n 1, 1) := by decide +kernel
theorem dX2_rebuild_1 : decode cX2_rebuild 1 = .ok (.astore_n 2, 1) := by decide +kernel
theorem dX2_rebuild_2 : decode cX2_rebuild 2 = .ok (.aload_n 0, 1) := by decide +kernel
theorem dX2_rebuild_3 : decode cX2_rebuild 3 = .ok (.getfield 94, 3) := by decide +kernel
theorem dX2_rebuild_6 : decode cX2_rebuild 6 = .ok (.iconst 1, 1) := by decide +kernel
theorem dX2_rebuild_7 : decode cX2_rebuild 7 = .ok (.isub, 1) := by decide +kernel
theorem dX2_rebuild_8 : decode cX2_rebuild 8 = .ok (.istore_n 3, 1) := by decide +kernel
theorem dX2_rebuild_9 : decode cX2_rebuild 9 = .ok (.iload_n 3, 1) := by decide +kernel
theorem dX2_rebuild_10 : decode cX2_rebuild 10 = .ok (.ifCond .lt 35, 3) := by decide +kernel
theorem dX2_rebuild_13 : decode cX2_rebuild 13 = .ok (.aload_n 0, 1) := by decide +kernel
theorem dX2_rebuild_14 : decode cX2_rebuild 14 = .ok (.getfield 11, 3) := by decide +kernel
theorem dX2_rebuild_17 : decode cX2_rebuild 17 = .ok (.iload_n 3, 1) := by decide +kernel
theorem dX2_rebuild_18 : decode cX2_rebuild 18 = .ok (.aaload, 1) := by decide +kernel
theorem dX2_rebuild_19 : decode cX2_rebuild 19 = .ok (.astore 4, 2) := by decide +kernel
theorem dX2_rebuild_21 : decode cX2_rebuild 21 = .ok (.aload 4, 2) := by decide +kernel
theorem dX2_rebuild_23 : decode cX2_rebuild 23 = .ok (.ifnull 16, 3) := by decide +kernel
theorem dX2_rebuild_26 : decode cX2_rebuild 26 = .ok (.aload 4, 2) := by decide +kernel
theorem dX2_rebuild_28 : decode cX2_rebuild 28 = .ok (.aload_n 0, 1) := by decide +kernel
theorem dX2_rebuild_29 : decode cX2_rebuild 29 = .ok (.getfield 17, 3) := by decide +kernel
theorem dX2_rebuild_32 : decode cX2_rebuild 32 = .ok (.iload_n 3, 1) := by decide +kernel
theorem dX2_rebuild_33 : decode cX2_rebuild 33 = .ok (.iaload, 1) := by decide +kernel
theorem dX2_rebuild_34 : decode cX2_rebuild 34 = .ok (.aload_n 2, 1) := by decide +kernel
theorem dX2_rebuild_35 : decode cX2_rebuild 35 = .ok (.invokevirtual 97, 3) := by decide +kernel
theorem dX2_rebuild_38 : decode cX2_rebuild 38 = .ok (.astore_n 2, 1) := by decide +kernel
theorem dX2_rebuild_39 : decode cX2_rebuild 39 = .ok (.iinc 3 (-1), 3) := by decide +kernel
theorem dX2_rebuild_42 : decode cX2_rebuild 42 = .ok (.goto (-33), 3) := by decide +kernel
theorem dX2_rebuild_45 : decode cX2_rebuild 45 = .ok (.aload_n 0, 1) := by decide +kernel
theorem dX2_rebuild_46 : decode cX2_rebuild 46 = .ok (.aload_n 2, 1) := by decide +kernel
theorem dX2_rebuild_47 : decode cX2_rebuild 47 = .ok (.putfield 21, 3) := by decide +kernel
theorem dX2_rebuild_50 : decode cX2_rebuild 50 = .ok (.return_, 1) := by decide +kernel
theorem dX3_init_0 : decode cX3_init 0 = .ok (.aload_n 0, 1) := by decide +kernel
theorem dX3_init_1 : decode cX3_init 1 = .ok (.invokespecial 3, 3) := by decide +kernel
theorem dX3_init_4 : decode cX3_init 4 = .ok (.aload_n 0, 1) := by decide +kernel
theorem dX3_init_5 : decode cX3_init 5 = .ok (.iload_n 1, 1) := by decide +kernel
theorem dX3_init_6 : decode cX3_init 6 = .ok (.putfield 9, 3) := by decide +kernel
theorem dX3_init_9 : decode cX3_init 9 = .ok (.aload_n 0, 1) := by decide +kernel
theorem dX3_init_10 : decode cX3_init 10 = .ok (.aload_n 2, 1) := by decide +kernel
theorem dX3_init_11 : decode cX3_init 11 = .ok (.putfield 15, 3) := by decide +kernel
theorem dX3_init_14 : decode cX3_init 14 = .ok (.aload_n 0, 1) := by decide +kernel
theorem dX3_init_15 : decode cX3_init 15 = .ok (.iload_n 3, 1) := by decide +kernel
theorem dX3_init_16 : decode cX3_init 16 = .ok (.putfield 19, 3) := by decide +kernel
theorem dX3_init_19 : decode cX3_init 19 = .ok (.aload_n 0, 1) := by decide +kernel
theorem dX3_init_20 : decode cX3_init 20 = .ok (.aload 4, 2) := by decide +kernel
theorem dX3_init_22 : decode cX3_init 22 = .ok (.putfield 22, 3) := by decide +kernel
theorem dX3_init_25 : decode cX3_init 25 = .ok (.return_, 1) := by decide +kernel
theorem dX3_inverse_0 : decode cX3_inverse 0 = .ok (.aload_n 0, 1) := by decide +kernel
theorem dX3_inverse_1 : decode cX3_inverse 1 = .ok (.getfield 9, 3) := by decide +kernel
theorem dX3_inverse_4 : decode cX3_inverse 4 = .ok (.tableswitch 82 0 2 #[28, 46, 64], 28) := by decide +kernel
theorem dX3_inverse_32 : decode cX3_inverse 32 = .ok (.new 10, 3) := by decide +kernel
theorem dX3_inverse_35 : decode cX3_inverse 35 = .ok (.dup, 1) := by decide +kernel
theorem dX3_inverse_36 : decode cX3_inverse 36 = .ok (.iconst 1, 1) := by decide +kernel
theorem dX3_inverse_37 : decode cX3_inverse 37 = .ok (.aload_n 0, 1) := by decide +kernel
theorem dX3_inverse_38 : decode cX3_inverse 38 = .ok (.getfield 15, 3) := by decide +kernel
theorem dX3_inverse_41 : decode cX3_inverse 41 = .ok (.aload_n 0, 1) := by decide +kernel
theorem dX3_inverse_42 : decode cX3_inverse 42 = .ok (.getfield 19, 3) := by decide +kernel
theorem dX3_inverse_45 : decode cX3_inverse 45 = .ok (.aconst_null, 1) := by decide +kernel
theorem dX3_inverse_46 : decode cX3_inverse 46 = .ok (.invokespecial 26, 3) := by decide +kernel
theorem dX3_inverse_49 : decode cX3_inverse 49 = .ok (.areturn, 1) := by decide +kernel
theorem dX3_inverse_50 : decode cX3_inverse 50 = .ok (.new 10, 3) := by decide +kernel
theorem dX3_inverse_53 : decode cX3_inverse 53 = .ok (.dup, 1) := by decide +kernel
theorem dX3_inverse_54 : decode cX3_inverse 54 = .ok (.iconst 0, 1) := by decide +kernel
theorem dX3_inverse_55 : decode cX3_inverse 55 = .ok (.aload_n 0, 1) := by decide +kernel
theorem dX3_inverse_56 : decode cX3_inverse 56 = .ok (.getfield 15, 3) := by decide +kernel
theorem dX3_inverse_59 : decode cX3_inverse 59 = .ok (.aload_n 0, 1) := by decide +kernel
theorem dX3_inverse_60 : decode cX3_inverse 60 = .ok (.getfield 19, 3) := by decide +kernel
theorem dX3_inverse_63 : decode cX3_inverse 63 = .ok (.aload_n 1, 1) := by decide +kernel
theorem dX3_inverse_64 : decode cX3_inverse 64 = .ok (.invokespecial 26, 3) := by decide +kernel
theorem dX3_inverse_67 : decode cX3_inverse 67 = .ok (.areturn, 1) := by decide +kernel
theorem dX3_inverse_68 : decode cX3_inverse 68 = .ok (.new 10, 3) := by decide +kernel
theorem dX3_inverse_71 : decode cX3_inverse 71 = .ok (.dup, 1) := by decide +kernel
theorem dX3_inverse_72 : decode cX3_inverse 72 = .ok (.iconst 2, 1) := by decide +kernel
theorem dX3_inverse_73 : decode cX3_inverse 73 = .ok (.aload_n 0, 1) := by decide +kernel
theorem dX3_inverse_74 : decode cX3_inverse 74 = .ok (.getfield 15, 3) := by decide +kernel
theorem dX3_inverse_77 : decode cX3_inverse 77 = .ok (.aload_n 0, 1) := by decide +kernel
theorem dX3_inverse_78 : decode cX3_inverse 78 = .ok (.getfield 19, 3) := by decide +kernel
theorem dX3_inverse_81 : decode cX3_inverse 81 = .ok (.aload_n 1, 1) := by decide +kernel
theorem dX3_inverse_82 : decode cX3_inverse 82 = .ok (.invokespecial 26, 3) := by decide +kernel
theorem dX3_inverse_85 : decode cX3_inverse 85 = .ok (.areturn, 1) := by decide +kernel
theorem dX3_inverse_86 : decode cX3_inverse 86 = .ok (.aload_n 0, 1) := by decide +kernel
theorem dX3_inverse_87 : decode cX3_inverse 87 = .ok (.areturn, 1) := by decide +kernel
theorem dX3_tell_0 : decode cX3_tell 0 = .ok (.iload_n 1, 1) := by decide +kernel
theorem dX3_tell_1 : decode cX3_tell 1 = .ok (.tableswitch 43 0 2 #[27, 32, 38], 27) := by decide +kernel
theorem dX3_tell_28 : decode cX3_tell 28 = .ok (.aload_n 0, 1) := by decide +kernel
theorem dX3_tell_29 : decode cX3_tell 29 = .ok (.getfield 9, 3) := by decide +kernel
theorem dX3_tell_32 : decode cX3_tell 32 = .ok (.ireturn, 1) := by decide +kernel
theorem dX3_tell_33 : decode cX3_tell 33 = .ok (.aload_n 0, 1) := by decide +kernel
theorem dX3_tell_34 : decode cX3_tell 34 = .ok (.getfield 15, 3) := by decide +kernel
theorem dX3_tell_37 : decode cX3_tell 37 = .ok (.arraylength, 1) := by decide +kernel
theorem dX3_tell_38 : decode cX3_tell 38 = .ok (.ireturn, 1) := by decide +kernel
theorem dX3_tell_39 : decode cX3_tell 39 = .ok (.aload_n 0, 1) := by decide +kernel
theorem dX3_tell_40 : decode cX3_tell 40 = .ok (.getfield 19, 3) := by decide +kernel
theorem dX3_tell_43 : decode cX3_tell 43 = .ok (.ireturn, 1) := by decide +kernel
theorem dX3_tell_44 : decode cX3_tell 44 = .ok (.aload_n 0, 1) := by decide +kernel
theorem dX3_tell_45 : decode cX3_tell 45 = .ok (.getfield 22, 3) := by decide +kernel
theorem dX3_tell_48 : decode cX3_tell 48 = .ok (.ifnonnull 7, 3) := by decide +kernel
theorem dX3_tell_51 : decode cX3_tell 51 = .ok (.iconst 0, 1) := by decide +kernel
theorem dX3_tell_52 : decode cX3_tell 52 = .ok (.goto 10, 3) := by decide +kernel
theorem dX3_tell_55 : decode cX3_tell 55 = .ok (.aload_n 0, 1) := by decide +kernel
theorem dX3_tell_56 : decode cX3_tell 56 = .ok (.getfield 22, 3) := by decide +kernel
theorem dX3_tell_59 : decode cX3_tell 59 = .ok (.getfield 29, 3) := by decide +kernel
theorem dX3_tell_62 : decode cX3_tell 62 = .ok (.ireturn, 1) := by decide +kernel
theorem dX4_init_0 : decode cX4_init 0 = .ok (.aload_n 0, 1) := by decide +kernel
theorem dX4_init_1 : decode cX4_init 1 = .ok (.invokespecial 3, 3) := by decide +kernel
theorem dX4_init_4 : decode cX4_init 4 = .ok (.aload_n 0, 1) := by decide +kernel
theorem dX4_init_5 : decode cX4_init 5 = .ok (.bipush 20, 2) := by decide +kernel
theorem dX4_init_7 : decode cX4_init 7 = .ok (.anewarray 9, 3) := by decide +kernel
theorem dX4_init_10 : decode cX4_init 10 = .ok (.putfield 11, 3) := by decide +kernel
theorem dX4_init_13 : decode cX4_init 13 = .ok (.return_, 1) := by decide +kernel
theorem dX4_clear_0 : decode cX4_clear 0 = .ok (.aload_n 0, 1) := by decide +kernel
theorem dX4_clear_1 : decode cX4_clear 1 = .ok (.iconst 0, 1) := by decide +kernel
theorem dX4_clear_2 : decode cX4_clear 2 = .ok (.putfield 17, 3) := by decide +kernel
theorem dX4_clear_5 : decode cX4_clear 5 = .ok (.return_, 1) := by decide +kernel
theorem dX4_append_0 : decode cX4_append 0 = .ok (.aload_n 0, 1) := by decide +kernel
theorem dX4_append_1 : decode cX4_append 1 = .ok (.getfield 17, 3) := by decide +kernel
theorem dX4_append_4 : decode cX4_append 4 = .ok (.ifCond .lt 35, 3) := by decide +kernel
theorem dX4_append_7 : decode cX4_append 7 = .ok (.aload_n 0, 1) := by decide +kernel
theorem dX4_append_8 : decode cX4_append 8 = .ok (.getfield 17, 3) := by decide +kernel
theorem dX4_append_11 : decode cX4_append 11 = .ok (.aload_n 0, 1) := by decide +kernel
theorem dX4_append_12 : decode cX4_append 12 = .ok (.getfield 11, 3) := by decide +kernel
theorem dX4_append_15 : decode cX4_append 15 = .ok (.arraylength, 1) := by decide +kernel
theorem dX4_append_16 : decode cX4_append 16 = .ok (.if_icmp .ge 23, 3) := by decide +kernel
theorem dX4_append_19 : decode cX4_append 19 = .ok (.aload_n 0, 1) := by decide +kernel
theorem dX4_append_20 : decode cX4_append 20 = .ok (.getfield 11, 3) := by decide +kernel
theorem dX4_append_23 : decode cX4_append 23 = .ok (.aload_n 0, 1) := by decide +kernel
theorem dX4_append_24 : decode cX4_append 24 = .ok (.getfield 17, 3) := by decide +kernel
theorem dX4_append_27 : decode cX4_append 27 = .ok (.aload_n 1, 1) := by decide +kernel
theorem dX4_append_28 : decode cX4_append 28 = .ok (.aastore, 1) := by decide +kernel
theorem dX4_append_29 : decode cX4_append 29 = .ok (.aload_n 0, 1) := by decide +kernel
theorem dX4_append_30 : decode cX4_append 30 = .ok (.dup, 1) := by decide +kernel
theorem dX4_append_31 : decode cX4_append 31 = .ok (.getfield 17, 3) := by decide +kernel
theorem dX4_append_34 : decode cX4_append 34 = .ok (.iconst 1, 1) := by decide +kernel
theorem dX4_append_35 : decode cX4_append 35 = .ok (.iadd, 1) := by decide +kernel
theorem dX4_append_36 : decode cX4_append 36 = .ok (.putfield 17, 3) := by decide +kernel
theorem dX4_append_39 : decode cX4_append 39 = .ok (.return_, 1) := by decide +kernel
theorem dX4_operationAt_0 : decode cX4_operationAt 0 = .ok (.iload_n 1, 1) := by decide +kernel
theorem dX4_operationAt_1 : decode cX4_operationAt 1 = .ok (.ifCond .lt 20, 3) := by decide +kernel
theorem dX4_operationAt_4 : decode cX4_operationAt 4 = .ok (.iload_n 1, 1) := by decide +kernel
theorem dX4_operationAt_5 : decode cX4_operationAt 5 = .ok (.aload_n 0, 1) := by decide +kernel
theorem dX4_operationAt_6 : decode cX4_operationAt 6 = .ok (.getfield 17, 3) := by decide +kernel
theorem dX4_operationAt_9 : decode cX4_operationAt 9 = .ok (.if_icmp .ge 12, 3) := by decide +kernel
theorem dX4_operationAt_12 : decode cX4_operationAt 12 = .ok (.iload_n 1, 1) := by decide +kernel
theorem dX4_operationAt_13 : decode cX4_operationAt 13 = .ok (.aload_n 0, 1) := by decide +kernel
theorem dX4_operationAt_14 : decode cX4_operationAt 14 = .ok (.getfield 11, 3) := by decide +kernel
theorem dX4_operationAt_17 : decode cX4_operationAt 17 = .ok (.arraylength, 1) := by decide +kernel
theorem dX4_operationAt_18 : decode cX4_operationAt 18 = .ok (.if_icmp .lt 5, 3) := by decide +kernel
theorem dX4_operationAt_21 : decode cX4_operationAt 21 = .ok (.aconst_null, 1) := by decide +kernel
theorem dX4_operationAt_22 : decode cX4_operationAt 22 = .ok (.areturn, 1) := by decide +kernel
theorem dX4_operationAt_23 : decode cX4_operationAt 23 = .ok (.aload_n 0, 1) := by decide +kernel
theorem dX4_operationAt_24 : decode cX4_operationAt 24 = .ok (.getfield 11, 3) := by decide +kernel
theorem dX4_operationAt_27 : decode cX4_operationAt 27 = .ok (.iload_n 1, 1) := by decide +kernel
theorem dX4_operationAt_28 : decode cX4_operationAt 28 = .ok (.aaload, 1) := by decide +kernel
theorem dX4_operationAt_29 : decode cX4_operationAt 29 = .ok (.areturn, 1) := by decide +kernel
theorem dX5_init_0 : decode cX5_init 0 = .ok (.aload_n 0, 1) := by decide +kernel
theorem dX5_init_1 : decode cX5_init 1 = .ok (.invokespecial 3, 3) := by decide +kernel
theorem dX5_init_4 : decode cX5_init 4 = .ok (.aload_n 0, 1) := by decide +kernel
theorem dX5_init_5 : decode cX5_init 5 = .ok (.bipush 6, 2) := by decide +kernel
theorem dX5_init_7 : decode cX5_init 7 = .ok (.newarray .int, 2) := by decide +kernel
theorem dX5_init_9 : decode cX5_init 9 = .ok (.putfield 9, 3) := by decide +kernel
theorem dX5_init_12 : decode cX5_init 12 = .ok (.return_, 1) := by decide +kernel
theorem dX5_goToWhole_0 : decode cX5_goToWhole 0 = .ok (.aload_n 0, 1) := by decide +kernel
theorem dX5_goToWhole_1 : decode cX5_goToWhole 1 = .ok (.iload_n 1, 1) := by decide +kernel
theorem dX5_goToWhole_2 : decode cX5_goToWhole 2 = .ok (.putfield 34, 3) := by decide +kernel
theorem dX5_goToWhole_5 : decode cX5_goToWhole 5 = .ok (.aload_n 0, 1) := by decide +kernel
theorem dX5_goToWhole_6 : decode cX5_goToWhole 6 = .ok (.iconst 0, 1) := by decide +kernel
theorem dX5_goToWhole_7 : decode cX5_goToWhole 7 = .ok (.putfield 15, 3) := by decide +kernel
theorem dX5_goToWhole_10 : decode cX5_goToWhole 10 = .ok (.return_, 1) := by decide +kernel
theorem dX5_goDown_0 : decode cX5_goDown 0 = .ok (.aload_n 0, 1) := by decide +kernel
theorem dX5_goDown_1 : decode cX5_goDown 1 = .ok (.getfield 15, 3) := by decide +kernel
theorem dX5_goDown_4 : decode cX5_goDown 4 = .ok (.ifCond .lt 15, 3) := by decide +kernel
theorem dX5_goDown_7 : decode cX5_goDown 7 = .ok (.aload_n 0, 1) := by decide +kernel
theorem dX5_goDown_8 : decode cX5_goDown 8 = .ok (.getfield 15, 3) := by decide +kernel
theorem dX5_goDown_11 : decode cX5_goDown 11 = .ok (.aload_n 0, 1) := by decide +kernel
theorem dX5_goDown_12 : decode cX5_goDown 12 = .ok (.getfield 9, 3) := by decide +kernel
theorem dX5_goDown_15 : decode cX5_goDown 15 = .ok (.arraylength, 1) := by decide +kernel
theorem dX5_goDown_16 : decode cX5_goDown 16 = .ok (.if_icmp .lt 5, 3) := by decide +kernel
theorem dX5_goDown_19 : decode cX5_goDown 19 = .ok (.iconst 0, 1) := by decide +kernel
theorem dX5_goDown_20 : decode cX5_goDown 20 = .ok (.ireturn, 1) := by decide +kernel
theorem dX5_goDown_21 : decode cX5_goDown 21 = .ok (.aload_n 0, 1) := by decide +kernel
theorem dX5_goDown_22 : decode cX5_goDown 22 = .ok (.getfield 9, 3) := by decide +kernel
theorem dX5_goDown_25 : decode cX5_goDown 25 = .ok (.aload_n 0, 1) := by decide +kernel
theorem dX5_goDown_26 : decode cX5_goDown 26 = .ok (.getfield 15, 3) := by decide +kernel
theorem dX5_goDown_29 : decode cX5_goDown 29 = .ok (.iload_n 1, 1) := by decide +kernel
theorem dX5_goDown_30 : decode cX5_goDown 30 = .ok (.iastore, 1) := by decide +kernel
theorem dX5_goDown_31 : decode cX5_goDown 31 = .ok (.aload_n 0, 1) := by decide +kernel
theorem dX5_goDown_32 : decode cX5_goDown 32 = .ok (.dup, 1) := by decide +kernel
theorem dX5_goDown_33 : decode cX5_goDown 33 = .ok (.getfield 15, 3) := by decide +kernel
theorem dX5_goDown_36 : decode cX5_goDown 36 = .ok (.iconst 1, 1) := by decide +kernel
theorem dX5_goDown_37 : decode cX5_goDown 37 = .ok (.iadd, 1) := by decide +kernel
theorem dX5_goDown_38 : decode cX5_goDown 38 = .ok (.putfield 15, 3) := by decide +kernel
theorem dX5_goDown_41 : decode cX5_goDown 41 = .ok (.iconst 1, 1) := by decide +kernel
theorem dX5_goDown_42 : decode cX5_goDown 42 = .ok (.ireturn, 1) := by decide +kernel
theorem dX5_goUp_0 : decode cX5_goUp 0 = .ok (.aload_n 0, 1) := by decide +kernel
theorem dX5_goUp_1 : decode cX5_goUp 1 = .ok (.getfield 15, 3) := by decide +kernel
theorem dX5_goUp_4 : decode cX5_goUp 4 = .ok (.ifCond .ne 5, 3) := by decide +kernel
theorem dX5_goUp_7 : decode cX5_goUp 7 = .ok (.iconst 0, 1) := by decide +kernel
theorem dX5_goUp_8 : decode cX5_goUp 8 = .ok (.ireturn, 1) := by decide +kernel
theorem dX5_goUp_9 : decode cX5_goUp 9 = .ok (.aload_n 0, 1) := by decide +kernel
theorem dX5_goUp_10 : decode cX5_goUp 10 = .ok (.dup, 1) := by decide +kernel
theorem dX5_goUp_11 : decode cX5_goUp 11 = .ok (.getfield 15, 3) := by decide +kernel
theorem dX5_goUp_14 : decode cX5_goUp 14 = .ok (.iconst 1, 1) := by decide +kernel
theorem dX5_goUp_15 : decode cX5_goUp 15 = .ok (.isub, 1) := by decide +kernel
theorem dX5_goUp_16 : decode cX5_goUp 16 = .ok (.putfield 15, 3) := by decide +kernel
theorem dX5_goUp_19 : decode cX5_goUp 19 = .ok (.iconst 1, 1) := by decide +kernel
theorem dX5_goUp_20 : decode cX5_goUp 20 = .ok (.ireturn, 1) := by decide +kernel
theorem dX5_settle_0 : decode cX5_settle 0 = .ok (.aload_n 1, 1) := by decide +kernel
theorem dX5_settle_1 : decode cX5_settle 1 = .ok (.astore_n 2, 1) := by decide +kernel
theorem dX5_settle_2 : decode cX5_settle 2 = .ok (.iconst 0, 1) := by decide +kernel
theorem dX5_settle_3 : decode cX5_settle 3 = .ok (.istore_n 3, 1) := by decide +kernel
theorem dX5_settle_4 : decode cX5_settle 4 = .ok (.iconst 0, 1) := by decide +kernel
theorem dX5_settle_5 : decode cX5_settle 5 = .ok (.istore 4, 2) := by decide +kernel
theorem dX5_settle_7 : decode cX5_settle 7 = .ok (.iload 4, 2) := by decide +kernel
theorem dX5_settle_9 : decode cX5_settle 9 = .ok (.aload_n 0, 1) := by decide +kernel
theorem dX5_settle_10 : decode cX5_settle 10 = .ok (.getfield 15, 3) := by decide +kernel
theorem dX5_settle_13 : decode cX5_settle 13 = .ok (.if_icmp .ge 45, 3) := by decide +kernel
theorem dX5_settle_16 : decode cX5_settle 16 = .ok (.iload 4, 2) := by decide +kernel
theorem dX5_settle_18 : decode cX5_settle 18 = .ok (.aload_n 0, 1) := by decide +kernel
theorem dX5_settle_19 : decode cX5_settle 19 = .ok (.getfield 9, 3) := by decide +kernel
theorem dX5_settle_22 : decode cX5_settle 22 = .ok (.arraylength, 1) := by decide +kernel
theorem dX5_settle_23 : decode cX5_settle 23 = .ok (.if_icmp .ge 35, 3) := by decide +kernel
theorem dX5_settle_26 : decode cX5_settle 26 = .ok (.aload_n 2, 1) := by decide +kernel
theorem dX5_settle_27 : decode cX5_settle 27 = .ok (.aload_n 2, 1) := by decide +kernel
theorem dX5_settle_28 : decode cX5_settle 28 = .ok (.aload_n 0, 1) := by decide +kernel
theorem dX5_settle_29 : decode cX5_settle 29 = .ok (.getfield 9, 3) := by decide +kernel
theorem dX5_settle_32 : decode cX5_settle 32 = .ok (.iload 4, 2) := by decide +kernel
theorem dX5_settle_34 : decode cX5_settle 34 = .ok (.iaload, 1) := by decide +kernel
theorem dX5_settle_35 : decode cX5_settle 35 = .ok (.invokevirtual 49, 3) := by decide +kernel
theorem dX5_settle_38 : decode cX5_settle 38 = .ok (.invokevirtual 54, 3) := by decide +kernel
theorem dX5_settle_41 : decode cX5_settle 41 = .ok (.astore_n 2, 1) := by decide +kernel
theorem dX5_settle_42 : decode cX5_settle 42 = .ok (.aload_n 2, 1) := by decide +kernel
theorem dX5_settle_43 : decode cX5_settle 43 = .ok (.ifnonnull 6, 3) := by decide +kernel
theorem dX5_settle_46 : decode cX5_settle 46 = .ok (.goto 12, 3) := by decide +kernel
theorem dX5_settle_49 : decode cX5_settle 49 = .ok (.iinc 3 1, 3) := by decide +kernel
theorem dX5_settle_52 : decode cX5_settle 52 = .ok (.iinc 4 1, 3) := by decide +kernel
theorem dX5_settle_55 : decode cX5_settle 55 = .ok (.goto (-48), 3) := by decide +kernel
theorem dX5_settle_58 : decode cX5_settle 58 = .ok (.aload_n 0, 1) := by decide +kernel
theorem dX5_settle_59 : decode cX5_settle 59 = .ok (.iload_n 3, 1) := by decide +kernel
theorem dX5_settle_60 : decode cX5_settle 60 = .ok (.putfield 15, 3) := by decide +kernel
theorem dX5_settle_63 : decode cX5_settle 63 = .ok (.return_, 1) := by decide +kernel
theorem dX6_init_0 : decode cX6_init 0 = .ok (.aload_n 0, 1) := by decide +kernel
theorem dX6_init_1 : decode cX6_init 1 = .ok (.invokespecial 3, 3) := by decide +kernel
theorem dX6_init_4 : decode cX6_init 4 = .ok (.aload_n 0, 1) := by decide +kernel
theorem dX6_init_5 : decode cX6_init 5 = .ok (.iconst 5, 1) := by decide +kernel
theorem dX6_init_6 : decode cX6_init 6 = .ok (.newarray .int, 2) := by decide +kernel
theorem dX6_init_8 : decode cX6_init 8 = .ok (.putfield 9, 3) := by decide +kernel
theorem dX6_init_11 : decode cX6_init 11 = .ok (.aload_n 0, 1) := by decide +kernel
theorem dX6_init_12 : decode cX6_init 12 = .ok (.iconst 5, 1) := by decide +kernel
theorem dX6_init_13 : decode cX6_init 13 = .ok (.newarray .int, 2) := by decide +kernel
theorem dX6_init_15 : decode cX6_init 15 = .ok (.putfield 15, 3) := by decide +kernel
theorem dX6_init_18 : decode cX6_init 18 = .ok (.return_, 1) := by decide +kernel
theorem dX6_append_0 : decode cX6_append 0 = .ok (.aload_n 0, 1) := by decide +kernel
theorem dX6_append_1 : decode cX6_append 1 = .ok (.getfield 18, 3) := by decide +kernel
theorem dX6_append_4 : decode cX6_append 4 = .ok (.ifCond .lt 15, 3) := by decide +kernel
theorem dX6_append_7 : decode cX6_append 7 = .ok (.aload_n 0, 1) := by decide +kernel
theorem dX6_append_8 : decode cX6_append 8 = .ok (.getfield 18, 3) := by decide +kernel
theorem dX6_append_11 : decode cX6_append 11 = .ok (.aload_n 0, 1) := by decide +kernel
theorem dX6_append_12 : decode cX6_append 12 = .ok (.getfield 9, 3) := by decide +kernel
theorem dX6_append_15 : decode cX6_append 15 = .ok (.arraylength, 1) := by decide +kernel
theorem dX6_append_16 : decode cX6_append 16 = .ok (.if_icmp .lt 5, 3) := by decide +kernel
theorem dX6_append_19 : decode cX6_append 19 = .ok (.iconst 0, 1) := by decide +kernel
theorem dX6_append_20 : decode cX6_append 20 = .ok (.ireturn, 1) := by decide +kernel
theorem dX6_append_21 : decode cX6_append 21 = .ok (.aload_n 0, 1) := by decide +kernel
theorem dX6_append_22 : decode cX6_append 22 = .ok (.getfield 9, 3) := by decide +kernel
theorem dX6_append_25 : decode cX6_append 25 = .ok (.aload_n 0, 1) := by decide +kernel
theorem dX6_append_26 : decode cX6_append 26 = .ok (.getfield 18, 3) := by decide +kernel
theorem dX6_append_29 : decode cX6_append 29 = .ok (.iload_n 1, 1) := by decide +kernel
theorem dX6_append_30 : decode cX6_append 30 = .ok (.iastore, 1) := by decide +kernel
theorem dX6_append_31 : decode cX6_append 31 = .ok (.aload_n 0, 1) := by decide +kernel
theorem dX6_append_32 : decode cX6_append 32 = .ok (.getfield 15, 3) := by decide +kernel
theorem dX6_append_35 : decode cX6_append 35 = .ok (.aload_n 0, 1) := by decide +kernel
theorem dX6_append_36 : decode cX6_append 36 = .ok (.getfield 18, 3) := by decide +kernel
theorem dX6_append_39 : decode cX6_append 39 = .ok (.iload_n 2, 1) := by decide +kernel
theorem dX6_append_40 : decode cX6_append 40 = .ok (.iastore, 1) := by decide +kernel
theorem dX6_append_41 : decode cX6_append 41 = .ok (.aload_n 0, 1) := by decide +kernel
theorem dX6_append_42 : decode cX6_append 42 = .ok (.dup, 1) := by decide +kernel
theorem dX6_append_43 : decode cX6_append 43 = .ok (.getfield 18, 3) := by decide +kernel
theorem dX6_append_46 : decode cX6_append 46 = .ok (.iconst 1, 1) := by decide +kernel
theorem dX6_append_47 : decode cX6_append 47 = .ok (.iadd, 1) := by decide +kernel
theorem dX6_append_48 : decode cX6_append 48 = .ok (.putfield 18, 3) := by decide +kernel
theorem dX6_append_51 : decode cX6_append 51 = .ok (.iconst 1, 1) := by decide +kernel
theorem dX6_append_52 : decode cX6_append 52 = .ok (.ireturn, 1) := by decide +kernel
theorem dX6_findIn_0 : decode cX6_findIn 0 = .ok (.lconst 1, 1) := by decide +kernel
theorem dX6_findIn_1 : decode cX6_findIn 1 = .ok (.lstore_n 2, 1) := by decide +kernel
theorem dX6_findIn_2 : decode cX6_findIn 2 = .ok (.iconst 0, 1) := by decide +kernel
theorem dX6_findIn_3 : decode cX6_findIn 3 = .ok (.istore 4, 2) := by decide +kernel
theorem dX6_findIn_5 : decode cX6_findIn 5 = .ok (.iload 4, 2) := by decide +kernel
theorem dX6_findIn_7 : decode cX6_findIn 7 = .ok (.aload_n 0, 1) := by decide +kernel
theorem dX6_findIn_8 : decode cX6_findIn 8 = .ok (.getfield 18, 3) := by decide +kernel
theorem dX6_findIn_11 : decode cX6_findIn 11 = .ok (.if_icmp .ge 39, 3) := by decide +kernel
theorem dX6_findIn_14 : decode cX6_findIn 14 = .ok (.iload 4, 2) := by decide +kernel
theorem dX6_findIn_16 : decode cX6_findIn 16 = .ok (.aload_n 0, 1) := by decide +kernel
theorem dX6_findIn_17 : decode cX6_findIn 17 = .ok (.getfield 9, 3) := by decide +kernel
theorem dX6_findIn_20 : decode cX6_findIn 20 = .ok (.arraylength, 1) := by decide +kernel
theorem dX6_findIn_21 : decode cX6_findIn 21 = .ok (.if_icmp .ge 29, 3) := by decide +kernel
theorem dX6_findIn_24 : decode cX6_findIn 24 = .ok (.aload_n 1, 1) := by decide +kernel
theorem dX6_findIn_25 : decode cX6_findIn 25 = .ok (.lload_n 2, 1) := by decide +kernel
theorem dX6_findIn_26 : decode cX6_findIn 26 = .ok (.aload_n 0, 1) := by decide +kernel
theorem dX6_findIn_27 : decode cX6_findIn 27 = .ok (.getfield 9, 3) := by decide +kernel
theorem dX6_findIn_30 : decode cX6_findIn 30 = .ok (.iload 4, 2) := by decide +kernel
theorem dX6_findIn_32 : decode cX6_findIn 32 = .ok (.iaload, 1) := by decide +kernel
theorem dX6_findIn_33 : decode cX6_findIn 33 = .ok (.aload_n 0, 1) := by decide +kernel
theorem dX6_findIn_34 : decode cX6_findIn 34 = .ok (.getfield 15, 3) := by decide +kernel
theorem dX6_findIn_37 : decode cX6_findIn 37 = .ok (.iload 4, 2) := by decide +kernel
theorem dX6_findIn_39 : decode cX6_findIn 39 = .ok (.iaload, 1) := by decide +kernel
theorem dX6_findIn_40 : decode cX6_findIn 40 = .ok (.invokevirtual 22, 3) := by decide +kernel
theorem dX6_findIn_43 : decode cX6_findIn 43 = .ok (.lstore_n 2, 1) := by decide +kernel
theorem dX6_findIn_44 : decode cX6_findIn 44 = .ok (.iinc 4 1, 3) := by decide +kernel
theorem dX6_findIn_47 : decode cX6_findIn 47 = .ok (.goto (-42), 3) := by decide +kernel
theorem dX6_findIn_50 : decode cX6_findIn 50 = .ok (.lload_n 2, 1) := by decide +kernel
theorem dX6_findIn_51 : decode cX6_findIn 51 = .ok (.lreturn, 1) := by decide +kernel
theorem dX7_init_0 : decode cX7_init 0 = .ok (.aload_n 0, 1) := by decide +kernel
theorem dX7_init_1 : decode cX7_init 1 = .ok (.invokespecial 3, 3) := by decide +kernel
theorem dX7_init_4 : decode cX7_init 4 = .ok (.aload_n 0, 1) := by decide +kernel
theorem dX7_init_5 : decode cX7_init 5 = .ok (.bipush 31, 2) := by decide +kernel
theorem dX7_init_7 : decode cX7_init 7 = .ok (.putfield 9, 3) := by decide +kernel
theorem dX7_init_10 : decode cX7_init 10 = .ok (.aload_n 0, 1) := by decide +kernel
theorem dX7_init_11 : decode cX7_init 11 = .ok (.sipush (-9999), 3) := by decide +kernel
theorem dX7_init_14 : decode cX7_init 14 = .ok (.putfield 15, 3) := by decide +kernel
theorem dX7_init_17 : decode cX7_init 17 = .ok (.aload_n 0, 1) := by decide +kernel
theorem dX7_init_18 : decode cX7_init 18 = .ok (.sipush 9999, 3) := by decide +kernel
theorem dX7_init_21 : decode cX7_init 21 = .ok (.putfield 18, 3) := by decide +kernel
theorem dX7_init_24 : decode cX7_init 24 = .ok (.aload_n 0, 1) := by decide +kernel
theorem dX7_init_25 : decode cX7_init 25 = .ok (.bipush 50, 2) := by decide +kernel
theorem dX7_init_27 : decode cX7_init 27 = .ok (.putfield 21, 3) := by decide +kernel
theorem dX7_init_30 : decode cX7_init 30 = .ok (.aload_n 0, 1) := by decide +kernel
theorem dX7_init_31 : decode cX7_init 31 = .ok (.iconst (-1), 1) := by decide +kernel
theorem dX7_init_32 : decode cX7_init 32 = .ok (.putfield 24, 3) := by decide +kernel
theorem dX7_init_35 : decode cX7_init 35 = .ok (.aload_n 0, 1) := by decide +kernel
theorem dX7_init_36 : decode cX7_init 36 = .ok (.iconst (-1), 1) := by decide +kernel
theorem dX7_init_37 : decode cX7_init 37 = .ok (.putfield 27, 3) := by decide +kernel
theorem dX7_init_40 : decode cX7_init 40 = .ok (.aload_n 0, 1) := by decide +kernel
theorem dX7_init_41 : decode cX7_init 41 = .ok (.iconst 4, 1) := by decide +kernel
theorem dX7_init_42 : decode cX7_init 42 = .ok (.newarray .int, 2) := by decide +kernel
theorem dX7_init_44 : decode cX7_init 44 = .ok (.putfield 30, 3) := by decide +kernel
theorem dX7_init_47 : decode cX7_init 47 = .ok (.aload_n 0, 1) := by decide +kernel
theorem dX7_init_48 : decode cX7_init 48 = .ok (.iconst 4, 1) := by decide +kernel
theorem dX7_init_49 : decode cX7_init 49 = .ok (.newarray .int, 2) := by decide +kernel
theorem dX7_init_51 : decode cX7_init 51 = .ok (.putfield 34, 3) := by decide +kernel
theorem dX7_init_54 : decode cX7_init 54 = .ok (.aload_n 0, 1) := by decide +kernel
theorem dX7_init_55 : decode cX7_init 55 = .ok (.iconst 4, 1) := by decide +kernel
theorem dX7_init_56 : decode cX7_init 56 = .ok (.newarray .boolean, 2) := by decide +kernel
theorem dX7_init_58 : decode cX7_init 58 = .ok (.putfield 37, 3) := by decide +kernel
theorem dX7_init_61 : decode cX7_init 61 = .ok (.return_, 1) := by decide +kernel
theorem dX7_placeOfKey_0 : decode cX7_placeOfKey 0 = .ok (.iconst 0, 1) := by decide +kernel
theorem dX7_placeOfKey_1 : decode cX7_placeOfKey 1 = .ok (.istore_n 2, 1) := by decide +kernel
theorem dX7_placeOfKey_2 : decode cX7_placeOfKey 2 = .ok (.iload_n 2, 1) := by decide +kernel
theorem dX7_placeOfKey_3 : decode cX7_placeOfKey 3 = .ok (.aload_n 0, 1) := by decide +kernel
theorem dX7_placeOfKey_4 : decode cX7_placeOfKey 4 = .ok (.getfield 45, 3) := by decide +kernel
theorem dX7_placeOfKey_7 : decode cX7_placeOfKey 7 = .ok (.if_icmp .ge 30, 3) := by decide +kernel
theorem dX7_placeOfKey_10 : decode cX7_placeOfKey 10 = .ok (.iload_n 2, 1) := by decide +kernel
theorem dX7_placeOfKey_11 : decode cX7_placeOfKey 11 = .ok (.aload_n 0, 1) := by decide +kernel
theorem dX7_placeOfKey_12 : decode cX7_placeOfKey 12 = .ok (.getfield 30, 3) := by decide +kernel
theorem dX7_placeOfKey_15 : decode cX7_placeOfKey 15 = .ok (.arraylength, 1) := by decide +kernel
theorem dX7_placeOfKey_16 : decode cX7_placeOfKey 16 = .ok (.if_icmp .ge 21, 3) := by decide +kernel
theorem dX7_placeOfKey_19 : decode cX7_placeOfKey 19 = .ok (.aload_n 0, 1) := by decide +kernel
theorem dX7_placeOfKey_20 : decode cX7_placeOfKey 20 = .ok (.getfield 30, 3) := by decide +kernel
theorem dX7_placeOfKey_23 : decode cX7_placeOfKey 23 = .ok (.iload_n 2, 1) := by decide +kernel
theorem dX7_placeOfKey_24 : decode cX7_placeOfKey 24 = .ok (.iaload, 1) := by decide +kernel
theorem dX7_placeOfKey_25 : decode cX7_placeOfKey 25 = .ok (.iload_n 1, 1) := by decide +kernel
theorem dX7_placeOfKey_26 : decode cX7_placeOfKey 26 = .ok (.if_icmp .ne 5, 3) := by decide +kernel
theorem dX7_placeOfKey_29 : decode cX7_placeOfKey 29 = .ok (.iload_n 2, 1) := by decide +kernel
theorem dX7_placeOfKey_30 : decode cX7_placeOfKey 30 = .ok (.ireturn, 1) := by decide +kernel
theorem dX7_placeOfKey_31 : decode cX7_placeOfKey 31 = .ok (.iinc 2 1, 3) := by decide +kernel
theorem dX7_placeOfKey_34 : decode cX7_placeOfKey 34 = .ok (.goto (-32), 3) := by decide +kernel
theorem dX7_placeOfKey_37 : decode cX7_placeOfKey 37 = .ok (.iconst (-1), 1) := by decide +kernel
theorem dX7_placeOfKey_38 : decode cX7_placeOfKey 38 = .ok (.ireturn, 1) := by decide +kernel
theorem dX7_forChild_0 : decode cX7_forChild 0 = .ok (.iload_n 1, 1) := by decide +kernel
theorem dX7_forChild_1 : decode cX7_forChild 1 = .ok (.iconst 3, 1) := by decide +kernel
theorem dX7_forChild_2 : decode cX7_forChild 2 = .ok (.if_icmp .ne 8, 3) := by decide +kernel
theorem dX7_forChild_5 : decode cX7_forChild 5 = .ok (.aload_n 0, 1) := by decide +kernel
theorem dX7_forChild_6 : decode cX7_forChild 6 = .ok (.getfield 24, 3) := by decide +kernel
theorem dX7_forChild_9 : decode cX7_forChild 9 = .ok (.ireturn, 1) := by decide +kernel
theorem dX7_forChild_10 : decode cX7_forChild 10 = .ok (.aload_n 0, 1) := by decide +kernel
theorem dX7_forChild_11 : decode cX7_forChild 11 = .ok (.iload_n 2, 1) := by decide +kernel
theorem dX7_forChild_12 : decode cX7_forChild 12 = .ok (.invokevirtual 41, 3) := by decide +kernel
theorem dX7_forChild_15 : decode cX7_forChild 15 = .ok (.istore_n 3, 1) := by decide +kernel
theorem dX7_forChild_16 : decode cX7_forChild 16 = .ok (.iload_n 3, 1) := by decide +kernel
theorem dX7_forChild_17 : decode cX7_forChild 17 = .ok (.ifCond .ge 10, 3) := by decide +kernel
theorem dX7_forChild_20 : decode cX7_forChild 20 = .ok (.aload_n 0, 1) := by decide +kernel
theorem dX7_forChild_21 : decode cX7_forChild 21 = .ok (.getfield 27, 3) := by decide +kernel
theorem dX7_forChild_24 : decode cX7_forChild 24 = .ok (.goto 9, 3) := by decide +kernel
theorem dX7_forChild_27 : decode cX7_forChild 27 = .ok (.aload_n 0, 1) := by decide +kernel
theorem dX7_forChild_28 : decode cX7_forChild 28 = .ok (.getfield 34, 3) := by decide +kernel
theorem dX7_forChild_31 : decode cX7_forChild 31 = .ok (.iload_n 3, 1) := by decide +kernel
theorem dX7_forChild_32 : decode cX7_forChild 32 = .ok (.iaload, 1) := by decide +kernel
theorem dX7_forChild_33 : decode cX7_forChild 33 = .ok (.ireturn, 1) := by decide +kernel
theorem dX7_countMissing_0 : decode cX7_countMissing 0 = .ok (.iconst 0, 1) := by decide +kernel
theorem dX7_countMissing_1 : decode cX7_countMissing 1 = .ok (.istore_n 2, 1) := by decide +kernel
theorem dX7_countMissing_2 : decode cX7_countMissing 2 = .ok (.iconst 0, 1) := by decide +kernel
theorem dX7_countMissing_3 : decode cX7_countMissing 3 = .ok (.istore_n 3, 1) := by decide +kernel
theorem dX7_countMissing_4 : decode cX7_countMissing 4 = .ok (.iload_n 3, 1) := by decide +kernel
theorem dX7_countMissing_5 : decode cX7_countMissing 5 = .ok (.aload_n 0, 1) := by decide +kernel
theorem dX7_countMissing_6 : decode cX7_countMissing 6 = .ok (.getfield 45, 3) := by decide +kernel
theorem dX7_countMissing_9 : decode cX7_countMissing 9 = .ok (.if_icmp .ge 43, 3) := by decide +kernel
theorem dX7_countMissing_12 : decode cX7_countMissing 12 = .ok (.iload_n 3, 1) := by decide +kernel
theorem dX7_countMissing_13 : decode cX7_countMissing 13 = .ok (.aload_n 0, 1) := by decide +kernel
theorem dX7_countMissing_14 : decode cX7_countMissing 14 = .ok (.getfield 30, 3) := by decide +kernel
theorem dX7_countMissing_17 : decode cX7_countMissing 17 = .ok (.arraylength, 1) := by decide +kernel
theorem dX7_countMissing_18 : decode cX7_countMissing 18 = .ok (.if_icmp .ge 34, 3) := by decide +kernel
theorem dX7_countMissing_21 : decode cX7_countMissing 21 = .ok (.aload_n 0, 1) := by decide +kernel
theorem dX7_countMissing_22 : decode cX7_countMissing 22 = .ok (.getfield 37, 3) := by decide +kernel
theorem dX7_countMissing_25 : decode cX7_countMissing 25 = .ok (.iload_n 3, 1) := by decide +kernel
theorem dX7_countMissing_26 : decode cX7_countMissing 26 = .ok (.baload, 1) := by decide +kernel
theorem dX7_countMissing_27 : decode cX7_countMissing 27 = .ok (.ifCond .eq 19, 3) := by decide +kernel
theorem dX7_countMissing_30 : decode cX7_countMissing 30 = .ok (.aload_n 1, 1) := by decide +kernel
theorem dX7_countMissing_31 : decode cX7_countMissing 31 = .ok (.aload_n 0, 1) := by decide +kernel
theorem dX7_countMissing_32 : decode cX7_countMissing 32 = .ok (.getfield 30, 3) := by decide +kernel
theorem dX7_countMissing_35 : decode cX7_countMissing 35 = .ok (.iload_n 3, 1) := by decide +kernel
theorem dX7_countMissing_36 : decode cX7_countMissing 36 = .ok (.iaload, 1) := by decide +kernel
theorem dX7_countMissing_37 : decode cX7_countMissing 37 = .ok (.invokevirtual 51, 3) := by decide +kernel
theorem dX7_countMissing_40 : decode cX7_countMissing 40 = .ok (.ifCond .ge 6, 3) := by decide +kernel
theorem dX7_countMissing_43 : decode cX7_countMissing 43 = .ok (.iinc 2 1, 3) := by decide +kernel
theorem dX7_countMissing_46 : decode cX7_countMissing 46 = .ok (.iinc 3 1, 3) := by decide +kernel
theorem dX7_countMissing_49 : decode cX7_countMissing 49 = .ok (.goto (-45), 3) := by decide +kernel
theorem dX7_countMissing_52 : decode cX7_countMissing 52 = .ok (.iload_n 2, 1) := by decide +kernel
theorem dX7_countMissing_53 : decode cX7_countMissing 53 = .ok (.ireturn, 1) := by decide +kernel
theorem dX8_init_0 : decode cX8_init 0 = .ok (.aload_n 0, 1) := by decide +kernel
theorem dX8_init_1 : decode cX8_init 1 = .ok (.invokespecial 3, 3) := by decide +kernel
theorem dX8_init_4 : decode cX8_init 4 = .ok (.aload_n 0, 1) := by decide +kernel
theorem dX8_init_5 : decode cX8_init 5 = .ok (.iload_n 1, 1) := by decide +kernel
theorem dX8_init_6 : decode cX8_init 6 = .ok (.putfield 9, 3) := by decide +kernel
theorem dX8_init_9 : decode cX8_init 9 = .ok (.aload_n 0, 1) := by decide +kernel
theorem dX8_init_10 : decode cX8_init 10 = .ok (.iload_n 2, 1) := by decide +kernel
theorem dX8_init_11 : decode cX8_init 11 = .ok (.putfield 15, 3) := by decide +kernel
theorem dX8_init_14 : decode cX8_init 14 = .ok (.aload_n 0, 1) := by decide +kernel
theorem dX8_init_15 : decode cX8_init 15 = .ok (.aload_n 3, 1) := by decide +kernel
theorem dX8_init_16 : decode cX8_init 16 = .ok (.putfield 18, 3) := by decide +kernel
theorem dX8_init_19 : decode cX8_init 19 = .ok (.aload_n 0, 1) := by decide +kernel
theorem dX8_init_20 : decode cX8_init 20 = .ok (.aload 4, 2) := by decide +kernel
theorem dX8_init_22 : decode cX8_init 22 = .ok (.putfield 22, 3) := by decide +kernel
theorem dX8_init_25 : decode cX8_init 25 = .ok (.iconst 1, 1) := by decide +kernel
theorem dX8_init_26 : decode cX8_init 26 = .ok (.istore 5, 2) := by decide +kernel
theorem dX8_init_28 : decode cX8_init 28 = .ok (.iconst 0, 1) := by decide +kernel
theorem dX8_init_29 : decode cX8_init 29 = .ok (.istore 6, 2) := by decide +kernel
theorem dX8_init_31 : decode cX8_init 31 = .ok (.aload 4, 2) := by decide +kernel
theorem dX8_init_33 : decode cX8_init 33 = .ok (.ifnull 62, 3) := by decide +kernel
theorem dX8_init_36 : decode cX8_init 36 = .ok (.aload 4, 2) := by decide +kernel
theorem dX8_init_38 : decode cX8_init 38 = .ok (.astore 7, 2) := by decide +kernel
theorem dX8_init_40 : decode cX8_init 40 = .ok (.aload 7, 2) := by decide +kernel
theorem dX8_init_42 : decode cX8_init 42 = .ok (.arraylength, 1) := by decide +kernel
theorem dX8_init_43 : decode cX8_init 43 = .ok (.istore 8, 2) := by decide +kernel
theorem dX8_init_45 : decode cX8_init 45 = .ok (.iconst 0, 1) := by decide +kernel
theorem dX8_init_46 : decode cX8_init 46 = .ok (.istore 9, 2) := by decide +kernel
theorem dX8_init_48 : decode cX8_init 48 = .ok (.iload 9, 2) := by decide +kernel
theorem dX8_init_50 : decode cX8_init 50 = .ok (.iload 8, 2) := by decide +kernel
theorem dX8_init_52 : decode cX8_init 52 = .ok (.if_icmp .ge 43, 3) := by decide +kernel
theorem dX8_init_55 : decode cX8_init 55 = .ok (.aload 7, 2) := by decide +kernel
theorem dX8_init_57 : decode cX8_init 57 = .ok (.iload 9, 2) := by decide +kernel
theorem dX8_init_59 : decode cX8_init 59 = .ok (.aaload, 1) := by decide +kernel
theorem dX8_init_60 : decode cX8_init 60 = .ok (.astore 10, 2) := by decide +kernel
theorem dX8_init_62 : decode cX8_init 62 = .ok (.aload 10, 2) := by decide +kernel
theorem dX8_init_64 : decode cX8_init 64 = .ok (.ifnull 25, 3) := by decide +kernel
theorem dX8_init_67 : decode cX8_init 67 = .ok (.iload 5, 2) := by decide +kernel
theorem dX8_init_69 : decode cX8_init 69 = .ok (.aload 10, 2) := by decide +kernel
theorem dX8_init_71 : decode cX8_init 71 = .ok (.getfield 26, 3) := by decide +kernel
theorem dX8_init_74 : decode cX8_init 74 = .ok (.iadd, 1) := by decide +kernel
theorem dX8_init_75 : decode cX8_init 75 = .ok (.istore 5, 2) := by decide +kernel
theorem dX8_init_77 : decode cX8_init 77 = .ok (.iload 6, 2) := by decide +kernel
theorem dX8_init_79 : decode cX8_init 79 = .ok (.aload 10, 2) := by decide +kernel
theorem dX8_init_81 : decode cX8_init 81 = .ok (.getfield 29, 3) := by decide +kernel
theorem dX8_init_84 : decode cX8_init 84 = .ok (.invokestatic 32, 3) := by decide +kernel
theorem dX8_init_87 : decode cX8_init 87 = .ok (.istore 6, 2) := by decide +kernel
theorem dX8_init_89 : decode cX8_init 89 = .ok (.iinc 9 1, 3) := by decide +kernel
theorem dX8_init_92 : decode cX8_init 92 = .ok (.goto (-44), 3) := by decide +kernel
theorem dX8_init_95 : decode cX8_init 95 = .ok (.aload_n 0, 1) := by decide +kernel
theorem dX8_init_96 : decode cX8_init 96 = .ok (.iload 5, 2) := by decide +kernel
theorem dX8_init_98 : decode cX8_init 98 = .ok (.putfield 26, 3) := by decide +kernel
theorem dX8_init_101 : decode cX8_init 101 = .ok (.aload_n 0, 1) := by decide +kernel
theorem dX8_init_102 : decode cX8_init 102 = .ok (.iload 6, 2) := by decide +kernel
theorem dX8_init_104 : decode cX8_init 104 = .ok (.iconst 1, 1) := by decide +kernel
theorem dX8_init_105 : decode cX8_init 105 = .ok (.iadd, 1) := by decide +kernel
theorem dX8_init_106 : decode cX8_init 106 = .ok (.putfield 29, 3) := by decide +kernel
theorem dX8_init_109 : decode cX8_init 109 = .ok (.return_, 1) := by decide +kernel
theorem dX8_width_0 : decode cX8_width 0 = .ok (.aload_n 0, 1) := by decide +kernel
theorem dX8_width_1 : decode cX8_width 1 = .ok (.getfield 22, 3) := by decide +kernel
theorem dX8_width_4 : decode cX8_width 4 = .ok (.ifnonnull 7, 3) := by decide +kernel
theorem dX8_width_7 : decode cX8_width 7 = .ok (.iconst 0, 1) := by decide +kernel
theorem dX8_width_8 : decode cX8_width 8 = .ok (.goto 8, 3) := by decide +kernel
theorem dX8_width_11 : decode cX8_width 11 = .ok (.aload_n 0, 1) := by decide +kernel
theorem dX8_width_12 : decode cX8_width 12 = .ok (.getfield 22, 3) := by decide +kernel
theorem dX8_width_15 : decode cX8_width 15 = .ok (.arraylength, 1) := by decide +kernel
theorem dX8_width_16 : decode cX8_width 16 = .ok (.ireturn, 1) := by decide +kernel
theorem dX8_partAt_0 : decode cX8_partAt 0 = .ok (.aload_n 0, 1) := by decide +kernel
theorem dX8_partAt_1 : decode cX8_partAt 1 = .ok (.getfield 22, 3) := by decide +kernel
theorem dX8_partAt_4 : decode cX8_partAt 4 = .ok (.ifnull 16, 3) := by decide +kernel
theorem dX8_partAt_7 : decode cX8_partAt 7 = .ok (.iload_n 1, 1) := by decide +kernel
theorem dX8_partAt_8 : decode cX8_partAt 8 = .ok (.ifCond .lt 12, 3) := by decide +kernel
theorem dX8_partAt_11 : decode cX8_partAt 11 = .ok (.iload_n 1, 1) := by decide +kernel
theorem dX8_partAt_12 : decode cX8_partAt 12 = .ok (.aload_n 0, 1) := by decide +kernel
theorem dX8_partAt_13 : decode cX8_partAt 13 = .ok (.getfield 22, 3) := by decide +kernel
theorem dX8_partAt_16 : decode cX8_partAt 16 = .ok (.arraylength, 1) := by decide +kernel
theorem dX8_partAt_17 : decode cX8_partAt 17 = .ok (.if_icmp .lt 5, 3) := by decide +kernel
theorem dX8_partAt_20 : decode cX8_partAt 20 = .ok (.aconst_null, 1) := by decide +kernel
theorem dX8_partAt_21 : decode cX8_partAt 21 = .ok (.areturn, 1) := by decide +kernel
theorem dX8_partAt_22 : decode cX8_partAt 22 = .ok (.aload_n 0, 1) := by decide +kernel
theorem dX8_partAt_23 : decode cX8_partAt 23 = .ok (.getfield 22, 3) := by decide +kernel
theorem dX8_partAt_26 : decode cX8_partAt 26 = .ok (.iload_n 1, 1) := by decide +kernel
theorem dX8_partAt_27 : decode cX8_partAt 27 = .ok (.aaload, 1) := by decide +kernel
theorem dX8_partAt_28 : decode cX8_partAt 28 = .ok (.areturn, 1) := by decide +kernel
theorem dX8_stepOf_0 : decode cX8_stepOf 0 = .ok (.aload_n 0, 1) := by decide +kernel
theorem dX8_stepOf_1 : decode cX8_stepOf 1 = .ok (.getfield 18, 3) := by decide +kernel
theorem dX8_stepOf_4 : decode cX8_stepOf 4 = .ok (.ifnull 16, 3) := by decide +kernel
theorem dX8_stepOf_7 : decode cX8_stepOf 7 = .ok (.iload_n 1, 1) := by decide +kernel
theorem dX8_stepOf_8 : decode cX8_stepOf 8 = .ok (.ifCond .lt 12, 3) := by decide +kernel
theorem dX8_stepOf_11 : decode cX8_stepOf 11 = .ok (.iload_n 1, 1) := by decide +kernel
theorem dX8_stepOf_12 : decode cX8_stepOf 12 = .ok (.aload_n 0, 1) := by decide +kernel
theorem dX8_stepOf_13 : decode cX8_stepOf 13 = .ok (.getfield 18, 3) := by decide +kernel
theorem dX8_stepOf_16 : decode cX8_stepOf 16 = .ok (.arraylength, 1) := by decide +kernel
theorem dX8_stepOf_17 : decode cX8_stepOf 17 = .ok (.if_icmp .lt 5, 3) := by decide +kernel
theorem dX8_stepOf_20 : decode cX8_stepOf 20 = .ok (.iload_n 1, 1) := by decide +kernel
theorem dX8_stepOf_21 : decode cX8_stepOf 21 = .ok (.ireturn, 1) := by decide +kernel
theorem dX8_stepOf_22 : decode cX8_stepOf 22 = .ok (.aload_n 0, 1) := by decide +kernel
theorem dX8_stepOf_23 : decode cX8_stepOf 23 = .ok (.getfield 18, 3) := by decide +kernel
theorem dX8_stepOf_26 : decode cX8_stepOf 26 = .ok (.iload_n 1, 1) := by decide +kernel
theorem dX8_stepOf_27 : decode cX8_stepOf 27 = .ok (.iaload, 1) := by decide +kernel
theorem dX8_stepOf_28 : decode cX8_stepOf 28 = .ok (.ireturn, 1) := by decide +kernel
theorem dX8_placeOf_0 : decode cX8_placeOf 0 = .ok (.aload_n 0, 1) := by decide +kernel
theorem dX8_placeOf_1 : decode cX8_placeOf 1 = .ok (.getfield 9, 3) := by decide +kernel
theorem dX8_placeOf_4 : decode cX8_placeOf 4 = .ok (.iconst 4, 1) := by decide +kernel
theorem dX8_placeOf_5 : decode cX8_placeOf 5 = .ok (.if_icmp .eq 29, 3) := by decide +kernel
theorem dX8_placeOf_8 : decode cX8_placeOf 8 = .ok (.aload_n 0, 1) := by decide +kernel
theorem dX8_placeOf_9 : decode cX8_placeOf 9 = .ok (.getfield 22, 3) := by decide +kernel
theorem dX8_placeOf_12 : decode cX8_placeOf 12 = .ok (.ifnull 20, 3) := by decide +kernel
theorem dX8_placeOf_15 : decode cX8_placeOf 15 = .ok (.iload_n 1, 1) := by decide +kernel
theorem dX8_placeOf_16 : decode cX8_placeOf 16 = .ok (.ifCond .lt 16, 3) := by decide +kernel
theorem dX8_placeOf_19 : decode cX8_placeOf 19 = .ok (.iload_n 1, 1) := by decide +kernel
theorem dX8_placeOf_20 : decode cX8_placeOf 20 = .ok (.aload_n 0, 1) := by decide +kernel
theorem dX8_placeOf_21 : decode cX8_placeOf 21 = .ok (.getfield 22, 3) := by decide +kernel
theorem dX8_placeOf_24 : decode cX8_placeOf 24 = .ok (.arraylength, 1) := by decide +kernel
theorem dX8_placeOf_25 : decode cX8_placeOf 25 = .ok (.if_icmp .ge 7, 3) := by decide +kernel
theorem dX8_placeOf_28 : decode cX8_placeOf 28 = .ok (.iload_n 1, 1) := by decide +kernel
theorem dX8_placeOf_29 : decode cX8_placeOf 29 = .ok (.goto 4, 3) := by decide +kernel
theorem dX8_placeOf_32 : decode cX8_placeOf 32 = .ok (.iconst (-1), 1) := by decide +kernel
theorem dX8_placeOf_33 : decode cX8_placeOf 33 = .ok (.ireturn, 1) := by decide +kernel
theorem dX8_placeOf_34 : decode cX8_placeOf 34 = .ok (.iconst 0, 1) := by decide +kernel
theorem dX8_placeOf_35 : decode cX8_placeOf 35 = .ok (.istore_n 2, 1) := by decide +kernel
theorem dX8_placeOf_36 : decode cX8_placeOf 36 = .ok (.aload_n 0, 1) := by decide +kernel
theorem dX8_placeOf_37 : decode cX8_placeOf 37 = .ok (.getfield 18, 3) := by decide +kernel
theorem dX8_placeOf_40 : decode cX8_placeOf 40 = .ok (.ifnull 30, 3) := by decide +kernel
theorem dX8_placeOf_43 : decode cX8_placeOf 43 = .ok (.iload_n 2, 1) := by decide +kernel
theorem dX8_placeOf_44 : decode cX8_placeOf 44 = .ok (.aload_n 0, 1) := by decide +kernel
theorem dX8_placeOf_45 : decode cX8_placeOf 45 = .ok (.getfield 18, 3) := by decide +kernel
theorem dX8_placeOf_48 : decode cX8_placeOf 48 = .ok (.arraylength, 1) := by decide +kernel
theorem dX8_placeOf_49 : decode cX8_placeOf 49 = .ok (.if_icmp .ge 21, 3) := by decide +kernel
theorem dX8_placeOf_52 : decode cX8_placeOf 52 = .ok (.aload_n 0, 1) := by decide +kernel
theorem dX8_placeOf_53 : decode cX8_placeOf 53 = .ok (.getfield 18, 3) := by decide +kernel
theorem dX8_placeOf_56 : decode cX8_placeOf 56 = .ok (.iload_n 2, 1) := by decide +kernel
theorem dX8_placeOf_57 : decode cX8_placeOf 57 = .ok (.iaload, 1) := by decide +kernel
theorem dX8_placeOf_58 : decode cX8_placeOf 58 = .ok (.iload_n 1, 1) := by decide +kernel
theorem dX8_placeOf_59 : decode cX8_placeOf 59 = .ok (.if_icmp .ne 5, 3) := by decide +kernel
theorem dX8_placeOf_62 : decode cX8_placeOf 62 = .ok (.iload_n 2, 1) := by decide +kernel
theorem dX8_placeOf_63 : decode cX8_placeOf 63 = .ok (.ireturn, 1) := by decide +kernel
theorem dX8_placeOf_64 : decode cX8_placeOf 64 = .ok (.iinc 2 1, 3) := by decide +kernel
theorem dX8_placeOf_67 : decode cX8_placeOf 67 = .ok (.goto (-31), 3) := by decide +kernel
theorem dX8_placeOf_70 : decode cX8_placeOf 70 = .ok (.iconst (-1), 1) := by decide +kernel
theorem dX8_placeOf_71 : decode cX8_placeOf 71 = .ok (.ireturn, 1) := by decide +kernel
theorem dX8_placeToAdd_0 : decode cX8_placeToAdd 0 = .ok (.aload_n 0, 1) := by decide +kernel
theorem dX8_placeToAdd_1 : decode cX8_placeToAdd 1 = .ok (.getfield 9, 3) := by decide +kernel
theorem dX8_placeToAdd_4 : decode cX8_placeToAdd 4 = .ok (.iconst 3, 1) := by decide +kernel
theorem dX8_placeToAdd_5 : decode cX8_placeToAdd 5 = .ok (.if_icmp .ne 21, 3) := by decide +kernel
theorem dX8_placeToAdd_8 : decode cX8_placeToAdd 8 = .ok (.iload_n 1, 1) := by decide +kernel
theorem dX8_placeToAdd_9 : decode cX8_placeToAdd 9 = .ok (.ifCond .lt 15, 3) := by decide +kernel
theorem dX8_placeToAdd_12 : decode cX8_placeToAdd 12 = .ok (.iload_n 1, 1) := by decide +kernel
theorem dX8_placeToAdd_13 : decode cX8_placeToAdd 13 = .ok (.aload_n 0, 1) := by decide +kernel
theorem dX8_placeToAdd_14 : decode cX8_placeToAdd 14 = .ok (.invokevirtual 38, 3) := by decide +kernel
theorem dX8_placeToAdd_17 : decode cX8_placeToAdd 17 = .ok (.if_icmp .gt 7, 3) := by decide +kernel
theorem dX8_placeToAdd_20 : decode cX8_placeToAdd 20 = .ok (.iload_n 1, 1) := by decide +kernel
theorem dX8_placeToAdd_21 : decode cX8_placeToAdd 21 = .ok (.goto 4, 3) := by decide +kernel
theorem dX8_placeToAdd_24 : decode cX8_placeToAdd 24 = .ok (.iconst (-1), 1) := by decide +kernel
theorem dX8_placeToAdd_25 : decode cX8_placeToAdd 25 = .ok (.ireturn, 1) := by decide +kernel
theorem dX8_placeToAdd_26 : decode cX8_placeToAdd 26 = .ok (.aload_n 0, 1) := by decide +kernel
theorem dX8_placeToAdd_27 : decode cX8_placeToAdd 27 = .ok (.getfield 9, 3) := by decide +kernel
theorem dX8_placeToAdd_30 : decode cX8_placeToAdd 30 = .ok (.iconst 4, 1) := by decide +kernel
theorem dX8_placeToAdd_31 : decode cX8_placeToAdd 31 = .ok (.if_icmp .ne 21, 3) := by decide +kernel
theorem dX8_placeToAdd_34 : decode cX8_placeToAdd 34 = .ok (.iload_n 1, 1) := by decide +kernel
theorem dX8_placeToAdd_35 : decode cX8_placeToAdd 35 = .ok (.ifCond .lt 17, 3) := by decide +kernel
theorem dX8_placeToAdd_38 : decode cX8_placeToAdd 38 = .ok (.iload_n 1, 1) := by decide +kernel
theorem dX8_placeToAdd_39 : decode cX8_placeToAdd 39 = .ok (.bipush 99, 2) := by decide +kernel
theorem dX8_placeToAdd_41 : decode cX8_placeToAdd 41 = .ok (.if_icmp .gt 11, 3) := by decide +kernel
theorem dX8_placeToAdd_44 : decode cX8_placeToAdd 44 = .ok (.aload_n 0, 1) := by decide +kernel
theorem dX8_placeToAdd_45 : decode cX8_placeToAdd 45 = .ok (.iload_n 1, 1) := by decide +kernel
theorem dX8_placeToAdd_46 : decode cX8_placeToAdd 46 = .ok (.invokevirtual 42, 3) := by decide +kernel
theorem dX8_placeToAdd_49 : decode cX8_placeToAdd 49 = .ok (.ifCond .lt 5, 3) := by decide +kernel
theorem dX8_placeToAdd_52 : decode cX8_placeToAdd 52 = .ok (.iconst (-1), 1) := by decide +kernel
theorem dX8_placeToAdd_53 : decode cX8_placeToAdd 53 = .ok (.ireturn, 1) := by decide +kernel
theorem dX8_placeToAdd_54 : decode cX8_placeToAdd 54 = .ok (.iconst 0, 1) := by decide +kernel
theorem dX8_placeToAdd_55 : decode cX8_placeToAdd 55 = .ok (.istore_n 2, 1) := by decide +kernel
theorem dX8_placeToAdd_56 : decode cX8_placeToAdd 56 = .ok (.aload_n 0, 1) := by decide +kernel
theorem dX8_placeToAdd_57 : decode cX8_placeToAdd 57 = .ok (.getfield 18, 3) := by decide +kernel
theorem dX8_placeToAdd_60 : decode cX8_placeToAdd 60 = .ok (.ifnull 28, 3) := by decide +kernel
theorem dX8_placeToAdd_63 : decode cX8_placeToAdd 63 = .ok (.iload_n 2, 1) := by decide +kernel
theorem dX8_placeToAdd_64 : decode cX8_placeToAdd 64 = .ok (.aload_n 0, 1) := by decide +kernel
theorem dX8_placeToAdd_65 : decode cX8_placeToAdd 65 = .ok (.getfield 18, 3) := by decide +kernel
theorem dX8_placeToAdd_68 : decode cX8_placeToAdd 68 = .ok (.arraylength, 1) := by decide +kernel
theorem dX8_placeToAdd_69 : decode cX8_placeToAdd 69 = .ok (.if_icmp .ge 19, 3) := by decide +kernel
theorem dX8_placeToAdd_72 : decode cX8_placeToAdd 72 = .ok (.aload_n 0, 1) := by decide +kernel
theorem dX8_placeToAdd_73 : decode cX8_placeToAdd 73 = .ok (.getfield 18, 3) := by decide +kernel
theorem dX8_placeToAdd_76 : decode cX8_placeToAdd 76 = .ok (.iload_n 2, 1) := by decide +kernel
theorem dX8_placeToAdd_77 : decode cX8_placeToAdd 77 = .ok (.iaload, 1) := by decide +kernel
theorem dX8_placeToAdd_78 : decode cX8_placeToAdd 78 = .ok (.iload_n 1, 1) := by decide +kernel
theorem dX8_placeToAdd_79 : decode cX8_placeToAdd 79 = .ok (.if_icmp .ge 9, 3) := by decide +kernel
theorem dX8_placeToAdd_82 : decode cX8_placeToAdd 82 = .ok (.iinc 2 1, 3) := by decide +kernel
theorem dX8_placeToAdd_85 : decode cX8_placeToAdd 85 = .ok (.goto (-29), 3) := by decide +kernel
theorem dX8_placeToAdd_88 : decode cX8_placeToAdd 88 = .ok (.iload_n 2, 1) := by decide +kernel
theorem dX8_placeToAdd_89 : decode cX8_placeToAdd 89 = .ok (.ireturn, 1) := by decide +kernel
theorem dX8_below_0 : decode cX8_below 0 = .ok (.aload_n 0, 1) := by decide +kernel
theorem dX8_below_1 : decode cX8_below 1 = .ok (.astore_n 3, 1) := by decide +kernel
theorem dX8_below_2 : decode cX8_below 2 = .ok (.iconst 0, 1) := by decide +kernel
theorem dX8_below_3 : decode cX8_below 3 = .ok (.istore 4, 2) := by decide +kernel
theorem dX8_below_5 : decode cX8_below 5 = .ok (.iload 4, 2) := by decide +kernel
theorem dX8_below_7 : decode cX8_below 7 = .ok (.iload_n 2, 1) := by decide +kernel
theorem dX8_below_8 : decode cX8_below 8 = .ok (.if_icmp .ge 33, 3) := by decide +kernel
theorem dX8_below_11 : decode cX8_below 11 = .ok (.iload 4, 2) := by decide +kernel
theorem dX8_below_13 : decode cX8_below 13 = .ok (.aload_n 1, 1) := by decide +kernel
theorem dX8_below_14 : decode cX8_below 14 = .ok (.arraylength, 1) := by decide +kernel
theorem dX8_below_15 : decode cX8_below 15 = .ok (.if_icmp .ge 26, 3) := by decide +kernel
theorem dX8_below_18 : decode cX8_below 18 = .ok (.aload_n 3, 1) := by decide +kernel
theorem dX8_below_19 : decode cX8_below 19 = .ok (.ifnull 22, 3) := by decide +kernel
theorem dX8_below_22 : decode cX8_below 22 = .ok (.aload_n 3, 1) := by decide +kernel
theorem dX8_below_23 : decode cX8_below 23 = .ok (.aload_n 3, 1) := by decide +kernel
theorem dX8_below_24 : decode cX8_below 24 = .ok (.aload_n 1, 1) := by decide +kernel
theorem dX8_below_25 : decode cX8_below 25 = .ok (.iload 4, 2) := by decide +kernel
theorem dX8_below_27 : decode cX8_below 27 = .ok (.iaload, 1) := by decide +kernel
theorem dX8_below_28 : decode cX8_below 28 = .ok (.invokevirtual 42, 3) := by decide +kernel
theorem dX8_below_31 : decode cX8_below 31 = .ok (.invokevirtual 46, 3) := by decide +kernel
theorem dX8_below_34 : decode cX8_below 34 = .ok (.astore_n 3, 1) := by decide +kernel
theorem dX8_below_35 : decode cX8_below 35 = .ok (.iinc 4 1, 3) := by decide +kernel
theorem dX8_below_38 : decode cX8_below 38 = .ok (.goto (-33), 3) := by decide +kernel
theorem dX8_below_41 : decode cX8_below 41 = .ok (.aload_n 3, 1) := by decide +kernel
theorem dX8_below_42 : decode cX8_below 42 = .ok (.areturn, 1) := by decide +kernel
theorem dX8_withPart_0 : decode cX8_withPart 0 = .ok (.aload_n 0, 1) := by decide +kernel
theorem dX8_withPart_1 : decode cX8_withPart 1 = .ok (.invokevirtual 38, 3) := by decide +kernel
theorem dX8_withPart_4 : decode cX8_withPart 4 = .ok (.istore_n 3, 1) := by decide +kernel
theorem dX8_withPart_5 : decode cX8_withPart 5 = .ok (.iload_n 3, 1) := by decide +kernel
theorem dX8_withPart_6 : decode cX8_withPart 6 = .ok (.anewarray 10, 3) := by decide +kernel
theorem dX8_withPart_9 : decode cX8_withPart 9 = .ok (.astore 4, 2) := by decide +kernel
theorem dX8_withPart_11 : decode cX8_withPart 11 = .ok (.iconst 0, 1) := by decide +kernel
theorem dX8_withPart_12 : decode cX8_withPart 12 = .ok (.istore 5, 2) := by decide +kernel
theorem dX8_withPart_14 : decode cX8_withPart 14 = .ok (.iload 5, 2) := by decide +kernel
theorem dX8_withPart_16 : decode cX8_withPart 16 = .ok (.iload_n 3, 1) := by decide +kernel
theorem dX8_withPart_17 : decode cX8_withPart 17 = .ok (.if_icmp .ge 30, 3) := by decide +kernel
theorem dX8_withPart_20 : decode cX8_withPart 20 = .ok (.aload 4, 2) := by decide +kernel
theorem dX8_withPart_22 : decode cX8_withPart 22 = .ok (.iload 5, 2) := by decide +kernel
theorem dX8_withPart_24 : decode cX8_withPart 24 = .ok (.iload 5, 2) := by decide +kernel
theorem dX8_withPart_26 : decode cX8_withPart 26 = .ok (.iload_n 1, 1) := by decide +kernel
theorem dX8_withPart_27 : decode cX8_withPart 27 = .ok (.if_icmp .ne 7, 3) := by decide +kernel
theorem dX8_withPart_30 : decode cX8_withPart 30 = .ok (.aload_n 2, 1) := by decide +kernel
theorem dX8_withPart_31 : decode cX8_withPart 31 = .ok (.goto 9, 3) := by decide +kernel
theorem dX8_withPart_34 : decode cX8_withPart 34 = .ok (.aload_n 0, 1) := by decide +kernel
theorem dX8_withPart_35 : decode cX8_withPart 35 = .ok (.iload 5, 2) := by decide +kernel
theorem dX8_withPart_37 : decode cX8_withPart 37 = .ok (.invokevirtual 46, 3) := by decide +kernel
theorem dX8_withPart_40 : decode cX8_withPart 40 = .ok (.aastore, 1) := by decide +kernel
theorem dX8_withPart_41 : decode cX8_withPart 41 = .ok (.iinc 5 1, 3) := by decide +kernel
theorem dX8_withPart_44 : decode cX8_withPart 44 = .ok (.goto (-30), 3) := by decide +kernel
theorem dX8_withPart_47 : decode cX8_withPart 47 = .ok (.new 10, 3) := by decide +kernel
theorem dX8_withPart_50 : decode cX8_withPart 50 = .ok (.dup, 1) := by decide +kernel
theorem dX8_withPart_51 : decode cX8_withPart 51 = .ok (.aload_n 0, 1) := by decide +kernel
theorem dX8_withPart_52 : decode cX8_withPart 52 = .ok (.getfield 9, 3) := by decide +kernel
theorem dX8_withPart_55 : decode cX8_withPart 55 = .ok (.aload_n 0, 1) := by decide +kernel
theorem dX8_withPart_56 : decode cX8_withPart 56 = .ok (.getfield 15, 3) := by decide +kernel
theorem dX8_withPart_59 : decode cX8_withPart 59 = .ok (.aload_n 0, 1) := by decide +kernel
theorem dX8_withPart_60 : decode cX8_withPart 60 = .ok (.getfield 18, 3) := by decide +kernel
theorem dX8_withPart_63 : decode cX8_withPart 63 = .ok (.aload 4, 2) := by decide +kernel
theorem dX8_withPart_65 : decode cX8_withPart 65 = .ok (.invokespecial 50, 3) := by decide +kernel
theorem dX8_withPart_68 : decode cX8_withPart 68 = .ok (.areturn, 1) := by decide +kernel
theorem dX8_withAdded_0 : decode cX8_withAdded 0 = .ok (.aload_n 0, 1) := by decide +kernel
theorem dX8_withAdded_1 : decode cX8_withAdded 1 = .ok (.invokevirtual 38, 3) := by decide +kernel
theorem dX8_withAdded_4 : decode cX8_withAdded 4 = .ok (.istore 4, 2) := by decide +kernel
theorem dX8_withAdded_6 : decode cX8_withAdded 6 = .ok (.iload 4, 2) := by decide +kernel
theorem dX8_withAdded_8 : decode cX8_withAdded 8 = .ok (.iconst 1, 1) := by decide +kernel
theorem dX8_withAdded_9 : decode cX8_withAdded 9 = .ok (.iadd, 1) := by decide +kernel
theorem dX8_withAdded_10 : decode cX8_withAdded 10 = .ok (.anewarray 10, 3) := by decide +kernel
theorem dX8_withAdded_13 : decode cX8_withAdded 13 = .ok (.astore 5, 2) := by decide +kernel
theorem dX8_withAdded_15 : decode cX8_withAdded 15 = .ok (.aload_n 0, 1) := by decide +kernel
theorem dX8_withAdded_16 : decode cX8_withAdded 16 = .ok (.getfield 9, 3) := by decide +kernel
theorem dX8_withAdded_19 : decode cX8_withAdded 19 = .ok (.iconst 4, 1) := by decide +kernel
theorem dX8_withAdded_20 : decode cX8_withAdded 20 = .ok (.if_icmp .ne 12, 3) := by decide +kernel
theorem dX8_withAdded_23 : decode cX8_withAdded 23 = .ok (.iload 4, 2) := by decide +kernel
theorem dX8_withAdded_25 : decode cX8_withAdded 25 = .ok (.iconst 1, 1) := by decide +kernel
theorem dX8_withAdded_26 : decode cX8_withAdded 26 = .ok (.iadd, 1) := by decide +kernel
theorem dX8_withAdded_27 : decode cX8_withAdded 27 = .ok (.newarray .int, 2) := by decide +kernel
theorem dX8_withAdded_29 : decode cX8_withAdded 29 = .ok (.goto 4, 3) := by decide +kernel
theorem dX8_withAdded_32 : decode cX8_withAdded 32 = .ok (.aconst_null, 1) := by decide +kernel
theorem dX8_withAdded_33 : decode cX8_withAdded 33 = .ok (.astore 6, 2) := by decide +kernel
theorem dX8_withAdded_35 : decode cX8_withAdded 35 = .ok (.iconst 0, 1) := by decide +kernel
theorem dX8_withAdded_36 : decode cX8_withAdded 36 = .ok (.istore 7, 2) := by decide +kernel
theorem dX8_withAdded_38 : decode cX8_withAdded 38 = .ok (.iload 7, 2) := by decide +kernel
theorem dX8_withAdded_40 : decode cX8_withAdded 40 = .ok (.iload 4, 2) := by decide +kernel
theorem dX8_withAdded_42 : decode cX8_withAdded 42 = .ok (.if_icmp .gt 73, 3) := by decide +kernel
theorem dX8_withAdded_45 : decode cX8_withAdded 45 = .ok (.iload 7, 2) := by decide +kernel
theorem dX8_withAdded_47 : decode cX8_withAdded 47 = .ok (.iload_n 1, 1) := by decide +kernel
theorem dX8_withAdded_48 : decode cX8_withAdded 48 = .ok (.if_icmp .ge 8, 3) := by decide +kernel
theorem dX8_withAdded_51 : decode cX8_withAdded 51 = .ok (.iload 7, 2) := by decide +kernel
theorem dX8_withAdded_53 : decode cX8_withAdded 53 = .ok (.goto 7, 3) := by decide +kernel
theorem dX8_withAdded_56 : decode cX8_withAdded 56 = .ok (.iload 7, 2) := by decide +kernel
theorem dX8_withAdded_58 : decode cX8_withAdded 58 = .ok (.iconst 1, 1) := by decide +kernel
theorem dX8_withAdded_59 : decode cX8_withAdded 59 = .ok (.isub, 1) := by decide +kernel
theorem dX8_withAdded_60 : decode cX8_withAdded 60 = .ok (.istore 8, 2) := by decide +kernel
theorem dX8_withAdded_62 : decode cX8_withAdded 62 = .ok (.aload 5, 2) := by decide +kernel
theorem dX8_withAdded_64 : decode cX8_withAdded 64 = .ok (.iload 7, 2) := by decide +kernel
theorem dX8_withAdded_66 : decode cX8_withAdded 66 = .ok (.iload 7, 2) := by decide +kernel
theorem dX8_withAdded_68 : decode cX8_withAdded 68 = .ok (.iload_n 1, 1) := by decide +kernel
theorem dX8_withAdded_69 : decode cX8_withAdded 69 = .ok (.if_icmp .ne 7, 3) := by decide +kernel
theorem dX8_withAdded_72 : decode cX8_withAdded 72 = .ok (.aload_n 3, 1) := by decide +kernel
theorem dX8_withAdded_73 : decode cX8_withAdded 73 = .ok (.goto 9, 3) := by decide +kernel
theorem dX8_withAdded_76 : decode cX8_withAdded 76 = .ok (.aload_n 0, 1) := by decide +kernel
theorem dX8_withAdded_77 : decode cX8_withAdded 77 = .ok (.iload 8, 2) := by decide +kernel
theorem dX8_withAdded_79 : decode cX8_withAdded 79 = .ok (.invokevirtual 46, 3) := by decide +kernel
theorem dX8_withAdded_82 : decode cX8_withAdded 82 = .ok (.aastore, 1) := by decide +kernel
theorem dX8_withAdded_83 : decode cX8_withAdded 83 = .ok (.aload 6, 2) := by decide +kernel
theorem dX8_withAdded_85 : decode cX8_withAdded 85 = .ok (.ifnull 24, 3) := by decide +kernel
theorem dX8_withAdded_88 : decode cX8_withAdded 88 = .ok (.aload 6, 2) := by decide +kernel
theorem dX8_withAdded_90 : decode cX8_withAdded 90 = .ok (.iload 7, 2) := by decide +kernel
theorem dX8_withAdded_92 : decode cX8_withAdded 92 = .ok (.iload 7, 2) := by decide +kernel
theorem dX8_withAdded_94 : decode cX8_withAdded 94 = .ok (.iload_n 1, 1) := by decide +kernel
theorem dX8_withAdded_95 : decode cX8_withAdded 95 = .ok (.if_icmp .ne 7, 3) := by decide +kernel
theorem dX8_withAdded_98 : decode cX8_withAdded 98 = .ok (.iload_n 2, 1) := by decide +kernel
theorem dX8_withAdded_99 : decode cX8_withAdded 99 = .ok (.goto 9, 3) := by decide +kernel
theorem dX8_withAdded_102 : decode cX8_withAdded 102 = .ok (.aload_n 0, 1) := by decide +kernel
theorem dX8_withAdded_103 : decode cX8_withAdded 103 = .ok (.iload 8, 2) := by decide +kernel
theorem dX8_withAdded_105 : decode cX8_withAdded 105 = .ok (.invokevirtual 53, 3) := by decide +kernel
theorem dX8_withAdded_108 : decode cX8_withAdded 108 = .ok (.iastore, 1) := by decide +kernel
theorem dX8_withAdded_109 : decode cX8_withAdded 109 = .ok (.iinc 7 1, 3) := by decide +kernel
theorem dX8_withAdded_112 : decode cX8_withAdded 112 = .ok (.goto (-74), 3) := by decide +kernel
theorem dX8_withAdded_115 : decode cX8_withAdded 115 = .ok (.new 10, 3) := by decide +kernel
theorem dX8_withAdded_118 : decode cX8_withAdded 118 = .ok (.dup, 1) := by decide +kernel
theorem dX8_withAdded_119 : decode cX8_withAdded 119 = .ok (.aload_n 0, 1) := by decide +kernel
theorem dX8_withAdded_120 : decode cX8_withAdded 120 = .ok (.getfield 9, 3) := by decide +kernel
theorem dX8_withAdded_123 : decode cX8_withAdded 123 = .ok (.aload_n 0, 1) := by decide +kernel
theorem dX8_withAdded_124 : decode cX8_withAdded 124 = .ok (.getfield 15, 3) := by decide +kernel
theorem dX8_withAdded_127 : decode cX8_withAdded 127 = .ok (.aload 6, 2) := by decide +kernel
theorem dX8_withAdded_129 : decode cX8_withAdded 129 = .ok (.aload 5, 2) := by decide +kernel
theorem dX8_withAdded_131 : decode cX8_withAdded 131 = .ok (.invokespecial 50, 3) := by decide +kernel
theorem dX8_withAdded_134 : decode cX8_withAdded 134 = .ok (.areturn, 1) := by decide +kernel
theorem dX8_withoutPart_0 : decode cX8_withoutPart 0 = .ok (.aload_n 0, 1) := by decide +kernel
theorem dX8_withoutPart_1 : decode cX8_withoutPart 1 = .ok (.invokevirtual 38, 3) := by decide +kernel
theorem dX8_withoutPart_4 : decode cX8_withoutPart 4 = .ok (.iconst 1, 1) := by decide +kernel
theorem dX8_withoutPart_5 : decode cX8_withoutPart 5 = .ok (.isub, 1) := by decide +kernel
theorem dX8_withoutPart_6 : decode cX8_withoutPart 6 = .ok (.istore_n 2, 1) := by decide +kernel
theorem dX8_withoutPart_7 : decode cX8_withoutPart 7 = .ok (.iload_n 2, 1) := by decide +kernel
theorem dX8_withoutPart_8 : decode cX8_withoutPart 8 = .ok (.ifCond .gt 21, 3) := by decide +kernel
theorem dX8_withoutPart_11 : decode cX8_withoutPart 11 = .ok (.new 10, 3) := by decide +kernel
theorem dX8_withoutPart_14 : decode cX8_withoutPart 14 = .ok (.dup, 1) := by decide +kernel
theorem dX8_withoutPart_15 : decode cX8_withoutPart 15 = .ok (.aload_n 0, 1) := by decide +kernel
theorem dX8_withoutPart_16 : decode cX8_withoutPart 16 = .ok (.getfield 9, 3) := by decide +kernel
theorem dX8_withoutPart_19 : decode cX8_withoutPart 19 = .ok (.aload_n 0, 1) := by decide +kernel
theorem dX8_withoutPart_20 : decode cX8_withoutPart 20 = .ok (.getfield 15, 3) := by decide +kernel
theorem dX8_withoutPart_23 : decode cX8_withoutPart 23 = .ok (.aconst_null, 1) := by decide +kernel
theorem dX8_withoutPart_24 : decode cX8_withoutPart 24 = .ok (.aconst_null, 1) := by decide +kernel
theorem dX8_withoutPart_25 : decode cX8_withoutPart 25 = .ok (.invokespecial 50, 3) := by decide +kernel
theorem dX8_withoutPart_28 : decode cX8_withoutPart 28 = .ok (.areturn, 1) := by decide +kernel
theorem dX8_withoutPart_29 : decode cX8_withoutPart 29 = .ok (.iload_n 2, 1) := by decide +kernel
theorem dX8_withoutPart_30 : decode cX8_withoutPart 30 = .ok (.anewarray 10, 3) := by decide +kernel
theorem dX8_withoutPart_33 : decode cX8_withoutPart 33 = .ok (.astore_n 3, 1) := by decide +kernel
theorem dX8_withoutPart_34 : decode cX8_withoutPart 34 = .ok (.aload_n 0, 1) := by decide +kernel
theorem dX8_withoutPart_35 : decode cX8_withoutPart 35 = .ok (.getfield 9, 3) := by decide +kernel
theorem dX8_withoutPart_38 : decode cX8_withoutPart 38 = .ok (.iconst 4, 1) := by decide +kernel
theorem dX8_withoutPart_39 : decode cX8_withoutPart 39 = .ok (.if_icmp .ne 9, 3) := by decide +kernel
theorem dX8_withoutPart_42 : decode cX8_withoutPart 42 = .ok (.iload_n 2, 1) := by decide +kernel
theorem dX8_withoutPart_43 : decode cX8_withoutPart 43 = .ok (.newarray .int, 2) := by decide +kernel
theorem dX8_withoutPart_45 : decode cX8_withoutPart 45 = .ok (.goto 4, 3) := by decide +kernel
theorem dX8_withoutPart_48 : decode cX8_withoutPart 48 = .ok (.aconst_null, 1) := by decide +kernel
theorem dX8_withoutPart_49 : decode cX8_withoutPart 49 = .ok (.astore 4, 2) := by decide +kernel
theorem dX8_withoutPart_51 : decode cX8_withoutPart 51 = .ok (.iconst 0, 1) := by decide +kernel
theorem dX8_withoutPart_52 : decode cX8_withoutPart 52 = .ok (.istore 5, 2) := by decide +kernel
theorem dX8_withoutPart_54 : decode cX8_withoutPart 54 = .ok (.iload 5, 2) := by decide +kernel
theorem dX8_withoutPart_56 : decode cX8_withoutPart 56 = .ok (.iload_n 2, 1) := by decide +kernel
theorem dX8_withoutPart_57 : decode cX8_withoutPart 57 = .ok (.if_icmp .ge 52, 3) := by decide +kernel
theorem dX8_withoutPart_60 : decode cX8_withoutPart 60 = .ok (.iload 5, 2) := by decide +kernel
theorem dX8_withoutPart_62 : decode cX8_withoutPart 62 = .ok (.iload_n 1, 1) := by decide +kernel
theorem dX8_withoutPart_63 : decode cX8_withoutPart 63 = .ok (.if_icmp .ge 8, 3) := by decide +kernel
theorem dX8_withoutPart_66 : decode cX8_withoutPart 66 = .ok (.iload 5, 2) := by decide +kernel
theorem dX8_withoutPart_68 : decode cX8_withoutPart 68 = .ok (.goto 7, 3) := by decide +kernel
theorem dX8_withoutPart_71 : decode cX8_withoutPart 71 = .ok (.iload 5, 2) := by decide +kernel
theorem dX8_withoutPart_73 : decode cX8_withoutPart 73 = .ok (.iconst 1, 1) := by decide +kernel
theorem dX8_withoutPart_74 : decode cX8_withoutPart 74 = .ok (.iadd, 1) := by decide +kernel
theorem dX8_withoutPart_75 : decode cX8_withoutPart 75 = .ok (.istore 6, 2) := by decide +kernel
theorem dX8_withoutPart_77 : decode cX8_withoutPart 77 = .ok (.aload_n 3, 1) := by decide +kernel
theorem dX8_withoutPart_78 : decode cX8_withoutPart 78 = .ok (.iload 5, 2) := by decide +kernel
theorem dX8_withoutPart_80 : decode cX8_withoutPart 80 = .ok (.aload_n 0, 1) := by decide +kernel
theorem dX8_withoutPart_81 : decode cX8_withoutPart 81 = .ok (.iload 6, 2) := by decide +kernel
theorem dX8_withoutPart_83 : decode cX8_withoutPart 83 = .ok (.invokevirtual 46, 3) := by decide +kernel
theorem dX8_withoutPart_86 : decode cX8_withoutPart 86 = .ok (.aastore, 1) := by decide +kernel
theorem dX8_withoutPart_87 : decode cX8_withoutPart 87 = .ok (.aload 4, 2) := by decide +kernel
theorem dX8_withoutPart_89 : decode cX8_withoutPart 89 = .ok (.ifnull 14, 3) := by decide +kernel
theorem dX8_withoutPart_92 : decode cX8_withoutPart 92 = .ok (.aload 4, 2) := by decide +kernel
theorem dX8_withoutPart_94 : decode cX8_withoutPart 94 = .ok (.iload 5, 2) := by decide +kernel
theorem dX8_withoutPart_96 : decode cX8_withoutPart 96 = .ok (.aload_n 0, 1) := by decide +kernel
theorem dX8_withoutPart_97 : decode cX8_withoutPart 97 = .ok (.iload 6, 2) := by decide +kernel
theorem dX8_withoutPart_99 : decode cX8_withoutPart 99 = .ok (.invokevirtual 53, 3) := by decide +kernel
theorem dX8_withoutPart_102 : decode cX8_withoutPart 102 = .ok (.iastore, 1) := by decide +kernel
theorem dX8_withoutPart_103 : decode cX8_withoutPart 103 = .ok (.iinc 5 1, 3) := by decide +kernel
theorem dX8_withoutPart_106 : decode cX8_withoutPart 106 = .ok (.goto (-52), 3) := by decide +kernel
theorem dX8_withoutPart_109 : decode cX8_withoutPart 109 = .ok (.new 10, 3) := by decide +kernel
theorem dX8_withoutPart_112 : decode cX8_withoutPart 112 = .ok (.dup, 1) := by decide +kernel
theorem dX8_withoutPart_113 : decode cX8_withoutPart 113 = .ok (.aload_n 0, 1) := by decide +kernel
theorem dX8_withoutPart_114 : decode cX8_withoutPart 114 = .ok (.getfield 9, 3) := by decide +kernel
theorem dX8_withoutPart_117 : decode cX8_withoutPart 117 = .ok (.aload_n 0, 1) := by decide +kernel
theorem dX8_withoutPart_118 : decode cX8_withoutPart 118 = .ok (.getfield 15, 3) := by decide +kernel
theorem dX8_withoutPart_121 : decode cX8_withoutPart 121 = .ok (.aload 4, 2) := by decide +kernel
theorem dX8_withoutPart_123 : decode cX8_withoutPart 123 = .ok (.aload_n 3, 1) := by decide +kernel
theorem dX8_withoutPart_124 : decode cX8_withoutPart 124 = .ok (.invokespecial 50, 3) := by decide +kernel
theorem dX8_withoutPart_127 : decode cX8_withoutPart 127 = .ok (.areturn, 1) := by decide +kernel
theorem dX8_isSameAs_0 : decode cX8_isSameAs 0 = .ok (.aload_n 0, 1) := by decide +kernel
theorem dX8_isSameAs_1 : decode cX8_isSameAs 1 = .ok (.aload_n 1, 1) := by decide +kernel
theorem dX8_isSameAs_2 : decode cX8_isSameAs 2 = .ok (.iconst 0, 1) := by decide +kernel
theorem dX8_isSameAs_3 : decode cX8_isSameAs 3 = .ok (.invokestatic 56, 3) := by decide +kernel
theorem dX8_isSameAs_6 : decode cX8_isSameAs 6 = .ok (.ireturn, 1) := by decide +kernel
theorem dX8_areSame_0 : decode cX8_areSame 0 = .ok (.aload_n 0, 1) := by decide +kernel
theorem dX8_areSame_1 : decode cX8_areSame 1 = .ok (.aload_n 1, 1) := by decide +kernel
theorem dX8_areSame_2 : decode cX8_areSame 2 = .ok (.if_acmp .ne 5, 3) := by decide +kernel
theorem dX8_areSame_5 : decode cX8_areSame 5 = .ok (.iconst 1, 1) := by decide +kernel
theorem dX8_areSame_6 : decode cX8_areSame 6 = .ok (.ireturn, 1) := by decide +kernel
theorem dX8_areSame_7 : decode cX8_areSame 7 = .ok (.aload_n 0, 1) := by decide +kernel
theorem dX8_areSame_8 : decode cX8_areSame 8 = .ok (.ifnull 57, 3) := by decide +kernel
theorem dX8_areSame_11 : decode cX8_areSame 11 = .ok (.aload_n 1, 1) := by decide +kernel
theorem dX8_areSame_12 : decode cX8_areSame 12 = .ok (.ifnull 53, 3) := by decide +kernel
theorem dX8_areSame_15 : decode cX8_areSame 15 = .ok (.iload_n 2, 1) := by decide +kernel
theorem dX8_areSame_16 : decode cX8_areSame 16 = .ok (.bipush 40, 2) := by decide +kernel
theorem dX8_areSame_18 : decode cX8_areSame 18 = .ok (.if_icmp .gt 47, 3) := by decide +kernel
theorem dX8_areSame_21 : decode cX8_areSame 21 = .ok (.aload_n 0, 1) := by decide +kernel
theorem dX8_areSame_22 : decode cX8_areSame 22 = .ok (.getfield 9, 3) := by decide +kernel
theorem dX8_areSame_25 : decode cX8_areSame 25 = .ok (.aload_n 1, 1) := by decide +kernel
theorem dX8_areSame_26 : decode cX8_areSame 26 = .ok (.getfield 9, 3) := by decide +kernel
theorem dX8_areSame_29 : decode cX8_areSame 29 = .ok (.if_icmp .ne 36, 3) := by decide +kernel
theorem dX8_areSame_32 : decode cX8_areSame 32 = .ok (.aload_n 0, 1) := by decide +kernel
theorem dX8_areSame_33 : decode cX8_areSame 33 = .ok (.getfield 15, 3) := by decide +kernel
theorem dX8_areSame_36 : decode cX8_areSame 36 = .ok (.aload_n 1, 1) := by decide +kernel
theorem dX8_areSame_37 : decode cX8_areSame 37 = .ok (.getfield 15, 3) := by decide +kernel
theorem dX8_areSame_40 : decode cX8_areSame 40 = .ok (.if_icmp .ne 25, 3) := by decide +kernel
theorem dX8_areSame_43 : decode cX8_areSame 43 = .ok (.aload_n 0, 1) := by decide +kernel
theorem dX8_areSame_44 : decode cX8_areSame 44 = .ok (.getfield 26, 3) := by decide +kernel
theorem dX8_areSame_47 : decode cX8_areSame 47 = .ok (.aload_n 1, 1) := by decide +kernel
theorem dX8_areSame_48 : decode cX8_areSame 48 = .ok (.getfield 26, 3) := by decide +kernel
theorem dX8_areSame_51 : decode cX8_areSame 51 = .ok (.if_icmp .ne 14, 3) := by decide +kernel
theorem dX8_areSame_54 : decode cX8_areSame 54 = .ok (.aload_n 0, 1) := by decide +kernel
theorem dX8_areSame_55 : decode cX8_areSame 55 = .ok (.invokevirtual 38, 3) := by decide +kernel
theorem dX8_areSame_58 : decode cX8_areSame 58 = .ok (.aload_n 1, 1) := by decide +kernel
theorem dX8_areSame_59 : decode cX8_areSame 59 = .ok (.invokevirtual 38, 3) := by decide +kernel
theorem dX8_areSame_62 : decode cX8_areSame 62 = .ok (.if_icmp .eq 5, 3) := by decide +kernel
theorem dX8_areSame_65 : decode cX8_areSame 65 = .ok (.iconst 0, 1) := by decide +kernel
theorem dX8_areSame_66 : decode cX8_areSame 66 = .ok (.ireturn, 1) := by decide +kernel
theorem dX8_areSame_67 : decode cX8_areSame 67 = .ok (.iconst 0, 1) := by decide +kernel
theorem dX8_areSame_68 : decode cX8_areSame 68 = .ok (.istore_n 3, 1) := by decide +kernel
theorem dX8_areSame_69 : decode cX8_areSame 69 = .ok (.iload_n 3, 1) := by decide +kernel
theorem dX8_areSame_70 : decode cX8_areSame 70 = .ok (.aload_n 0, 1) := by decide +kernel
theorem dX8_areSame_71 : decode cX8_areSame 71 = .ok (.invokevirtual 38, 3) := by decide +kernel
theorem dX8_areSame_74 : decode cX8_areSame 74 = .ok (.if_icmp .ge 43, 3) := by decide +kernel
theorem dX8_areSame_77 : decode cX8_areSame 77 = .ok (.aload_n 0, 1) := by decide +kernel
theorem dX8_areSame_78 : decode cX8_areSame 78 = .ok (.iload_n 3, 1) := by decide +kernel
theorem dX8_areSame_79 : decode cX8_areSame 79 = .ok (.invokevirtual 53, 3) := by decide +kernel
theorem dX8_areSame_82 : decode cX8_areSame 82 = .ok (.aload_n 1, 1) := by decide +kernel
theorem dX8_areSame_83 : decode cX8_areSame 83 = .ok (.iload_n 3, 1) := by decide +kernel
theorem dX8_areSame_84 : decode cX8_areSame 84 = .ok (.invokevirtual 53, 3) := by decide +kernel
theorem dX8_areSame_87 : decode cX8_areSame 87 = .ok (.if_icmp .ne 22, 3) := by decide +kernel
theorem dX8_areSame_90 : decode cX8_areSame 90 = .ok (.aload_n 0, 1) := by decide +kernel
theorem dX8_areSame_91 : decode cX8_areSame 91 = .ok (.iload_n 3, 1) := by decide +kernel
theorem dX8_areSame_92 : decode cX8_areSame 92 = .ok (.invokevirtual 46, 3) := by decide +kernel
theorem dX8_areSame_95 : decode cX8_areSame 95 = .ok (.aload_n 1, 1) := by decide +kernel
theorem dX8_areSame_96 : decode cX8_areSame 96 = .ok (.iload_n 3, 1) := by decide +kernel
theorem dX8_areSame_97 : decode cX8_areSame 97 = .ok (.invokevirtual 46, 3) := by decide +kernel
theorem dX8_areSame_100 : decode cX8_areSame 100 = .ok (.iload_n 2, 1) := by decide +kernel
theorem dX8_areSame_101 : decode cX8_areSame 101 = .ok (.iconst 1, 1) := by decide +kernel
theorem dX8_areSame_102 : decode cX8_areSame 102 = .ok (.iadd, 1) := by decide +kernel
theorem dX8_areSame_103 : decode cX8_areSame 103 = .ok (.invokestatic 56, 3) := by decide +kernel
theorem dX8_areSame_106 : decode cX8_areSame 106 = .ok (.ifCond .ne 5, 3) := by decide +kernel
theorem dX8_areSame_109 : decode cX8_areSame 109 = .ok (.iconst 0, 1) := by decide +kernel
theorem dX8_areSame_110 : decode cX8_areSame 110 = .ok (.ireturn, 1) := by decide +kernel
theorem dX8_areSame_111 : decode cX8_areSame 111 = .ok (.iinc 3 1, 3) := by decide +kernel
theorem dX8_areSame_114 : decode cX8_areSame 114 = .ok (.goto (-45), 3) := by decide +kernel
theorem dX8_areSame_117 : decode cX8_areSame 117 = .ok (.iconst 1, 1) := by decide +kernel
theorem dX8_areSame_118 : decode cX8_areSame 118 = .ok (.ireturn, 1) := by decide +kernel
theorem dX9_init_0 : decode cX9_init 0 = .ok (.aload_n 0, 1) := by decide +kernel
theorem dX9_init_1 : decode cX9_init 1 = .ok (.invokespecial 3, 3) := by decide +kernel
theorem dX9_init_4 : decode cX9_init 4 = .ok (.aload_n 0, 1) := by decide +kernel
theorem dX9_init_5 : decode cX9_init 5 = .ok (.bipush 50, 2) := by decide +kernel
theorem dX9_init_7 : decode cX9_init 7 = .ok (.anewarray 9, 3) := by decide +kernel
theorem dX9_init_10 : decode cX9_init 10 = .ok (.putfield 11, 3) := by decide +kernel
theorem dX9_init_13 : decode cX9_init 13 = .ok (.aload_n 0, 1) := by decide +kernel
theorem dX9_init_14 : decode cX9_init 14 = .ok (.bipush 50, 2) := by decide +kernel
theorem dX9_init_16 : decode cX9_init 16 = .ok (.newarray .int, 2) := by decide +kernel
theorem dX9_init_18 : decode cX9_init 18 = .ok (.putfield 17, 3) := by decide +kernel
theorem dX9_init_21 : decode cX9_init 21 = .ok (.aload_n 0, 1) := by decide +kernel
theorem dX9_init_22 : decode cX9_init 22 = .ok (.bipush 50, 2) := by decide +kernel
theorem dX9_init_24 : decode cX9_init 24 = .ok (.newarray .int, 2) := by decide +kernel
theorem dX9_init_26 : decode cX9_init 26 = .ok (.putfield 21, 3) := by decide +kernel
theorem dX9_init_29 : decode cX9_init 29 = .ok (.aload_n 0, 1) := by decide +kernel
theorem dX9_init_30 : decode cX9_init 30 = .ok (.bipush 50, 2) := by decide +kernel
theorem dX9_init_32 : decode cX9_init 32 = .ok (.newarray .int, 2) := by decide +kernel
theorem dX9_init_34 : decode cX9_init 34 = .ok (.putfield 24, 3) := by decide +kernel
theorem dX9_init_37 : decode cX9_init 37 = .ok (.return_, 1) := by decide +kernel
theorem dX9_fill_0 : decode cX9_fill 0 = .ok (.aload_n 0, 1) := by decide +kernel
theorem dX9_fill_1 : decode cX9_fill 1 = .ok (.aload_n 1, 1) := by decide +kernel
theorem dX9_fill_2 : decode cX9_fill 2 = .ok (.getfield 27, 3) := by decide +kernel
theorem dX9_fill_5 : decode cX9_fill 5 = .ok (.bipush 50, 2) := by decide +kernel
theorem dX9_fill_7 : decode cX9_fill 7 = .ok (.invokestatic 31, 3) := by decide +kernel
theorem dX9_fill_10 : decode cX9_fill 10 = .ok (.putfield 37, 3) := by decide +kernel
theorem dX9_fill_13 : decode cX9_fill 13 = .ok (.aload_n 0, 1) := by decide +kernel
theorem dX9_fill_14 : decode cX9_fill 14 = .ok (.iconst 0, 1) := by decide +kernel
theorem dX9_fill_15 : decode cX9_fill 15 = .ok (.aload_n 1, 1) := by decide +kernel
theorem dX9_fill_16 : decode cX9_fill 16 = .ok (.iconst 0, 1) := by decide +kernel
theorem dX9_fill_17 : decode cX9_fill 17 = .ok (.iconst 0, 1) := by decide +kernel
theorem dX9_fill_18 : decode cX9_fill 18 = .ok (.iconst 0, 1) := by decide +kernel
theorem dX9_fill_19 : decode cX9_fill 19 = .ok (.invokevirtual 40, 3) := by decide +kernel
theorem dX9_fill_22 : decode cX9_fill 22 = .ok (.iconst 0, 1) := by decide +kernel
theorem dX9_fill_23 : decode cX9_fill 23 = .ok (.istore_n 2, 1) := by decide +kernel
theorem dX9_fill_24 : decode cX9_fill 24 = .ok (.iload_n 2, 1) := by decide +kernel
theorem dX9_fill_25 : decode cX9_fill 25 = .ok (.aload_n 0, 1) := by decide +kernel
theorem dX9_fill_26 : decode cX9_fill 26 = .ok (.getfield 37, 3) := by decide +kernel
theorem dX9_fill_29 : decode cX9_fill 29 = .ok (.if_icmp .ge 93, 3) := by decide +kernel
theorem dX9_fill_32 : decode cX9_fill 32 = .ok (.aload_n 0, 1) := by decide +kernel
theorem dX9_fill_33 : decode cX9_fill 33 = .ok (.getfield 11, 3) := by decide +kernel
theorem dX9_fill_36 : decode cX9_fill 36 = .ok (.iload_n 2, 1) := by decide +kernel
theorem dX9_fill_37 : decode cX9_fill 37 = .ok (.aaload, 1) := by decide +kernel
theorem dX9_fill_38 : decode cX9_fill 38 = .ok (.astore_n 3, 1) := by decide +kernel
theorem dX9_fill_39 : decode cX9_fill 39 = .ok (.iload_n 2, 1) := by decide +kernel
theorem dX9_fill_40 : decode cX9_fill 40 = .ok (.iconst 1, 1) := by decide +kernel
theorem dX9_fill_41 : decode cX9_fill 41 = .ok (.iadd, 1) := by decide +kernel
theorem dX9_fill_42 : decode cX9_fill 42 = .ok (.istore 4, 2) := by decide +kernel
theorem dX9_fill_44 : decode cX9_fill 44 = .ok (.iconst 0, 1) := by decide +kernel
theorem dX9_fill_45 : decode cX9_fill 45 = .ok (.istore 5, 2) := by decide +kernel
theorem dX9_fill_47 : decode cX9_fill 47 = .ok (.aload_n 3, 1) := by decide +kernel
theorem dX9_fill_48 : decode cX9_fill 48 = .ok (.ifnull 68, 3) := by decide +kernel
theorem dX9_fill_51 : decode cX9_fill 51 = .ok (.iload 5, 2) := by decide +kernel
theorem dX9_fill_53 : decode cX9_fill 53 = .ok (.aload_n 3, 1) := by decide +kernel
theorem dX9_fill_54 : decode cX9_fill 54 = .ok (.invokevirtual 44, 3) := by decide +kernel
theorem dX9_fill_57 : decode cX9_fill 57 = .ok (.if_icmp .ge 59, 3) := by decide +kernel
theorem dX9_fill_60 : decode cX9_fill 60 = .ok (.aload_n 3, 1) := by decide +kernel
theorem dX9_fill_61 : decode cX9_fill 61 = .ok (.iload 5, 2) := by decide +kernel
theorem dX9_fill_63 : decode cX9_fill 63 = .ok (.invokevirtual 48, 3) := by decide +kernel
theorem dX9_fill_66 : decode cX9_fill 66 = .ok (.astore 6, 2) := by decide +kernel
theorem dX9_fill_68 : decode cX9_fill 68 = .ok (.aload_n 0, 1) := by decide +kernel
theorem dX9_fill_69 : decode cX9_fill 69 = .ok (.iload 4, 2) := by decide +kernel
theorem dX9_fill_71 : decode cX9_fill 71 = .ok (.aload 6, 2) := by decide +kernel
theorem dX9_fill_73 : decode cX9_fill 73 = .ok (.iload_n 2, 1) := by decide +kernel
theorem dX9_fill_74 : decode cX9_fill 74 = .ok (.aload_n 3, 1) := by decide +kernel
theorem dX9_fill_75 : decode cX9_fill 75 = .ok (.iload 5, 2) := by decide +kernel
theorem dX9_fill_77 : decode cX9_fill 77 = .ok (.invokevirtual 52, 3) := by decide +kernel
theorem dX9_fill_80 : decode cX9_fill 80 = .ok (.aload_n 0, 1) := by decide +kernel
theorem dX9_fill_81 : decode cX9_fill 81 = .ok (.getfield 24, 3) := by decide +kernel
theorem dX9_fill_84 : decode cX9_fill 84 = .ok (.iload_n 2, 1) := by decide +kernel
theorem dX9_fill_85 : decode cX9_fill 85 = .ok (.iaload, 1) := by decide +kernel
theorem dX9_fill_86 : decode cX9_fill 86 = .ok (.iconst 1, 1) := by decide +kernel
theorem dX9_fill_87 : decode cX9_fill 87 = .ok (.iadd, 1) := by decide +kernel
theorem dX9_fill_88 : decode cX9_fill 88 = .ok (.invokevirtual 40, 3) := by decide +kernel
theorem dX9_fill_91 : decode cX9_fill 91 = .ok (.iload 4, 2) := by decide +kernel
theorem dX9_fill_93 : decode cX9_fill 93 = .ok (.aload 6, 2) := by decide +kernel
theorem dX9_fill_95 : decode cX9_fill 95 = .ok (.ifnonnull 7, 3) := by decide +kernel
theorem dX9_fill_98 : decode cX9_fill 98 = .ok (.iconst 0, 1) := by decide +kernel
theorem dX9_fill_99 : decode cX9_fill 99 = .ok (.goto 8, 3) := by decide +kernel
theorem dX9_fill_102 : decode cX9_fill 102 = .ok (.aload 6, 2) := by decide +kernel
theorem dX9_fill_104 : decode cX9_fill 104 = .ok (.getfield 27, 3) := by decide +kernel
theorem dX9_fill_107 : decode cX9_fill 107 = .ok (.iadd, 1) := by decide +kernel
theorem dX9_fill_108 : decode cX9_fill 108 = .ok (.istore 4, 2) := by decide +kernel
theorem dX9_fill_110 : decode cX9_fill 110 = .ok (.iinc 5 1, 3) := by decide +kernel
theorem dX9_fill_113 : decode cX9_fill 113 = .ok (.goto (-66), 3) := by decide +kernel
theorem dX9_fill_116 : decode cX9_fill 116 = .ok (.iinc 2 1, 3) := by decide +kernel
theorem dX9_fill_119 : decode cX9_fill 119 = .ok (.goto (-95), 3) := by decide +kernel
theorem dX9_fill_122 : decode cX9_fill 122 = .ok (.return_, 1) := by decide +kernel
theorem dX9_enter_0 : decode cX9_enter 0 = .ok (.iload_n 1, 1) := by decide +kernel
theorem dX9_enter_1 : decode cX9_enter 1 = .ok (.ifCond .lt 39, 3) := by decide +kernel
theorem dX9_enter_4 : decode cX9_enter 4 = .ok (.iload_n 1, 1) := by decide +kernel
theorem dX9_enter_5 : decode cX9_enter 5 = .ok (.bipush 50, 2) := by decide +kernel
theorem dX9_enter_7 : decode cX9_enter 7 = .ok (.if_icmp .ge 33, 3) := by decide +kernel
theorem dX9_enter_10 : decode cX9_enter 10 = .ok (.aload_n 0, 1) := by decide +kernel
theorem dX9_enter_11 : decode cX9_enter 11 = .ok (.getfield 11, 3) := by decide +kernel
theorem dX9_enter_14 : decode cX9_enter 14 = .ok (.iload_n 1, 1) := by decide +kernel
theorem dX9_enter_15 : decode cX9_enter 15 = .ok (.aload_n 2, 1) := by decide +kernel
theorem dX9_enter_16 : decode cX9_enter 16 = .ok (.aastore, 1) := by decide +kernel
theorem dX9_enter_17 : decode cX9_enter 17 = .ok (.aload_n 0, 1) := by decide +kernel
theorem dX9_enter_18 : decode cX9_enter 18 = .ok (.getfield 17, 3) := by decide +kernel
theorem dX9_enter_21 : decode cX9_enter 21 = .ok (.iload_n 1, 1) := by decide +kernel
theorem dX9_enter_22 : decode cX9_enter 22 = .ok (.iload_n 3, 1) := by decide +kernel
end
section
theorem dX9_enter_23 : decode cX9_enter 23 = .ok (.iastore, 1) := by decide +kernel
theorem dX9_enter_24 : decode cX9_enter 24 = .ok (.aload_n 0, 1) := by decide +kernel
theorem dX9_enter_25 : decode cX9_enter 25 = .ok (.getfield 21, 3) := by decide +kernel
theorem dX9_enter_28 : decode cX9_enter 28 = .ok (.iload_n 1, 1) := by decide +kernel
theorem dX9_enter_29 : decode cX9_enter 29 = .ok (.iload 4, 2) := by decide +kernel
theorem dX9_enter_31 : decode cX9_enter 31 = .ok (.iastore, 1) := by decide +kernel
theorem dX9_enter_32 : decode cX9_enter 32 = .ok (.aload_n 0, 1) := by decide +kernel
theorem dX9_enter_33 : decode cX9_enter 33 = .ok (.getfield 24, 3) := by decide +kernel
theorem dX9_enter_36 : decode cX9_enter 36 = .ok (.iload_n 1, 1) := by decide +kernel
theorem dX9_enter_37 : decode cX9_enter 37 = .ok (.iload 5, 2) := by decide +kernel
theorem dX9_enter_39 : decode cX9_enter 39 = .ok (.iastore, 1) := by decide +kernel
theorem dX9_enter_40 : decode cX9_enter 40 = .ok (.return_, 1) := by decide +kernel
theorem dX9_valueAt_0 : decode cX9_valueAt 0 = .ok (.iload_n 1, 1) := by decide +kernel
theorem dX9_valueAt_1 : decode cX9_valueAt 1 = .ok (.ifCond .lt 26, 3) := by decide +kernel
theorem dX9_valueAt_4 : decode cX9_valueAt 4 = .ok (.iload_n 1, 1) := by decide +kernel
theorem dX9_valueAt_5 : decode cX9_valueAt 5 = .ok (.aload_n 0, 1) := by decide +kernel
theorem dX9_valueAt_6 : decode cX9_valueAt 6 = .ok (.getfield 37, 3) := by decide +kernel
theorem dX9_valueAt_9 : decode cX9_valueAt 9 = .ok (.if_icmp .ge 18, 3) := by decide +kernel
theorem dX9_valueAt_12 : decode cX9_valueAt 12 = .ok (.iload_n 1, 1) := by decide +kernel
theorem dX9_valueAt_13 : decode cX9_valueAt 13 = .ok (.bipush 50, 2) := by decide +kernel
theorem dX9_valueAt_15 : decode cX9_valueAt 15 = .ok (.if_icmp .ge 12, 3) := by decide +kernel
theorem dX9_valueAt_18 : decode cX9_valueAt 18 = .ok (.aload_n 0, 1) := by decide +kernel
theorem dX9_valueAt_19 : decode cX9_valueAt 19 = .ok (.getfield 11, 3) := by decide +kernel
theorem dX9_valueAt_22 : decode cX9_valueAt 22 = .ok (.iload_n 1, 1) := by decide +kernel
theorem dX9_valueAt_23 : decode cX9_valueAt 23 = .ok (.aaload, 1) := by decide +kernel
theorem dX9_valueAt_24 : decode cX9_valueAt 24 = .ok (.goto 4, 3) := by decide +kernel
theorem dX9_valueAt_27 : decode cX9_valueAt 27 = .ok (.aconst_null, 1) := by decide +kernel
theorem dX9_valueAt_28 : decode cX9_valueAt 28 = .ok (.areturn, 1) := by decide +kernel
theorem dX9_above_0 : decode cX9_above 0 = .ok (.iload_n 1, 1) := by decide +kernel
theorem dX9_above_1 : decode cX9_above 1 = .ok (.ifCond .le 18, 3) := by decide +kernel
theorem dX9_above_4 : decode cX9_above 4 = .ok (.iload_n 1, 1) := by decide +kernel
theorem dX9_above_5 : decode cX9_above 5 = .ok (.bipush 50, 2) := by decide +kernel
theorem dX9_above_7 : decode cX9_above 7 = .ok (.if_icmp .ge 12, 3) := by decide +kernel
theorem dX9_above_10 : decode cX9_above 10 = .ok (.aload_n 0, 1) := by decide +kernel
theorem dX9_above_11 : decode cX9_above 11 = .ok (.getfield 17, 3) := by decide +kernel
theorem dX9_above_14 : decode cX9_above 14 = .ok (.iload_n 1, 1) := by decide +kernel
theorem dX9_above_15 : decode cX9_above 15 = .ok (.iaload, 1) := by decide +kernel
theorem dX9_above_16 : decode cX9_above 16 = .ok (.goto 4, 3) := by decide +kernel
theorem dX9_above_19 : decode cX9_above 19 = .ok (.iconst 0, 1) := by decide +kernel
theorem dX9_above_20 : decode cX9_above 20 = .ok (.ireturn, 1) := by decide +kernel
theorem dX9_stepTo_0 : decode cX9_stepTo 0 = .ok (.iload_n 1, 1) := by decide +kernel
theorem dX9_stepTo_1 : decode cX9_stepTo 1 = .ok (.ifCond .le 18, 3) := by decide +kernel
theorem dX9_stepTo_4 : decode cX9_stepTo 4 = .ok (.iload_n 1, 1) := by decide +kernel
theorem dX9_stepTo_5 : decode cX9_stepTo 5 = .ok (.bipush 50, 2) := by decide +kernel
theorem dX9_stepTo_7 : decode cX9_stepTo 7 = .ok (.if_icmp .ge 12, 3) := by decide +kernel
theorem dX9_stepTo_10 : decode cX9_stepTo 10 = .ok (.aload_n 0, 1) := by decide +kernel
theorem dX9_stepTo_11 : decode cX9_stepTo 11 = .ok (.getfield 21, 3) := by decide +kernel
theorem dX9_stepTo_14 : decode cX9_stepTo 14 = .ok (.iload_n 1, 1) := by decide +kernel
theorem dX9_stepTo_15 : decode cX9_stepTo 15 = .ok (.iaload, 1) := by decide +kernel
theorem dX9_stepTo_16 : decode cX9_stepTo 16 = .ok (.goto 4, 3) := by decide +kernel
theorem dX9_stepTo_19 : decode cX9_stepTo 19 = .ok (.iconst 0, 1) := by decide +kernel
theorem dX9_stepTo_20 : decode cX9_stepTo 20 = .ok (.ireturn, 1) := by decide +kernel
theorem dX9_pick_0 : decode cX9_pick 0 = .ok (.lconst 0, 1) := by decide +kernel
theorem dX9_pick_1 : decode cX9_pick 1 = .ok (.lstore 5, 2) := by decide +kernel
theorem dX9_pick_3 : decode cX9_pick 3 = .ok (.iconst 0, 1) := by decide +kernel
theorem dX9_pick_4 : decode cX9_pick 4 = .ok (.istore 7, 2) := by decide +kernel
theorem dX9_pick_6 : decode cX9_pick 6 = .ok (.iload 7, 2) := by decide +kernel
theorem dX9_pick_8 : decode cX9_pick 8 = .ok (.aload_n 0, 1) := by decide +kernel
theorem dX9_pick_9 : decode cX9_pick 9 = .ok (.getfield 37, 3) := by decide +kernel
theorem dX9_pick_12 : decode cX9_pick 12 = .ok (.if_icmp .ge 48, 3) := by decide +kernel
theorem dX9_pick_15 : decode cX9_pick 15 = .ok (.aload_n 0, 1) := by decide +kernel
theorem dX9_pick_16 : decode cX9_pick 16 = .ok (.iload 7, 2) := by decide +kernel
theorem dX9_pick_18 : decode cX9_pick 18 = .ok (.invokevirtual 56, 3) := by decide +kernel
theorem dX9_pick_21 : decode cX9_pick 21 = .ok (.astore 8, 2) := by decide +kernel
theorem dX9_pick_23 : decode cX9_pick 23 = .ok (.aload 8, 2) := by decide +kernel
theorem dX9_pick_25 : decode cX9_pick 25 = .ok (.ifnull 29, 3) := by decide +kernel
theorem dX9_pick_28 : decode cX9_pick 28 = .ok (.aload_n 0, 1) := by decide +kernel
theorem dX9_pick_29 : decode cX9_pick 29 = .ok (.lload_n 1, 1) := by decide +kernel
theorem dX9_pick_30 : decode cX9_pick 30 = .ok (.lload 5, 2) := by decide +kernel
theorem dX9_pick_32 : decode cX9_pick 32 = .ok (.iload 7, 2) := by decide +kernel
theorem dX9_pick_34 : decode cX9_pick 34 = .ok (.aload 8, 2) := by decide +kernel
theorem dX9_pick_36 : decode cX9_pick 36 = .ok (.iload_n 3, 1) := by decide +kernel
theorem dX9_pick_37 : decode cX9_pick 37 = .ok (.iload 4, 2) := by decide +kernel
theorem dX9_pick_39 : decode cX9_pick 39 = .ok (.invokevirtual 59, 3) := by decide +kernel
theorem dX9_pick_42 : decode cX9_pick 42 = .ok (.ifCond .eq 12, 3) := by decide +kernel
theorem dX9_pick_45 : decode cX9_pick 45 = .ok (.lload 5, 2) := by decide +kernel
theorem dX9_pick_47 : decode cX9_pick 47 = .ok (.lconst 1, 1) := by decide +kernel
theorem dX9_pick_48 : decode cX9_pick 48 = .ok (.iload 7, 2) := by decide +kernel
theorem dX9_pick_50 : decode cX9_pick 50 = .ok (.lshl, 1) := by decide +kernel
theorem dX9_pick_51 : decode cX9_pick 51 = .ok (.lor, 1) := by decide +kernel
theorem dX9_pick_52 : decode cX9_pick 52 = .ok (.lstore 5, 2) := by decide +kernel
theorem dX9_pick_54 : decode cX9_pick 54 = .ok (.iinc 7 1, 3) := by decide +kernel
theorem dX9_pick_57 : decode cX9_pick 57 = .ok (.goto (-51), 3) := by decide +kernel
theorem dX9_pick_60 : decode cX9_pick 60 = .ok (.lload 5, 2) := by decide +kernel
theorem dX9_pick_62 : decode cX9_pick 62 = .ok (.lreturn, 1) := by decide +kernel
theorem dX9_isPicked_0 : decode cX9_isPicked 0 = .ok (.lload_n 1, 1) := by decide +kernel
theorem dX9_isPicked_1 : decode cX9_isPicked 1 = .ok (.iload 5, 2) := by decide +kernel
theorem dX9_isPicked_3 : decode cX9_isPicked 3 = .ok (.invokestatic 63, 3) := by decide +kernel
theorem dX9_isPicked_6 : decode cX9_isPicked 6 = .ok (.istore 9, 2) := by decide +kernel
theorem dX9_isPicked_8 : decode cX9_isPicked 8 = .ok (.iload 5, 2) := by decide +kernel
theorem dX9_isPicked_10 : decode cX9_isPicked 10 = .ok (.ifCond .le 20, 3) := by decide +kernel
theorem dX9_isPicked_13 : decode cX9_isPicked 13 = .ok (.lload_n 1, 1) := by decide +kernel
theorem dX9_isPicked_14 : decode cX9_isPicked 14 = .ok (.aload_n 0, 1) := by decide +kernel
theorem dX9_isPicked_15 : decode cX9_isPicked 15 = .ok (.iload 5, 2) := by decide +kernel
theorem dX9_isPicked_17 : decode cX9_isPicked 17 = .ok (.invokevirtual 67, 3) := by decide +kernel
theorem dX9_isPicked_20 : decode cX9_isPicked 20 = .ok (.invokestatic 63, 3) := by decide +kernel
theorem dX9_isPicked_23 : decode cX9_isPicked 23 = .ok (.ifCond .eq 7, 3) := by decide +kernel
theorem dX9_isPicked_26 : decode cX9_isPicked 26 = .ok (.iconst 1, 1) := by decide +kernel
theorem dX9_isPicked_27 : decode cX9_isPicked 27 = .ok (.goto 4, 3) := by decide +kernel
theorem dX9_isPicked_30 : decode cX9_isPicked 30 = .ok (.iconst 0, 1) := by decide +kernel
theorem dX9_isPicked_31 : decode cX9_isPicked 31 = .ok (.istore 10, 2) := by decide +kernel
theorem dX9_isPicked_33 : decode cX9_isPicked 33 = .ok (.iload 7, 2) := by decide +kernel
theorem dX9_isPicked_35 : decode cX9_isPicked 35 = .ok (.tableswitch 164 0 5 #[37, 59, 62, 91, 113, 143], 37) := by decide +kernel
theorem dX9_isPicked_72 : decode cX9_isPicked 72 = .ok (.iload 10, 2) := by decide +kernel
theorem dX9_isPicked_74 : decode cX9_isPicked 74 = .ok (.ifCond .eq 18, 3) := by decide +kernel
theorem dX9_isPicked_77 : decode cX9_isPicked 77 = .ok (.aload_n 0, 1) := by decide +kernel
theorem dX9_isPicked_78 : decode cX9_isPicked 78 = .ok (.iload 5, 2) := by decide +kernel
theorem dX9_isPicked_80 : decode cX9_isPicked 80 = .ok (.invokevirtual 70, 3) := by decide +kernel
theorem dX9_isPicked_83 : decode cX9_isPicked 83 = .ok (.iload 8, 2) := by decide +kernel
theorem dX9_isPicked_85 : decode cX9_isPicked 85 = .ok (.if_icmp .ne 7, 3) := by decide +kernel
theorem dX9_isPicked_88 : decode cX9_isPicked 88 = .ok (.iconst 1, 1) := by decide +kernel
theorem dX9_isPicked_89 : decode cX9_isPicked 89 = .ok (.goto 4, 3) := by decide +kernel
theorem dX9_isPicked_92 : decode cX9_isPicked 92 = .ok (.iconst 0, 1) := by decide +kernel
theorem dX9_isPicked_93 : decode cX9_isPicked 93 = .ok (.ireturn, 1) := by decide +kernel
theorem dX9_isPicked_94 : decode cX9_isPicked 94 = .ok (.iload 10, 2) := by decide +kernel
theorem dX9_isPicked_96 : decode cX9_isPicked 96 = .ok (.ireturn, 1) := by decide +kernel
theorem dX9_isPicked_97 : decode cX9_isPicked 97 = .ok (.iload 9, 2) := by decide +kernel
theorem dX9_isPicked_99 : decode cX9_isPicked 99 = .ok (.ifCond .ne 21, 3) := by decide +kernel
theorem dX9_isPicked_102 : decode cX9_isPicked 102 = .ok (.iload 5, 2) := by decide +kernel
theorem dX9_isPicked_104 : decode cX9_isPicked 104 = .ok (.ifCond .le 20, 3) := by decide +kernel
theorem dX9_isPicked_107 : decode cX9_isPicked 107 = .ok (.lload_n 3, 1) := by decide +kernel
theorem dX9_isPicked_108 : decode cX9_isPicked 108 = .ok (.aload_n 0, 1) := by decide +kernel
theorem dX9_isPicked_109 : decode cX9_isPicked 109 = .ok (.iload 5, 2) := by decide +kernel
theorem dX9_isPicked_111 : decode cX9_isPicked 111 = .ok (.invokevirtual 67, 3) := by decide +kernel
theorem dX9_isPicked_114 : decode cX9_isPicked 114 = .ok (.invokestatic 63, 3) := by decide +kernel
theorem dX9_isPicked_117 : decode cX9_isPicked 117 = .ok (.ifCond .eq 7, 3) := by decide +kernel
theorem dX9_isPicked_120 : decode cX9_isPicked 120 = .ok (.iconst 1, 1) := by decide +kernel
theorem dX9_isPicked_121 : decode cX9_isPicked 121 = .ok (.goto 4, 3) := by decide +kernel
theorem dX9_isPicked_124 : decode cX9_isPicked 124 = .ok (.iconst 0, 1) := by decide +kernel
theorem dX9_isPicked_125 : decode cX9_isPicked 125 = .ok (.ireturn, 1) := by decide +kernel
theorem dX9_isPicked_126 : decode cX9_isPicked 126 = .ok (.iload 10, 2) := by decide +kernel
theorem dX9_isPicked_128 : decode cX9_isPicked 128 = .ok (.ifCond .eq 18, 3) := by decide +kernel
theorem dX9_isPicked_131 : decode cX9_isPicked 131 = .ok (.aload_n 0, 1) := by decide +kernel
theorem dX9_isPicked_132 : decode cX9_isPicked 132 = .ok (.iload 5, 2) := by decide +kernel
theorem dX9_isPicked_134 : decode cX9_isPicked 134 = .ok (.aload 6, 2) := by decide +kernel
theorem dX9_isPicked_136 : decode cX9_isPicked 136 = .ok (.invokevirtual 73, 3) := by decide +kernel
theorem dX9_isPicked_139 : decode cX9_isPicked 139 = .ok (.ifCond .eq 7, 3) := by decide +kernel
theorem dX9_isPicked_142 : decode cX9_isPicked 142 = .ok (.iconst 1, 1) := by decide +kernel
theorem dX9_isPicked_143 : decode cX9_isPicked 143 = .ok (.goto 4, 3) := by decide +kernel
theorem dX9_isPicked_146 : decode cX9_isPicked 146 = .ok (.iconst 0, 1) := by decide +kernel
theorem dX9_isPicked_147 : decode cX9_isPicked 147 = .ok (.ireturn, 1) := by decide +kernel
theorem dX9_isPicked_148 : decode cX9_isPicked 148 = .ok (.iload 9, 2) := by decide +kernel
theorem dX9_isPicked_150 : decode cX9_isPicked 150 = .ok (.ifCond .eq 26, 3) := by decide +kernel
theorem dX9_isPicked_153 : decode cX9_isPicked 153 = .ok (.aload 6, 2) := by decide +kernel
theorem dX9_isPicked_155 : decode cX9_isPicked 155 = .ok (.getfield 77, 3) := by decide +kernel
theorem dX9_isPicked_158 : decode cX9_isPicked 158 = .ok (.iconst 2, 1) := by decide +kernel
theorem dX9_isPicked_159 : decode cX9_isPicked 159 = .ok (.if_icmp .ne 17, 3) := by decide +kernel
theorem dX9_isPicked_162 : decode cX9_isPicked 162 = .ok (.aload 6, 2) := by decide +kernel
theorem dX9_isPicked_164 : decode cX9_isPicked 164 = .ok (.getfield 80, 3) := by decide +kernel
theorem dX9_isPicked_167 : decode cX9_isPicked 167 = .ok (.iload 8, 2) := by decide +kernel
theorem dX9_isPicked_169 : decode cX9_isPicked 169 = .ok (.if_icmp .ge 7, 3) := by decide +kernel
theorem dX9_isPicked_172 : decode cX9_isPicked 172 = .ok (.iconst 1, 1) := by decide +kernel
theorem dX9_isPicked_173 : decode cX9_isPicked 173 = .ok (.goto 4, 3) := by decide +kernel
theorem dX9_isPicked_176 : decode cX9_isPicked 176 = .ok (.iconst 0, 1) := by decide +kernel
theorem dX9_isPicked_177 : decode cX9_isPicked 177 = .ok (.ireturn, 1) := by decide +kernel
theorem dX9_isPicked_178 : decode cX9_isPicked 178 = .ok (.iload 9, 2) := by decide +kernel
theorem dX9_isPicked_180 : decode cX9_isPicked 180 = .ok (.ifCond .eq 17, 3) := by decide +kernel
theorem dX9_isPicked_183 : decode cX9_isPicked 183 = .ok (.aload 6, 2) := by decide +kernel
theorem dX9_isPicked_185 : decode cX9_isPicked 185 = .ok (.iload 8, 2) := by decide +kernel
theorem dX9_isPicked_187 : decode cX9_isPicked 187 = .ok (.invokevirtual 83, 3) := by decide +kernel
theorem dX9_isPicked_190 : decode cX9_isPicked 190 = .ok (.ifCond .lt 7, 3) := by decide +kernel
theorem dX9_isPicked_193 : decode cX9_isPicked 193 = .ok (.iconst 1, 1) := by decide +kernel
theorem dX9_isPicked_194 : decode cX9_isPicked 194 = .ok (.goto 4, 3) := by decide +kernel
theorem dX9_isPicked_197 : decode cX9_isPicked 197 = .ok (.iconst 0, 1) := by decide +kernel
theorem dX9_isPicked_198 : decode cX9_isPicked 198 = .ok (.ireturn, 1) := by decide +kernel
theorem dX9_isPicked_199 : decode cX9_isPicked 199 = .ok (.iload 9, 2) := by decide +kernel
theorem dX9_isPicked_201 : decode cX9_isPicked 201 = .ok (.ifCond .eq 17, 3) := by decide +kernel
theorem dX9_isPicked_204 : decode cX9_isPicked 204 = .ok (.aload 6, 2) := by decide +kernel
theorem dX9_isPicked_206 : decode cX9_isPicked 206 = .ok (.getfield 77, 3) := by decide +kernel
theorem dX9_isPicked_209 : decode cX9_isPicked 209 = .ok (.iload 8, 2) := by decide +kernel
theorem dX9_isPicked_211 : decode cX9_isPicked 211 = .ok (.if_icmp .ne 7, 3) := by decide +kernel
theorem dX9_isPicked_214 : decode cX9_isPicked 214 = .ok (.iconst 1, 1) := by decide +kernel
theorem dX9_isPicked_215 : decode cX9_isPicked 215 = .ok (.goto 4, 3) := by decide +kernel
theorem dX9_isPicked_218 : decode cX9_isPicked 218 = .ok (.iconst 0, 1) := by decide +kernel
theorem dX9_isPicked_219 : decode cX9_isPicked 219 = .ok (.ireturn, 1) := by decide +kernel
theorem dX9_isLast_0 : decode cX9_isLast 0 = .ok (.aload_n 0, 1) := by decide +kernel
theorem dX9_isLast_1 : decode cX9_isLast 1 = .ok (.aload_n 0, 1) := by decide +kernel
theorem dX9_isLast_2 : decode cX9_isLast 2 = .ok (.iload_n 1, 1) := by decide +kernel
theorem dX9_isLast_3 : decode cX9_isLast 3 = .ok (.invokevirtual 67, 3) := by decide +kernel
theorem dX9_isLast_6 : decode cX9_isLast 6 = .ok (.invokevirtual 56, 3) := by decide +kernel
theorem dX9_isLast_9 : decode cX9_isLast 9 = .ok (.astore_n 3, 1) := by decide +kernel
theorem dX9_isLast_10 : decode cX9_isLast 10 = .ok (.aload_n 3, 1) := by decide +kernel
theorem dX9_isLast_11 : decode cX9_isLast 11 = .ok (.ifnull 26, 3) := by decide +kernel
theorem dX9_isLast_14 : decode cX9_isLast 14 = .ok (.iload_n 1, 1) := by decide +kernel
theorem dX9_isLast_15 : decode cX9_isLast 15 = .ok (.aload_n 2, 1) := by decide +kernel
theorem dX9_isLast_16 : decode cX9_isLast 16 = .ok (.getfield 27, 3) := by decide +kernel
theorem dX9_isLast_19 : decode cX9_isLast 19 = .ok (.iadd, 1) := by decide +kernel
theorem dX9_isLast_20 : decode cX9_isLast 20 = .ok (.aload_n 0, 1) := by decide +kernel
theorem dX9_isLast_21 : decode cX9_isLast 21 = .ok (.iload_n 1, 1) := by decide +kernel
theorem dX9_isLast_22 : decode cX9_isLast 22 = .ok (.invokevirtual 67, 3) := by decide +kernel
theorem dX9_isLast_25 : decode cX9_isLast 25 = .ok (.aload_n 3, 1) := by decide +kernel
theorem dX9_isLast_26 : decode cX9_isLast 26 = .ok (.getfield 27, 3) := by decide +kernel
theorem dX9_isLast_29 : decode cX9_isLast 29 = .ok (.iadd, 1) := by decide +kernel
theorem dX9_isLast_30 : decode cX9_isLast 30 = .ok (.if_icmp .ne 7, 3) := by decide +kernel
theorem dX9_isLast_33 : decode cX9_isLast 33 = .ok (.iconst 1, 1) := by decide +kernel
theorem dX9_isLast_34 : decode cX9_isLast 34 = .ok (.goto 4, 3) := by decide +kernel
theorem dX9_isLast_37 : decode cX9_isLast 37 = .ok (.iconst 0, 1) := by decide +kernel
theorem dX9_isLast_38 : decode cX9_isLast 38 = .ok (.ireturn, 1) := by decide +kernel
theorem dX9_without_0 : decode cX9_without 0 = .ok (.aload_n 0, 1) := by decide +kernel
theorem dX9_without_1 : decode cX9_without 1 = .ok (.getfield 37, 3) := by decide +kernel
theorem dX9_without_4 : decode cX9_without 4 = .ok (.iconst 1, 1) := by decide +kernel
theorem dX9_without_5 : decode cX9_without 5 = .ok (.isub, 1) := by decide +kernel
theorem dX9_without_6 : decode cX9_without 6 = .ok (.istore_n 3, 1) := by decide +kernel
theorem dX9_without_7 : decode cX9_without 7 = .ok (.iload_n 3, 1) := by decide +kernel
theorem dX9_without_8 : decode cX9_without 8 = .ok (.ifCond .le 100, 3) := by decide +kernel
theorem dX9_without_11 : decode cX9_without 11 = .ok (.aload_n 0, 1) := by decide +kernel
theorem dX9_without_12 : decode cX9_without 12 = .ok (.iload_n 3, 1) := by decide +kernel
theorem dX9_without_13 : decode cX9_without 13 = .ok (.invokevirtual 67, 3) := by decide +kernel
theorem dX9_without_16 : decode cX9_without 16 = .ok (.istore 4, 2) := by decide +kernel
theorem dX9_without_18 : decode cX9_without 18 = .ok (.aload_n 0, 1) := by decide +kernel
theorem dX9_without_19 : decode cX9_without 19 = .ok (.iload 4, 2) := by decide +kernel
theorem dX9_without_21 : decode cX9_without 21 = .ok (.invokevirtual 56, 3) := by decide +kernel
theorem dX9_without_24 : decode cX9_without 24 = .ok (.astore 5, 2) := by decide +kernel
theorem dX9_without_26 : decode cX9_without 26 = .ok (.aload 5, 2) := by decide +kernel
theorem dX9_without_28 : decode cX9_without 28 = .ok (.ifnull 74, 3) := by decide +kernel
theorem dX9_without_31 : decode cX9_without 31 = .ok (.aload 5, 2) := by decide +kernel
theorem dX9_without_33 : decode cX9_without 33 = .ok (.aload_n 0, 1) := by decide +kernel
theorem dX9_without_34 : decode cX9_without 34 = .ok (.iload_n 3, 1) := by decide +kernel
theorem dX9_without_35 : decode cX9_without 35 = .ok (.invokevirtual 70, 3) := by decide +kernel
theorem dX9_without_38 : decode cX9_without 38 = .ok (.invokevirtual 83, 3) := by decide +kernel
theorem dX9_without_41 : decode cX9_without 41 = .ok (.istore 6, 2) := by decide +kernel
theorem dX9_without_43 : decode cX9_without 43 = .ok (.lload_n 1, 1) := by decide +kernel
theorem dX9_without_44 : decode cX9_without 44 = .ok (.iload_n 3, 1) := by decide +kernel
theorem dX9_without_45 : decode cX9_without 45 = .ok (.invokestatic 63, 3) := by decide +kernel
theorem dX9_without_48 : decode cX9_without 48 = .ok (.ifCond .eq 20, 3) := by decide +kernel
theorem dX9_without_51 : decode cX9_without 51 = .ok (.aload_n 0, 1) := by decide +kernel
theorem dX9_without_52 : decode cX9_without 52 = .ok (.getfield 11, 3) := by decide +kernel
theorem dX9_without_55 : decode cX9_without 55 = .ok (.iload 4, 2) := by decide +kernel
theorem dX9_without_57 : decode cX9_without 57 = .ok (.aload 5, 2) := by decide +kernel
theorem dX9_without_59 : decode cX9_without 59 = .ok (.iload 6, 2) := by decide +kernel
theorem dX9_without_61 : decode cX9_without 61 = .ok (.invokevirtual 90, 3) := by decide +kernel
theorem dX9_without_64 : decode cX9_without 64 = .ok (.aastore, 1) := by decide +kernel
theorem dX9_without_65 : decode cX9_without 65 = .ok (.goto 37, 3) := by decide +kernel
theorem dX9_without_68 : decode cX9_without 68 = .ok (.aload 5, 2) := by decide +kernel
theorem dX9_without_70 : decode cX9_without 70 = .ok (.iload 6, 2) := by decide +kernel
theorem dX9_without_72 : decode cX9_without 72 = .ok (.invokevirtual 48, 3) := by decide +kernel
theorem dX9_without_75 : decode cX9_without 75 = .ok (.aload_n 0, 1) := by decide +kernel
theorem dX9_without_76 : decode cX9_without 76 = .ok (.iload_n 3, 1) := by decide +kernel
theorem dX9_without_77 : decode cX9_without 77 = .ok (.invokevirtual 56, 3) := by decide +kernel
theorem dX9_without_80 : decode cX9_without 80 = .ok (.if_acmp .eq 22, 3) := by decide +kernel
theorem dX9_without_83 : decode cX9_without 83 = .ok (.aload_n 0, 1) := by decide +kernel
theorem dX9_without_84 : decode cX9_without 84 = .ok (.getfield 11, 3) := by decide +kernel
theorem dX9_without_87 : decode cX9_without 87 = .ok (.iload 4, 2) := by decide +kernel
theorem dX9_without_89 : decode cX9_without 89 = .ok (.aload 5, 2) := by decide +kernel
theorem dX9_without_91 : decode cX9_without 91 = .ok (.iload 6, 2) := by decide +kernel
theorem dX9_without_93 : decode cX9_without 93 = .ok (.aload_n 0, 1) := by decide +kernel
theorem dX9_without_94 : decode cX9_without 94 = .ok (.iload_n 3, 1) := by decide +kernel
theorem dX9_without_95 : decode cX9_without 95 = .ok (.invokevirtual 56, 3) := by decide +kernel
theorem dX9_without_98 : decode cX9_without 98 = .ok (.invokevirtual 93, 3) := by decide +kernel
theorem dX9_without_101 : decode cX9_without 101 = .ok (.aastore, 1) := by decide +kernel
theorem dX9_without_102 : decode cX9_without 102 = .ok (.iinc 3 (-1), 3) := by decide +kernel
theorem dX9_without_105 : decode cX9_without 105 = .ok (.goto (-98), 3) := by decide +kernel
theorem dX9_without_108 : decode cX9_without 108 = .ok (.aload_n 0, 1) := by decide +kernel
theorem dX9_without_109 : decode cX9_without 109 = .ok (.getfield 11, 3) := by decide +kernel
theorem dX9_without_112 : decode cX9_without 112 = .ok (.iconst 0, 1) := by decide +kernel
theorem dX9_without_113 : decode cX9_without 113 = .ok (.aaload, 1) := by decide +kernel
theorem dX9_without_114 : decode cX9_without 114 = .ok (.areturn, 1) := by decide +kernel
theorem dX10_init_0 : decode cX10_init 0 = .ok (.aload_n 0, 1) := by decide +kernel
theorem dX10_init_1 : decode cX10_init 1 = .ok (.invokespecial 1, 3) := by decide +kernel
theorem dX10_init_4 : decode cX10_init 4 = .ok (.new 7, 3) := by decide +kernel
theorem dX10_init_7 : decode cX10_init 7 = .ok (.dup, 1) := by decide +kernel
theorem dX10_init_8 : decode cX10_init 8 = .ok (.iconst 0, 1) := by decide +kernel
theorem dX10_init_9 : decode cX10_init 9 = .ok (.sipush (-10000), 3) := by decide +kernel
theorem dX10_init_12 : decode cX10_init 12 = .ok (.aconst_null, 1) := by decide +kernel
theorem dX10_init_13 : decode cX10_init 13 = .ok (.aconst_null, 1) := by decide +kernel
theorem dX10_init_14 : decode cX10_init 14 = .ok (.invokespecial 11, 3) := by decide +kernel
theorem dX10_init_17 : decode cX10_init 17 = .ok (.astore_n 1, 1) := by decide +kernel
theorem dX10_init_18 : decode cX10_init 18 = .ok (.aload_n 0, 1) := by decide +kernel
theorem dX10_init_19 : decode cX10_init 19 = .ok (.bipush 6, 2) := by decide +kernel
theorem dX10_init_21 : decode cX10_init 21 = .ok (.anewarray 7, 3) := by decide +kernel
theorem dX10_init_24 : decode cX10_init 24 = .ok (.putfield 14, 3) := by decide +kernel
theorem dX10_init_27 : decode cX10_init 27 = .ok (.iconst 0, 1) := by decide +kernel
theorem dX10_init_28 : decode cX10_init 28 = .ok (.istore_n 2, 1) := by decide +kernel
theorem dX10_init_29 : decode cX10_init 29 = .ok (.iload_n 2, 1) := by decide +kernel
theorem dX10_init_30 : decode cX10_init 30 = .ok (.bipush 6, 2) := by decide +kernel
theorem dX10_init_32 : decode cX10_init 32 = .ok (.if_icmp .ge 16, 3) := by decide +kernel
theorem dX10_init_35 : decode cX10_init 35 = .ok (.aload_n 0, 1) := by decide +kernel
theorem dX10_init_36 : decode cX10_init 36 = .ok (.getfield 14, 3) := by decide +kernel
theorem dX10_init_39 : decode cX10_init 39 = .ok (.iload_n 2, 1) := by decide +kernel
theorem dX10_init_40 : decode cX10_init 40 = .ok (.aload_n 1, 1) := by decide +kernel
theorem dX10_init_41 : decode cX10_init 41 = .ok (.aastore, 1) := by decide +kernel
theorem dX10_init_42 : decode cX10_init 42 = .ok (.iinc 2 1, 3) := by decide +kernel
theorem dX10_init_45 : decode cX10_init 45 = .ok (.goto (-16), 3) := by decide +kernel
theorem dX10_init_48 : decode cX10_init 48 = .ok (.aload_n 0, 1) := by decide +kernel
theorem dX10_init_49 : decode cX10_init 49 = .ok (.aload_n 1, 1) := by decide +kernel
theorem dX10_init_50 : decode cX10_init 50 = .ok (.putfield 18, 3) := by decide +kernel
theorem dX10_init_53 : decode cX10_init 53 = .ok (.aload_n 0, 1) := by decide +kernel
theorem dX10_init_54 : decode cX10_init 54 = .ok (.new 22, 3) := by decide +kernel
theorem dX10_init_57 : decode cX10_init 57 = .ok (.dup, 1) := by decide +kernel
theorem dX10_init_58 : decode cX10_init 58 = .ok (.invokespecial 24, 3) := by decide +kernel
theorem dX10_init_61 : decode cX10_init 61 = .ok (.putfield 25, 3) := by decide +kernel
theorem dX10_init_64 : decode cX10_init 64 = .ok (.aload_n 0, 1) := by decide +kernel
theorem dX10_init_65 : decode cX10_init 65 = .ok (.new 29, 3) := by decide +kernel
theorem dX10_init_68 : decode cX10_init 68 = .ok (.dup, 1) := by decide +kernel
theorem dX10_init_69 : decode cX10_init 69 = .ok (.aload_n 1, 1) := by decide +kernel
theorem dX10_init_70 : decode cX10_init 70 = .ok (.invokespecial 31, 3) := by decide +kernel
theorem dX10_init_73 : decode cX10_init 73 = .ok (.putfield 34, 3) := by decide +kernel
theorem dX10_init_76 : decode cX10_init 76 = .ok (.aload_n 0, 1) := by decide +kernel
theorem dX10_init_77 : decode cX10_init 77 = .ok (.bipush 8, 2) := by decide +kernel
theorem dX10_init_79 : decode cX10_init 79 = .ok (.anewarray 38, 3) := by decide +kernel
theorem dX10_init_82 : decode cX10_init 82 = .ok (.putfield 40, 3) := by decide +kernel
theorem dX10_init_85 : decode cX10_init 85 = .ok (.iconst 0, 1) := by decide +kernel
theorem dX10_init_86 : decode cX10_init 86 = .ok (.istore_n 2, 1) := by decide +kernel
theorem dX10_init_87 : decode cX10_init 87 = .ok (.iload_n 2, 1) := by decide +kernel
theorem dX10_init_88 : decode cX10_init 88 = .ok (.bipush 8, 2) := by decide +kernel
theorem dX10_init_90 : decode cX10_init 90 = .ok (.if_icmp .ge 22, 3) := by decide +kernel
theorem dX10_init_93 : decode cX10_init 93 = .ok (.aload_n 0, 1) := by decide +kernel
theorem dX10_init_94 : decode cX10_init 94 = .ok (.getfield 40, 3) := by decide +kernel
theorem dX10_init_97 : decode cX10_init 97 = .ok (.iload_n 2, 1) := by decide +kernel
theorem dX10_init_98 : decode cX10_init 98 = .ok (.new 38, 3) := by decide +kernel
theorem dX10_init_101 : decode cX10_init 101 = .ok (.dup, 1) := by decide +kernel
theorem dX10_init_102 : decode cX10_init 102 = .ok (.invokespecial 44, 3) := by decide +kernel
theorem dX10_init_105 : decode cX10_init 105 = .ok (.aastore, 1) := by decide +kernel
theorem dX10_init_106 : decode cX10_init 106 = .ok (.iinc 2 1, 3) := by decide +kernel
theorem dX10_init_109 : decode cX10_init 109 = .ok (.goto (-22), 3) := by decide +kernel
theorem dX10_init_112 : decode cX10_init 112 = .ok (.aload_n 0, 1) := by decide +kernel
theorem dX10_init_113 : decode cX10_init 113 = .ok (.bipush 20, 2) := by decide +kernel
theorem dX10_init_115 : decode cX10_init 115 = .ok (.anewarray 7, 3) := by decide +kernel
theorem dX10_init_118 : decode cX10_init 118 = .ok (.putfield 45, 3) := by decide +kernel
theorem dX10_init_121 : decode cX10_init 121 = .ok (.aload_n 0, 1) := by decide +kernel
theorem dX10_init_122 : decode cX10_init 122 = .ok (.new 48, 3) := by decide +kernel
theorem dX10_init_125 : decode cX10_init 125 = .ok (.dup, 1) := by decide +kernel
theorem dX10_init_126 : decode cX10_init 126 = .ok (.invokespecial 50, 3) := by decide +kernel
theorem dX10_init_129 : decode cX10_init 129 = .ok (.putfield 51, 3) := by decide +kernel
theorem dX10_init_132 : decode cX10_init 132 = .ok (.aload_n 0, 1) := by decide +kernel
theorem dX10_init_133 : decode cX10_init 133 = .ok (.bipush 10, 2) := by decide +kernel
theorem dX10_init_135 : decode cX10_init 135 = .ok (.anewarray 55, 3) := by decide +kernel
theorem dX10_init_138 : decode cX10_init 138 = .ok (.putfield 57, 3) := by decide +kernel
theorem dX10_init_141 : decode cX10_init 141 = .ok (.iconst 0, 1) := by decide +kernel
theorem dX10_init_142 : decode cX10_init 142 = .ok (.istore_n 2, 1) := by decide +kernel
theorem dX10_init_143 : decode cX10_init 143 = .ok (.iload_n 2, 1) := by decide +kernel
theorem dX10_init_144 : decode cX10_init 144 = .ok (.bipush 10, 2) := by decide +kernel
theorem dX10_init_146 : decode cX10_init 146 = .ok (.if_icmp .ge 22, 3) := by decide +kernel
theorem dX10_init_149 : decode cX10_init 149 = .ok (.aload_n 0, 1) := by decide +kernel
theorem dX10_init_150 : decode cX10_init 150 = .ok (.getfield 57, 3) := by decide +kernel
theorem dX10_init_153 : decode cX10_init 153 = .ok (.iload_n 2, 1) := by decide +kernel
theorem dX10_init_154 : decode cX10_init 154 = .ok (.new 55, 3) := by decide +kernel
theorem dX10_init_157 : decode cX10_init 157 = .ok (.dup, 1) := by decide +kernel
theorem dX10_init_158 : decode cX10_init 158 = .ok (.invokespecial 61, 3) := by decide +kernel
theorem dX10_init_161 : decode cX10_init 161 = .ok (.aastore, 1) := by decide +kernel
theorem dX10_init_162 : decode cX10_init 162 = .ok (.iinc 2 1, 3) := by decide +kernel
theorem dX10_init_165 : decode cX10_init 165 = .ok (.goto (-22), 3) := by decide +kernel
theorem dX10_init_168 : decode cX10_init 168 = .ok (.aload_n 0, 1) := by decide +kernel
theorem dX10_init_169 : decode cX10_init 169 = .ok (.new 62, 3) := by decide +kernel
theorem dX10_init_172 : decode cX10_init 172 = .ok (.dup, 1) := by decide +kernel
theorem dX10_init_173 : decode cX10_init 173 = .ok (.invokespecial 64, 3) := by decide +kernel
theorem dX10_init_176 : decode cX10_init 176 = .ok (.putfield 65, 3) := by decide +kernel
theorem dX10_init_179 : decode cX10_init 179 = .ok (.aload_n 0, 1) := by decide +kernel
theorem dX10_init_180 : decode cX10_init 180 = .ok (.new 69, 3) := by decide +kernel
theorem dX10_init_183 : decode cX10_init 183 = .ok (.dup, 1) := by decide +kernel
theorem dX10_init_184 : decode cX10_init 184 = .ok (.aload_n 0, 1) := by decide +kernel
theorem dX10_init_185 : decode cX10_init 185 = .ok (.getfield 65, 3) := by decide +kernel
theorem dX10_init_188 : decode cX10_init 188 = .ok (.aload_n 0, 1) := by decide +kernel
theorem dX10_init_189 : decode cX10_init 189 = .ok (.getfield 57, 3) := by decide +kernel
theorem dX10_init_192 : decode cX10_init 192 = .ok (.invokespecial 71, 3) := by decide +kernel
theorem dX10_init_195 : decode cX10_init 195 = .ok (.putfield 74, 3) := by decide +kernel
theorem dX10_init_198 : decode cX10_init 198 = .ok (.aload_n 0, 1) := by decide +kernel
theorem dX10_init_199 : decode cX10_init 199 = .ok (.bipush 6, 2) := by decide +kernel
theorem dX10_init_201 : decode cX10_init 201 = .ok (.anewarray 78, 3) := by decide +kernel
theorem dX10_init_204 : decode cX10_init 204 = .ok (.putfield 80, 3) := by decide +kernel
theorem dX10_init_207 : decode cX10_init 207 = .ok (.iconst 0, 1) := by decide +kernel
theorem dX10_init_208 : decode cX10_init 208 = .ok (.istore_n 2, 1) := by decide +kernel
theorem dX10_init_209 : decode cX10_init 209 = .ok (.iload_n 2, 1) := by decide +kernel
theorem dX10_init_210 : decode cX10_init 210 = .ok (.bipush 6, 2) := by decide +kernel
theorem dX10_init_212 : decode cX10_init 212 = .ok (.if_icmp .ge 22, 3) := by decide +kernel
theorem dX10_init_215 : decode cX10_init 215 = .ok (.aload_n 0, 1) := by decide +kernel
theorem dX10_init_216 : decode cX10_init 216 = .ok (.getfield 80, 3) := by decide +kernel
theorem dX10_init_219 : decode cX10_init 219 = .ok (.iload_n 2, 1) := by decide +kernel
theorem dX10_init_220 : decode cX10_init 220 = .ok (.new 78, 3) := by decide +kernel
theorem dX10_init_223 : decode cX10_init 223 = .ok (.dup, 1) := by decide +kernel
theorem dX10_init_224 : decode cX10_init 224 = .ok (.invokespecial 84, 3) := by decide +kernel
theorem dX10_init_227 : decode cX10_init 227 = .ok (.aastore, 1) := by decide +kernel
theorem dX10_init_228 : decode cX10_init 228 = .ok (.iinc 2 1, 3) := by decide +kernel
theorem dX10_init_231 : decode cX10_init 231 = .ok (.goto (-22), 3) := by decide +kernel
theorem dX10_init_234 : decode cX10_init 234 = .ok (.return_, 1) := by decide +kernel
theorem dX10_point_0 : decode cX10_point 0 = .ok (.aload_n 0, 1) := by decide +kernel
theorem dX10_point_1 : decode cX10_point 1 = .ok (.iload_n 1, 1) := by decide +kernel
theorem dX10_point_2 : decode cX10_point 2 = .ok (.invokevirtual 85, 3) := by decide +kernel
theorem dX10_point_5 : decode cX10_point 5 = .ok (.astore_n 2, 1) := by decide +kernel
theorem dX10_point_6 : decode cX10_point 6 = .ok (.aload_n 0, 1) := by decide +kernel
theorem dX10_point_7 : decode cX10_point 7 = .ok (.getfield 25, 3) := by decide +kernel
theorem dX10_point_10 : decode cX10_point 10 = .ok (.iload_n 1, 1) := by decide +kernel
theorem dX10_point_11 : decode cX10_point 11 = .ok (.invokevirtual 89, 3) := by decide +kernel
theorem dX10_point_14 : decode cX10_point 14 = .ok (.aload_n 2, 1) := by decide +kernel
theorem dX10_point_15 : decode cX10_point 15 = .ok (.getfield 93, 3) := by decide +kernel
theorem dX10_point_18 : decode cX10_point 18 = .ok (.ireturn, 1) := by decide +kernel
theorem dX10_into_0 : decode cX10_into 0 = .ok (.aload_n 0, 1) := by decide +kernel
theorem dX10_into_1 : decode cX10_into 1 = .ok (.invokevirtual 97, 3) := by decide +kernel
theorem dX10_into_4 : decode cX10_into 4 = .ok (.astore_n 2, 1) := by decide +kernel
theorem dX10_into_5 : decode cX10_into 5 = .ok (.aload_n 2, 1) := by decide +kernel
theorem dX10_into_6 : decode cX10_into 6 = .ok (.aload_n 2, 1) := by decide +kernel
theorem dX10_into_7 : decode cX10_into 7 = .ok (.iload_n 1, 1) := by decide +kernel
theorem dX10_into_8 : decode cX10_into 8 = .ok (.invokevirtual 101, 3) := by decide +kernel
theorem dX10_into_11 : decode cX10_into 11 = .ok (.invokevirtual 105, 3) := by decide +kernel
theorem dX10_into_14 : decode cX10_into 14 = .ok (.astore_n 3, 1) := by decide +kernel
theorem dX10_into_15 : decode cX10_into 15 = .ok (.aload_n 3, 1) := by decide +kernel
theorem dX10_into_16 : decode cX10_into 16 = .ok (.ifnull 14, 3) := by decide +kernel
theorem dX10_into_19 : decode cX10_into 19 = .ok (.aload_n 0, 1) := by decide +kernel
theorem dX10_into_20 : decode cX10_into 20 = .ok (.getfield 25, 3) := by decide +kernel
theorem dX10_into_23 : decode cX10_into 23 = .ok (.iload_n 1, 1) := by decide +kernel
theorem dX10_into_24 : decode cX10_into 24 = .ok (.invokevirtual 108, 3) := by decide +kernel
theorem dX10_into_27 : decode cX10_into 27 = .ok (.ifCond .ne 13, 3) := by decide +kernel
theorem dX10_into_30 : decode cX10_into 30 = .ok (.new 112, 3) := by decide +kernel
theorem dX10_into_33 : decode cX10_into 33 = .ok (.dup, 1) := by decide +kernel
theorem dX10_into_34 : decode cX10_into 34 = .ok (.ldc 114, 2) := by decide +kernel
theorem dX10_into_36 : decode cX10_into 36 = .ok (.invokespecial 116, 3) := by decide +kernel
theorem dX10_into_39 : decode cX10_into 39 = .ok (.athrow, 1) := by decide +kernel
theorem dX10_into_40 : decode cX10_into 40 = .ok (.aload_n 3, 1) := by decide +kernel
theorem dX10_into_41 : decode cX10_into 41 = .ok (.getfield 93, 3) := by decide +kernel
theorem dX10_into_44 : decode cX10_into 44 = .ok (.ireturn, 1) := by decide +kernel
theorem dX10_up_0 : decode cX10_up 0 = .ok (.aload_n 0, 1) := by decide +kernel
theorem dX10_up_1 : decode cX10_up 1 = .ok (.getfield 25, 3) := by decide +kernel
theorem dX10_up_4 : decode cX10_up 4 = .ok (.invokevirtual 119, 3) := by decide +kernel
theorem dX10_up_7 : decode cX10_up 7 = .ok (.ifCond .ne 13, 3) := by decide +kernel
theorem dX10_up_10 : decode cX10_up 10 = .ok (.new 123, 3) := by decide +kernel
theorem dX10_up_13 : decode cX10_up 13 = .ok (.dup, 1) := by decide +kernel
theorem dX10_up_14 : decode cX10_up 14 = .ok (.ldc 125, 2) := by decide +kernel
theorem dX10_up_16 : decode cX10_up 16 = .ok (.invokespecial 127, 3) := by decide +kernel
theorem dX10_up_19 : decode cX10_up 19 = .ok (.athrow, 1) := by decide +kernel
theorem dX10_up_20 : decode cX10_up 20 = .ok (.aload_n 0, 1) := by decide +kernel
theorem dX10_up_21 : decode cX10_up 21 = .ok (.getfield 25, 3) := by decide +kernel
theorem dX10_up_24 : decode cX10_up 24 = .ok (.getfield 128, 3) := by decide +kernel
theorem dX10_up_27 : decode cX10_up 27 = .ok (.ireturn, 1) := by decide +kernel
theorem dX10_document_0 : decode cX10_document 0 = .ok (.aload_n 0, 1) := by decide +kernel
theorem dX10_document_1 : decode cX10_document 1 = .ok (.getfield 25, 3) := by decide +kernel
theorem dX10_document_4 : decode cX10_document 4 = .ok (.getfield 131, 3) := by decide +kernel
theorem dX10_document_7 : decode cX10_document 7 = .ok (.ireturn, 1) := by decide +kernel
theorem dX10_steps_0 : decode cX10_steps 0 = .ok (.aload_n 0, 1) := by decide +kernel
theorem dX10_steps_1 : decode cX10_steps 1 = .ok (.getfield 25, 3) := by decide +kernel
theorem dX10_steps_4 : decode cX10_steps 4 = .ok (.getfield 128, 3) := by decide +kernel
theorem dX10_steps_7 : decode cX10_steps 7 = .ok (.ireturn, 1) := by decide +kernel
theorem dX10_stepAt_0 : decode cX10_stepAt 0 = .ok (.iload_n 1, 1) := by decide +kernel
theorem dX10_stepAt_1 : decode cX10_stepAt 1 = .ok (.ifCond .lt 26, 3) := by decide +kernel
theorem dX10_stepAt_4 : decode cX10_stepAt 4 = .ok (.iload_n 1, 1) := by decide +kernel
theorem dX10_stepAt_5 : decode cX10_stepAt 5 = .ok (.aload_n 0, 1) := by decide +kernel
theorem dX10_stepAt_6 : decode cX10_stepAt 6 = .ok (.getfield 25, 3) := by decide +kernel
theorem dX10_stepAt_9 : decode cX10_stepAt 9 = .ok (.getfield 128, 3) := by decide +kernel
theorem dX10_stepAt_12 : decode cX10_stepAt 12 = .ok (.if_icmp .ge 15, 3) := by decide +kernel
theorem dX10_stepAt_15 : decode cX10_stepAt 15 = .ok (.iload_n 1, 1) := by decide +kernel
theorem dX10_stepAt_16 : decode cX10_stepAt 16 = .ok (.aload_n 0, 1) := by decide +kernel
theorem dX10_stepAt_17 : decode cX10_stepAt 17 = .ok (.getfield 25, 3) := by decide +kernel
theorem dX10_stepAt_20 : decode cX10_stepAt 20 = .ok (.getfield 134, 3) := by decide +kernel
theorem dX10_stepAt_23 : decode cX10_stepAt 23 = .ok (.arraylength, 1) := by decide +kernel
theorem dX10_stepAt_24 : decode cX10_stepAt 24 = .ok (.if_icmp .lt 13, 3) := by decide +kernel
theorem dX10_stepAt_27 : decode cX10_stepAt 27 = .ok (.new 112, 3) := by decide +kernel
theorem dX10_stepAt_30 : decode cX10_stepAt 30 = .ok (.dup, 1) := by decide +kernel
theorem dX10_stepAt_31 : decode cX10_stepAt 31 = .ok (.ldc 138, 2) := by decide +kernel
theorem dX10_stepAt_33 : decode cX10_stepAt 33 = .ok (.invokespecial 116, 3) := by decide +kernel
theorem dX10_stepAt_36 : decode cX10_stepAt 36 = .ok (.athrow, 1) := by decide +kernel
theorem dX10_stepAt_37 : decode cX10_stepAt 37 = .ok (.aload_n 0, 1) := by decide +kernel
theorem dX10_stepAt_38 : decode cX10_stepAt 38 = .ok (.getfield 25, 3) := by decide +kernel
theorem dX10_stepAt_41 : decode cX10_stepAt 41 = .ok (.getfield 134, 3) := by decide +kernel
theorem dX10_stepAt_44 : decode cX10_stepAt 44 = .ok (.iload_n 1, 1) := by decide +kernel
theorem dX10_stepAt_45 : decode cX10_stepAt 45 = .ok (.iaload, 1) := by decide +kernel
theorem dX10_stepAt_46 : decode cX10_stepAt 46 = .ok (.ireturn, 1) := by decide +kernel
theorem dX10_set_0 : decode cX10_set 0 = .ok (.iload_n 1, 1) := by decide +kernel
theorem dX10_set_1 : decode cX10_set 1 = .ok (.ifCond .lt 41, 3) := by decide +kernel
theorem dX10_set_4 : decode cX10_set 4 = .ok (.iload_n 1, 1) := by decide +kernel
theorem dX10_set_5 : decode cX10_set 5 = .ok (.iconst 4, 1) := by decide +kernel
theorem dX10_set_6 : decode cX10_set 6 = .ok (.if_icmp .gt 36, 3) := by decide +kernel
theorem dX10_set_9 : decode cX10_set 9 = .ok (.iload_n 1, 1) := by decide +kernel
theorem dX10_set_10 : decode cX10_set 10 = .ok (.iconst 1, 1) := by decide +kernel
theorem dX10_set_11 : decode cX10_set 11 = .ok (.if_icmp .ne 12, 3) := by decide +kernel
theorem dX10_set_14 : decode cX10_set 14 = .ok (.iload_n 2, 1) := by decide +kernel
theorem dX10_set_15 : decode cX10_set 15 = .ok (.ifCond .lt 27, 3) := by decide +kernel
theorem dX10_set_18 : decode cX10_set 18 = .ok (.iload_n 2, 1) := by decide +kernel
theorem dX10_set_19 : decode cX10_set 19 = .ok (.iconst 1, 1) := by decide +kernel
theorem dX10_set_20 : decode cX10_set 20 = .ok (.if_icmp .gt 22, 3) := by decide +kernel
theorem dX10_set_23 : decode cX10_set 23 = .ok (.iload_n 1, 1) := by decide +kernel
theorem dX10_set_24 : decode cX10_set 24 = .ok (.iconst 2, 1) := by decide +kernel
theorem dX10_set_25 : decode cX10_set 25 = .ok (.if_icmp .ne 21, 3) := by decide +kernel
theorem dX10_set_28 : decode cX10_set 28 = .ok (.iload_n 2, 1) := by decide +kernel
theorem dX10_set_29 : decode cX10_set 29 = .ok (.sipush (-9999), 3) := by decide +kernel
theorem dX10_set_32 : decode cX10_set 32 = .ok (.if_icmp .lt 10, 3) := by decide +kernel
theorem dX10_set_35 : decode cX10_set 35 = .ok (.iload_n 2, 1) := by decide +kernel
theorem dX10_set_36 : decode cX10_set 36 = .ok (.sipush 9999, 3) := by decide +kernel
theorem dX10_set_39 : decode cX10_set 39 = .ok (.if_icmp .le 7, 3) := by decide +kernel
theorem dX10_set_42 : decode cX10_set 42 = .ok (.iconst 1, 1) := by decide +kernel
theorem dX10_set_43 : decode cX10_set 43 = .ok (.goto 4, 3) := by decide +kernel
theorem dX10_set_46 : decode cX10_set 46 = .ok (.iconst 0, 1) := by decide +kernel
theorem dX10_set_47 : decode cX10_set 47 = .ok (.istore_n 3, 1) := by decide +kernel
theorem dX10_set_48 : decode cX10_set 48 = .ok (.iload_n 3, 1) := by decide +kernel
theorem dX10_set_49 : decode cX10_set 49 = .ok (.ifCond .eq 13, 3) := by decide +kernel
theorem dX10_set_52 : decode cX10_set 52 = .ok (.new 140, 3) := by decide +kernel
theorem dX10_set_55 : decode cX10_set 55 = .ok (.dup, 1) := by decide +kernel
theorem dX10_set_56 : decode cX10_set 56 = .ok (.ldc 142, 2) := by decide +kernel
theorem dX10_set_58 : decode cX10_set 58 = .ok (.invokespecial 144, 3) := by decide +kernel
theorem dX10_set_61 : decode cX10_set 61 = .ok (.athrow, 1) := by decide +kernel
theorem dX10_set_62 : decode cX10_set 62 = .ok (.aload_n 0, 1) := by decide +kernel
theorem dX10_set_63 : decode cX10_set 63 = .ok (.invokevirtual 97, 3) := by decide +kernel
theorem dX10_set_66 : decode cX10_set 66 = .ok (.getfield 145, 3) := by decide +kernel
theorem dX10_set_69 : decode cX10_set 69 = .ok (.istore 4, 2) := by decide +kernel
theorem dX10_set_71 : decode cX10_set 71 = .ok (.iload_n 1, 1) := by decide +kernel
theorem dX10_set_72 : decode cX10_set 72 = .ok (.iconst 1, 1) := by decide +kernel
theorem dX10_set_73 : decode cX10_set 73 = .ok (.if_icmp .eq 8, 3) := by decide +kernel
theorem dX10_set_76 : decode cX10_set 76 = .ok (.iload_n 1, 1) := by decide +kernel
theorem dX10_set_77 : decode cX10_set 77 = .ok (.iconst 2, 1) := by decide +kernel
theorem dX10_set_78 : decode cX10_set 78 = .ok (.if_icmp .ne 7, 3) := by decide +kernel
theorem dX10_set_81 : decode cX10_set 81 = .ok (.iconst 1, 1) := by decide +kernel
theorem dX10_set_82 : decode cX10_set 82 = .ok (.goto 4, 3) := by decide +kernel
theorem dX10_set_85 : decode cX10_set 85 = .ok (.iconst 0, 1) := by decide +kernel
theorem dX10_set_86 : decode cX10_set 86 = .ok (.istore 5, 2) := by decide +kernel
theorem dX10_set_88 : decode cX10_set 88 = .ok (.new 7, 3) := by decide +kernel
theorem dX10_set_91 : decode cX10_set 91 = .ok (.dup, 1) := by decide +kernel
theorem dX10_set_92 : decode cX10_set 92 = .ok (.iload_n 1, 1) := by decide +kernel
theorem dX10_set_93 : decode cX10_set 93 = .ok (.iload 5, 2) := by decide +kernel
theorem dX10_set_95 : decode cX10_set 95 = .ok (.ifCond .eq 7, 3) := by decide +kernel
theorem dX10_set_98 : decode cX10_set 98 = .ok (.iload_n 2, 1) := by decide +kernel
theorem dX10_set_99 : decode cX10_set 99 = .ok (.goto 6, 3) := by decide +kernel
theorem dX10_set_102 : decode cX10_set 102 = .ok (.sipush (-10000), 3) := by decide +kernel
theorem dX10_set_105 : decode cX10_set 105 = .ok (.aconst_null, 1) := by decide +kernel
theorem dX10_set_106 : decode cX10_set 106 = .ok (.aconst_null, 1) := by decide +kernel
theorem dX10_set_107 : decode cX10_set 107 = .ok (.invokespecial 11, 3) := by decide +kernel
theorem dX10_set_110 : decode cX10_set 110 = .ok (.astore 6, 2) := by decide +kernel
theorem dX10_set_112 : decode cX10_set 112 = .ok (.aload_n 0, 1) := by decide +kernel
theorem dX10_set_113 : decode cX10_set 113 = .ok (.getfield 34, 3) := by decide +kernel
theorem dX10_set_116 : decode cX10_set 116 = .ok (.aload_n 0, 1) := by decide +kernel
theorem dX10_set_117 : decode cX10_set 117 = .ok (.aload_n 0, 1) := by decide +kernel
theorem dX10_set_118 : decode cX10_set 118 = .ok (.getfield 25, 3) := by decide +kernel
theorem dX10_set_121 : decode cX10_set 121 = .ok (.getfield 131, 3) := by decide +kernel
theorem dX10_set_124 : decode cX10_set 124 = .ok (.invokevirtual 85, 3) := by decide +kernel
theorem dX10_set_127 : decode cX10_set 127 = .ok (.invokevirtual 148, 3) := by decide +kernel
theorem dX10_set_130 : decode cX10_set 130 = .ok (.aload_n 0, 1) := by decide +kernel
theorem dX10_set_131 : decode cX10_set 131 = .ok (.aload_n 0, 1) := by decide +kernel
theorem dX10_set_132 : decode cX10_set 132 = .ok (.getfield 34, 3) := by decide +kernel
theorem dX10_set_135 : decode cX10_set 135 = .ok (.aload_n 0, 1) := by decide +kernel
theorem dX10_set_136 : decode cX10_set 136 = .ok (.getfield 25, 3) := by decide +kernel
theorem dX10_set_139 : decode cX10_set 139 = .ok (.getfield 134, 3) := by decide +kernel
theorem dX10_set_142 : decode cX10_set 142 = .ok (.aload_n 0, 1) := by decide +kernel
theorem dX10_set_143 : decode cX10_set 143 = .ok (.getfield 25, 3) := by decide +kernel
theorem dX10_set_146 : decode cX10_set 146 = .ok (.getfield 128, 3) := by decide +kernel
theorem dX10_set_149 : decode cX10_set 149 = .ok (.aload 6, 2) := by decide +kernel
theorem dX10_set_151 : decode cX10_set 151 = .ok (.invokevirtual 151, 3) := by decide +kernel
theorem dX10_set_154 : decode cX10_set 154 = .ok (.invokevirtual 155, 3) := by decide +kernel
theorem dX10_set_157 : decode cX10_set 157 = .ok (.pop, 1) := by decide +kernel
theorem dX10_set_158 : decode cX10_set 158 = .ok (.iload 4, 2) := by decide +kernel
theorem dX10_set_160 : decode cX10_set 160 = .ok (.ireturn, 1) := by decide +kernel
theorem dX10_copy_0 : decode cX10_copy 0 = .ok (.aload_n 0, 1) := by decide +kernel
theorem dX10_copy_1 : decode cX10_copy 1 = .ok (.aload_n 0, 1) := by decide +kernel
theorem dX10_copy_2 : decode cX10_copy 2 = .ok (.invokevirtual 97, 3) := by decide +kernel
theorem dX10_copy_5 : decode cX10_copy 5 = .ok (.putfield 18, 3) := by decide +kernel
theorem dX10_copy_8 : decode cX10_copy 8 = .ok (.aload_n 0, 1) := by decide +kernel
theorem dX10_copy_9 : decode cX10_copy 9 = .ok (.getfield 18, 3) := by decide +kernel
theorem dX10_copy_12 : decode cX10_copy 12 = .ok (.getfield 145, 3) := by decide +kernel
theorem dX10_copy_15 : decode cX10_copy 15 = .ok (.ireturn, 1) := by decide +kernel
theorem dX10_insert_0 : decode cX10_insert 0 = .ok (.aload_n 0, 1) := by decide +kernel
theorem dX10_insert_1 : decode cX10_insert 1 = .ok (.getfield 34, 3) := by decide +kernel
theorem dX10_insert_4 : decode cX10_insert 4 = .ok (.aload_n 0, 1) := by decide +kernel
theorem dX10_insert_5 : decode cX10_insert 5 = .ok (.aload_n 0, 1) := by decide +kernel
theorem dX10_insert_6 : decode cX10_insert 6 = .ok (.getfield 25, 3) := by decide +kernel
theorem dX10_insert_9 : decode cX10_insert 9 = .ok (.getfield 131, 3) := by decide +kernel
theorem dX10_insert_12 : decode cX10_insert 12 = .ok (.invokevirtual 85, 3) := by decide +kernel
theorem dX10_insert_15 : decode cX10_insert 15 = .ok (.invokevirtual 148, 3) := by decide +kernel
theorem dX10_insert_18 : decode cX10_insert 18 = .ok (.aload_n 0, 1) := by decide +kernel
theorem dX10_insert_19 : decode cX10_insert 19 = .ok (.aload_n 0, 1) := by decide +kernel
theorem dX10_insert_20 : decode cX10_insert 20 = .ok (.getfield 34, 3) := by decide +kernel
theorem dX10_insert_23 : decode cX10_insert 23 = .ok (.aload_n 0, 1) := by decide +kernel
theorem dX10_insert_24 : decode cX10_insert 24 = .ok (.getfield 25, 3) := by decide +kernel
theorem dX10_insert_27 : decode cX10_insert 27 = .ok (.getfield 134, 3) := by decide +kernel
theorem dX10_insert_30 : decode cX10_insert 30 = .ok (.aload_n 0, 1) := by decide +kernel
theorem dX10_insert_31 : decode cX10_insert 31 = .ok (.getfield 25, 3) := by decide +kernel
theorem dX10_insert_34 : decode cX10_insert 34 = .ok (.getfield 128, 3) := by decide +kernel
theorem dX10_insert_37 : decode cX10_insert 37 = .ok (.iload_n 1, 1) := by decide +kernel
theorem dX10_insert_38 : decode cX10_insert 38 = .ok (.aload_n 0, 1) := by decide +kernel
theorem dX10_insert_39 : decode cX10_insert 39 = .ok (.getfield 18, 3) := by decide +kernel
theorem dX10_insert_42 : decode cX10_insert 42 = .ok (.invokevirtual 159, 3) := by decide +kernel
theorem dX10_insert_45 : decode cX10_insert 45 = .ok (.invokevirtual 155, 3) := by decide +kernel
theorem dX10_insert_48 : decode cX10_insert 48 = .ok (.ireturn, 1) := by decide +kernel
theorem dX10_drop_0 : decode cX10_drop 0 = .ok (.aload_n 0, 1) := by decide +kernel
theorem dX10_drop_1 : decode cX10_drop 1 = .ok (.getfield 34, 3) := by decide +kernel
theorem dX10_drop_4 : decode cX10_drop 4 = .ok (.aload_n 0, 1) := by decide +kernel
theorem dX10_drop_5 : decode cX10_drop 5 = .ok (.aload_n 0, 1) := by decide +kernel
theorem dX10_drop_6 : decode cX10_drop 6 = .ok (.getfield 25, 3) := by decide +kernel
theorem dX10_drop_9 : decode cX10_drop 9 = .ok (.getfield 131, 3) := by decide +kernel
theorem dX10_drop_12 : decode cX10_drop 12 = .ok (.invokevirtual 85, 3) := by decide +kernel
theorem dX10_drop_15 : decode cX10_drop 15 = .ok (.invokevirtual 148, 3) := by decide +kernel
theorem dX10_drop_18 : decode cX10_drop 18 = .ok (.aload_n 0, 1) := by decide +kernel
theorem dX10_drop_19 : decode cX10_drop 19 = .ok (.aload_n 0, 1) := by decide +kernel
theorem dX10_drop_20 : decode cX10_drop 20 = .ok (.getfield 34, 3) := by decide +kernel
theorem dX10_drop_23 : decode cX10_drop 23 = .ok (.aload_n 0, 1) := by decide +kernel
theorem dX10_drop_24 : decode cX10_drop 24 = .ok (.getfield 25, 3) := by decide +kernel
theorem dX10_drop_27 : decode cX10_drop 27 = .ok (.getfield 134, 3) := by decide +kernel
theorem dX10_drop_30 : decode cX10_drop 30 = .ok (.aload_n 0, 1) := by decide +kernel
theorem dX10_drop_31 : decode cX10_drop 31 = .ok (.getfield 25, 3) := by decide +kernel
theorem dX10_drop_34 : decode cX10_drop 34 = .ok (.getfield 128, 3) := by decide +kernel
theorem dX10_drop_37 : decode cX10_drop 37 = .ok (.iload_n 1, 1) := by decide +kernel
theorem dX10_drop_38 : decode cX10_drop 38 = .ok (.invokevirtual 163, 3) := by decide +kernel
theorem dX10_drop_41 : decode cX10_drop 41 = .ok (.invokevirtual 155, 3) := by decide +kernel
theorem dX10_drop_44 : decode cX10_drop 44 = .ok (.ireturn, 1) := by decide +kernel
theorem dX10_kind_0 : decode cX10_kind 0 = .ok (.aload_n 0, 1) := by decide +kernel
theorem dX10_kind_1 : decode cX10_kind 1 = .ok (.invokevirtual 97, 3) := by decide +kernel
theorem dX10_kind_4 : decode cX10_kind 4 = .ok (.getfield 93, 3) := by decide +kernel
theorem dX10_kind_7 : decode cX10_kind 7 = .ok (.ireturn, 1) := by decide +kernel
theorem dX10_number_0 : decode cX10_number 0 = .ok (.aload_n 0, 1) := by decide +kernel
theorem dX10_number_1 : decode cX10_number 1 = .ok (.invokevirtual 97, 3) := by decide +kernel
theorem dX10_number_4 : decode cX10_number 4 = .ok (.getfield 167, 3) := by decide +kernel
theorem dX10_number_7 : decode cX10_number 7 = .ok (.ireturn, 1) := by decide +kernel
theorem dX10_children_0 : decode cX10_children 0 = .ok (.aload_n 0, 1) := by decide +kernel
theorem dX10_children_1 : decode cX10_children 1 = .ok (.invokevirtual 97, 3) := by decide +kernel
theorem dX10_children_4 : decode cX10_children 4 = .ok (.invokevirtual 170, 3) := by decide +kernel
theorem dX10_children_7 : decode cX10_children 7 = .ok (.ireturn, 1) := by decide +kernel
theorem dX10_childStep_0 : decode cX10_childStep 0 = .ok (.aload_n 0, 1) := by decide +kernel
theorem dX10_childStep_1 : decode cX10_childStep 1 = .ok (.invokevirtual 97, 3) := by decide +kernel
theorem dX10_childStep_4 : decode cX10_childStep 4 = .ok (.astore_n 2, 1) := by decide +kernel
theorem dX10_childStep_5 : decode cX10_childStep 5 = .ok (.iload_n 1, 1) := by decide +kernel
theorem dX10_childStep_6 : decode cX10_childStep 6 = .ok (.ifCond .lt 11, 3) := by decide +kernel
theorem dX10_childStep_9 : decode cX10_childStep 9 = .ok (.iload_n 1, 1) := by decide +kernel
theorem dX10_childStep_10 : decode cX10_childStep 10 = .ok (.aload_n 2, 1) := by decide +kernel
theorem dX10_childStep_11 : decode cX10_childStep 11 = .ok (.invokevirtual 170, 3) := by decide +kernel
theorem dX10_childStep_14 : decode cX10_childStep 14 = .ok (.if_icmp .lt 13, 3) := by decide +kernel
theorem dX10_childStep_17 : decode cX10_childStep 17 = .ok (.new 112, 3) := by decide +kernel
theorem dX10_childStep_20 : decode cX10_childStep 20 = .ok (.dup, 1) := by decide +kernel
theorem dX10_childStep_21 : decode cX10_childStep 21 = .ok (.ldc 174, 2) := by decide +kernel
theorem dX10_childStep_23 : decode cX10_childStep 23 = .ok (.invokespecial 116, 3) := by decide +kernel
theorem dX10_childStep_26 : decode cX10_childStep 26 = .ok (.athrow, 1) := by decide +kernel
theorem dX10_childStep_27 : decode cX10_childStep 27 = .ok (.aload_n 2, 1) := by decide +kernel
theorem dX10_childStep_28 : decode cX10_childStep 28 = .ok (.iload_n 1, 1) := by decide +kernel
theorem dX10_childStep_29 : decode cX10_childStep 29 = .ok (.invokevirtual 176, 3) := by decide +kernel
theorem dX10_childStep_32 : decode cX10_childStep 32 = .ok (.ireturn, 1) := by decide +kernel
theorem dX10_size_0 : decode cX10_size 0 = .ok (.aload_n 0, 1) := by decide +kernel
theorem dX10_size_1 : decode cX10_size 1 = .ok (.iload_n 1, 1) := by decide +kernel
theorem dX10_size_2 : decode cX10_size 2 = .ok (.invokevirtual 85, 3) := by decide +kernel
theorem dX10_size_5 : decode cX10_size 5 = .ok (.getfield 145, 3) := by decide +kernel
theorem dX10_size_8 : decode cX10_size 8 = .ok (.ireturn, 1) := by decide +kernel
theorem dX10_depth_0 : decode cX10_depth 0 = .ok (.aload_n 0, 1) := by decide +kernel
theorem dX10_depth_1 : decode cX10_depth 1 = .ok (.iload_n 1, 1) := by decide +kernel
theorem dX10_depth_2 : decode cX10_depth 2 = .ok (.invokevirtual 85, 3) := by decide +kernel
theorem dX10_depth_5 : decode cX10_depth 5 = .ok (.getfield 179, 3) := by decide +kernel
theorem dX10_depth_8 : decode cX10_depth 8 = .ok (.ireturn, 1) := by decide +kernel
theorem dX10_clip_0 : decode cX10_clip 0 = .ok (.aload_n 0, 1) := by decide +kernel
theorem dX10_clip_1 : decode cX10_clip 1 = .ok (.getfield 18, 3) := by decide +kernel
theorem dX10_clip_4 : decode cX10_clip 4 = .ok (.getfield 145, 3) := by decide +kernel
theorem dX10_clip_7 : decode cX10_clip 7 = .ok (.ireturn, 1) := by decide +kernel
theorem dX10_apply_0 : decode cX10_apply 0 = .ok (.aload_n 0, 1) := by decide +kernel
theorem dX10_apply_1 : decode cX10_apply 1 = .ok (.iload_n 1, 1) := by decide +kernel
theorem dX10_apply_2 : decode cX10_apply 2 = .ok (.invokevirtual 185, 3) := by decide +kernel
theorem dX10_apply_5 : decode cX10_apply 5 = .ok (.astore_n 3, 1) := by decide +kernel
theorem dX10_apply_6 : decode cX10_apply 6 = .ok (.aload_n 0, 1) := by decide +kernel
theorem dX10_apply_7 : decode cX10_apply 7 = .ok (.aload_n 3, 1) := by decide +kernel
theorem dX10_apply_8 : decode cX10_apply 8 = .ok (.aload_n 0, 1) := by decide +kernel
theorem dX10_apply_9 : decode cX10_apply 9 = .ok (.iload_n 2, 1) := by decide +kernel
theorem dX10_apply_10 : decode cX10_apply 10 = .ok (.invokevirtual 85, 3) := by decide +kernel
theorem dX10_apply_13 : decode cX10_apply 13 = .ok (.invokevirtual 209, 3) := by decide +kernel
theorem dX10_apply_16 : decode cX10_apply 16 = .ok (.iconst (-1), 1) := by decide +kernel
theorem dX10_apply_17 : decode cX10_apply 17 = .ok (.if_icmp .eq 5, 3) := by decide +kernel
theorem dX10_apply_20 : decode cX10_apply 20 = .ok (.iconst (-1), 1) := by decide +kernel
theorem dX10_apply_21 : decode cX10_apply 21 = .ok (.ireturn, 1) := by decide +kernel
theorem dX10_apply_22 : decode cX10_apply 22 = .ok (.aload_n 0, 1) := by decide +kernel
theorem dX10_apply_23 : decode cX10_apply 23 = .ok (.iload_n 2, 1) := by decide +kernel
theorem dX10_apply_24 : decode cX10_apply 24 = .ok (.aload_n 0, 1) := by decide +kernel
theorem dX10_apply_25 : decode cX10_apply 25 = .ok (.getfield 34, 3) := by decide +kernel
theorem dX10_apply_28 : decode cX10_apply 28 = .ok (.getfield 213, 3) := by decide +kernel
theorem dX10_apply_31 : decode cX10_apply 31 = .ok (.invokevirtual 216, 3) := by decide +kernel
theorem dX10_apply_34 : decode cX10_apply 34 = .ok (.aload_n 0, 1) := by decide +kernel
theorem dX10_apply_35 : decode cX10_apply 35 = .ok (.getfield 220, 3) := by decide +kernel
theorem dX10_apply_38 : decode cX10_apply 38 = .ok (.bipush 8, 2) := by decide +kernel
theorem dX10_apply_40 : decode cX10_apply 40 = .ok (.if_icmp .lt 6, 3) := by decide +kernel
theorem dX10_apply_43 : decode cX10_apply 43 = .ok (.bipush (-2), 2) := by decide +kernel
theorem dX10_apply_45 : decode cX10_apply 45 = .ok (.ireturn, 1) := by decide +kernel
theorem dX10_apply_46 : decode cX10_apply 46 = .ok (.aload_n 0, 1) := by decide +kernel
theorem dX10_apply_47 : decode cX10_apply 47 = .ok (.invokevirtual 182, 3) := by decide +kernel
theorem dX10_apply_50 : decode cX10_apply 50 = .ok (.istore 4, 2) := by decide +kernel
theorem dX10_apply_52 : decode cX10_apply 52 = .ok (.aload_n 0, 1) := by decide +kernel
theorem dX10_apply_53 : decode cX10_apply 53 = .ok (.aload_n 3, 1) := by decide +kernel
theorem dX10_apply_54 : decode cX10_apply 54 = .ok (.aload_n 0, 1) := by decide +kernel
theorem dX10_apply_55 : decode cX10_apply 55 = .ok (.iload 4, 2) := by decide +kernel
theorem dX10_apply_57 : decode cX10_apply 57 = .ok (.invokevirtual 185, 3) := by decide +kernel
theorem dX10_apply_60 : decode cX10_apply 60 = .ok (.invokevirtual 223, 3) := by decide +kernel
theorem dX10_apply_63 : decode cX10_apply 63 = .ok (.iload 4, 2) := by decide +kernel
theorem dX10_apply_65 : decode cX10_apply 65 = .ok (.ireturn, 1) := by decide +kernel
theorem dX10_failsAt_0 : decode cX10_failsAt 0 = .ok (.aload_n 0, 1) := by decide +kernel
theorem dX10_failsAt_1 : decode cX10_failsAt 1 = .ok (.iload_n 1, 1) := by decide +kernel
theorem dX10_failsAt_2 : decode cX10_failsAt 2 = .ok (.invokevirtual 185, 3) := by decide +kernel
theorem dX10_failsAt_5 : decode cX10_failsAt 5 = .ok (.astore_n 3, 1) := by decide +kernel
theorem dX10_failsAt_6 : decode cX10_failsAt 6 = .ok (.aload_n 0, 1) := by decide +kernel
theorem dX10_failsAt_7 : decode cX10_failsAt 7 = .ok (.aload_n 3, 1) := by decide +kernel
theorem dX10_failsAt_8 : decode cX10_failsAt 8 = .ok (.aload_n 0, 1) := by decide +kernel
theorem dX10_failsAt_9 : decode cX10_failsAt 9 = .ok (.iload_n 2, 1) := by decide +kernel
theorem dX10_failsAt_10 : decode cX10_failsAt 10 = .ok (.invokevirtual 85, 3) := by decide +kernel
theorem dX10_failsAt_13 : decode cX10_failsAt 13 = .ok (.invokevirtual 209, 3) := by decide +kernel
theorem dX10_failsAt_16 : decode cX10_failsAt 16 = .ok (.ireturn, 1) := by decide +kernel
theorem dX10_diff_0 : decode cX10_diff 0 = .ok (.aload_n 0, 1) := by decide +kernel
theorem dX10_diff_1 : decode cX10_diff 1 = .ok (.getfield 51, 3) := by decide +kernel
theorem dX10_diff_4 : decode cX10_diff 4 = .ok (.aload_n 0, 1) := by decide +kernel
theorem dX10_diff_5 : decode cX10_diff 5 = .ok (.iload_n 1, 1) := by decide +kernel
theorem dX10_diff_6 : decode cX10_diff 6 = .ok (.invokevirtual 85, 3) := by decide +kernel
theorem dX10_diff_9 : decode cX10_diff 9 = .ok (.aload_n 0, 1) := by decide +kernel
theorem dX10_diff_10 : decode cX10_diff 10 = .ok (.iload_n 2, 1) := by decide +kernel
theorem dX10_diff_11 : decode cX10_diff 11 = .ok (.invokevirtual 85, 3) := by decide +kernel
theorem dX10_diff_14 : decode cX10_diff 14 = .ok (.invokevirtual 227, 3) := by decide +kernel
theorem dX10_diff_17 : decode cX10_diff 17 = .ok (.istore_n 3, 1) := by decide +kernel
theorem dX10_diff_18 : decode cX10_diff 18 = .ok (.iload_n 3, 1) := by decide +kernel
theorem dX10_diff_19 : decode cX10_diff 19 = .ok (.bipush 20, 2) := by decide +kernel
theorem dX10_diff_21 : decode cX10_diff 21 = .ok (.if_icmp .le 13, 3) := by decide +kernel
theorem dX10_diff_24 : decode cX10_diff 24 = .ok (.new 123, 3) := by decide +kernel
theorem dX10_diff_27 : decode cX10_diff 27 = .ok (.dup, 1) := by decide +kernel
theorem dX10_diff_28 : decode cX10_diff 28 = .ok (.ldc 231, 2) := by decide +kernel
theorem dX10_diff_30 : decode cX10_diff 30 = .ok (.invokespecial 127, 3) := by decide +kernel
theorem dX10_diff_33 : decode cX10_diff 33 = .ok (.athrow, 1) := by decide +kernel
theorem dX10_diff_34 : decode cX10_diff 34 = .ok (.aload_n 0, 1) := by decide +kernel
theorem dX10_diff_35 : decode cX10_diff 35 = .ok (.invokevirtual 182, 3) := by decide +kernel
theorem dX10_diff_38 : decode cX10_diff 38 = .ok (.istore 4, 2) := by decide +kernel
theorem dX10_diff_40 : decode cX10_diff 40 = .ok (.iconst 0, 1) := by decide +kernel
theorem dX10_diff_41 : decode cX10_diff 41 = .ok (.istore 5, 2) := by decide +kernel
theorem dX10_diff_43 : decode cX10_diff 43 = .ok (.iload 5, 2) := by decide +kernel
theorem dX10_diff_45 : decode cX10_diff 45 = .ok (.iload_n 3, 1) := by decide +kernel
theorem dX10_diff_46 : decode cX10_diff 46 = .ok (.if_icmp .ge 27, 3) := by decide +kernel
theorem dX10_diff_49 : decode cX10_diff 49 = .ok (.aload_n 0, 1) := by decide +kernel
theorem dX10_diff_50 : decode cX10_diff 50 = .ok (.iload 4, 2) := by decide +kernel
theorem dX10_diff_52 : decode cX10_diff 52 = .ok (.invokevirtual 185, 3) := by decide +kernel
theorem dX10_diff_55 : decode cX10_diff 55 = .ok (.aload_n 0, 1) := by decide +kernel
theorem dX10_diff_56 : decode cX10_diff 56 = .ok (.getfield 51, 3) := by decide +kernel
theorem dX10_diff_59 : decode cX10_diff 59 = .ok (.iload 5, 2) := by decide +kernel
theorem dX10_diff_61 : decode cX10_diff 61 = .ok (.invokevirtual 233, 3) := by decide +kernel
theorem dX10_diff_64 : decode cX10_diff 64 = .ok (.invokevirtual 205, 3) := by decide +kernel
theorem dX10_diff_67 : decode cX10_diff 67 = .ok (.iinc 5 1, 3) := by decide +kernel
theorem dX10_diff_70 : decode cX10_diff 70 = .ok (.goto (-27), 3) := by decide +kernel
theorem dX10_diff_73 : decode cX10_diff 73 = .ok (.iload 4, 2) := by decide +kernel
theorem dX10_diff_75 : decode cX10_diff 75 = .ok (.ireturn, 1) := by decide +kernel
theorem dX10_forget_0 : decode cX10_forget 0 = .ok (.aload_n 0, 1) := by decide +kernel
theorem dX10_forget_1 : decode cX10_forget 1 = .ok (.getfield 220, 3) := by decide +kernel
theorem dX10_forget_4 : decode cX10_forget 4 = .ok (.ifCond .ne 13, 3) := by decide +kernel
theorem dX10_forget_7 : decode cX10_forget 7 = .ok (.new 123, 3) := by decide +kernel
theorem dX10_forget_10 : decode cX10_forget 10 = .ok (.dup, 1) := by decide +kernel
theorem dX10_forget_11 : decode cX10_forget 11 = .ok (.ldc 237, 2) := by decide +kernel
theorem dX10_forget_13 : decode cX10_forget 13 = .ok (.invokespecial 127, 3) := by decide +kernel
theorem dX10_forget_16 : decode cX10_forget 16 = .ok (.athrow, 1) := by decide +kernel
theorem dX10_forget_17 : decode cX10_forget 17 = .ok (.aload_n 0, 1) := by decide +kernel
theorem dX10_forget_18 : decode cX10_forget 18 = .ok (.dup, 1) := by decide +kernel
theorem dX10_forget_19 : decode cX10_forget 19 = .ok (.getfield 220, 3) := by decide +kernel
theorem dX10_forget_22 : decode cX10_forget 22 = .ok (.iconst 1, 1) := by decide +kernel
theorem dX10_forget_23 : decode cX10_forget 23 = .ok (.isub, 1) := by decide +kernel
theorem dX10_forget_24 : decode cX10_forget 24 = .ok (.putfield 220, 3) := by decide +kernel
theorem dX10_forget_27 : decode cX10_forget 27 = .ok (.aload_n 0, 1) := by decide +kernel
theorem dX10_forget_28 : decode cX10_forget 28 = .ok (.getfield 220, 3) := by decide +kernel
theorem dX10_forget_31 : decode cX10_forget 31 = .ok (.ireturn, 1) := by decide +kernel
theorem dX10_patches_0 : decode cX10_patches 0 = .ok (.aload_n 0, 1) := by decide +kernel
theorem dX10_patches_1 : decode cX10_patches 1 = .ok (.getfield 220, 3) := by decide +kernel
theorem dX10_patches_4 : decode cX10_patches 4 = .ok (.ireturn, 1) := by decide +kernel
theorem dX10_operations_0 : decode cX10_operations 0 = .ok (.aload_n 0, 1) := by decide +kernel
theorem dX10_operations_1 : decode cX10_operations 1 = .ok (.iload_n 1, 1) := by decide +kernel
theorem dX10_operations_2 : decode cX10_operations 2 = .ok (.invokevirtual 185, 3) := by decide +kernel
theorem dX10_operations_5 : decode cX10_operations 5 = .ok (.getfield 191, 3) := by decide +kernel
theorem dX10_operations_8 : decode cX10_operations 8 = .ok (.ireturn, 1) := by decide +kernel
theorem dX10_ofOperation_0 : decode cX10_ofOperation 0 = .ok (.aload_n 0, 1) := by decide +kernel
theorem dX10_ofOperation_1 : decode cX10_ofOperation 1 = .ok (.iload_n 1, 1) := by decide +kernel
theorem dX10_ofOperation_2 : decode cX10_ofOperation 2 = .ok (.invokevirtual 185, 3) := by decide +kernel
theorem dX10_ofOperation_5 : decode cX10_ofOperation 5 = .ok (.iload_n 2, 1) := by decide +kernel
theorem dX10_ofOperation_6 : decode cX10_ofOperation 6 = .ok (.invokevirtual 239, 3) := by decide +kernel
theorem dX10_ofOperation_9 : decode cX10_ofOperation 9 = .ok (.astore 4, 2) := by decide +kernel
theorem dX10_ofOperation_11 : decode cX10_ofOperation 11 = .ok (.aload 4, 2) := by decide +kernel
theorem dX10_ofOperation_13 : decode cX10_ofOperation 13 = .ok (.ifnonnull 13, 3) := by decide +kernel
theorem dX10_ofOperation_16 : decode cX10_ofOperation 16 = .ok (.new 112, 3) := by decide +kernel
theorem dX10_ofOperation_19 : decode cX10_ofOperation 19 = .ok (.dup, 1) := by decide +kernel
theorem dX10_ofOperation_20 : decode cX10_ofOperation 20 = .ok (.ldc 240, 2) := by decide +kernel
theorem dX10_ofOperation_22 : decode cX10_ofOperation 22 = .ok (.invokespecial 116, 3) := by decide +kernel
theorem dX10_ofOperation_25 : decode cX10_ofOperation 25 = .ok (.athrow, 1) := by decide +kernel
theorem dX10_ofOperation_26 : decode cX10_ofOperation 26 = .ok (.iload_n 3, 1) := by decide +kernel
theorem dX10_ofOperation_27 : decode cX10_ofOperation 27 = .ok (.ifCond .lt 8, 3) := by decide +kernel
theorem dX10_ofOperation_30 : decode cX10_ofOperation 30 = .ok (.iload_n 3, 1) := by decide +kernel
theorem dX10_ofOperation_31 : decode cX10_ofOperation 31 = .ok (.iconst 3, 1) := by decide +kernel
theorem dX10_ofOperation_32 : decode cX10_ofOperation 32 = .ok (.if_icmp .le 13, 3) := by decide +kernel
theorem dX10_ofOperation_35 : decode cX10_ofOperation 35 = .ok (.new 140, 3) := by decide +kernel
theorem dX10_ofOperation_38 : decode cX10_ofOperation 38 = .ok (.dup, 1) := by decide +kernel
theorem dX10_ofOperation_39 : decode cX10_ofOperation 39 = .ok (.ldc 242, 2) := by decide +kernel
theorem dX10_ofOperation_41 : decode cX10_ofOperation 41 = .ok (.invokespecial 144, 3) := by decide +kernel
theorem dX10_ofOperation_44 : decode cX10_ofOperation 44 = .ok (.athrow, 1) := by decide +kernel
theorem dX10_ofOperation_45 : decode cX10_ofOperation 45 = .ok (.aload 4, 2) := by decide +kernel
theorem dX10_ofOperation_47 : decode cX10_ofOperation 47 = .ok (.iload_n 3, 1) := by decide +kernel
theorem dX10_ofOperation_48 : decode cX10_ofOperation 48 = .ok (.invokevirtual 244, 3) := by decide +kernel
theorem dX10_ofOperation_51 : decode cX10_ofOperation 51 = .ok (.ireturn, 1) := by decide +kernel
theorem dX10_difference_0 : decode cX10_difference 0 = .ok (.aload_n 0, 1) := by decide +kernel
theorem dX10_difference_1 : decode cX10_difference 1 = .ok (.getfield 51, 3) := by decide +kernel
theorem dX10_difference_4 : decode cX10_difference 4 = .ok (.aload_n 0, 1) := by decide +kernel
theorem dX10_difference_5 : decode cX10_difference 5 = .ok (.iload_n 1, 1) := by decide +kernel
theorem dX10_difference_6 : decode cX10_difference 6 = .ok (.invokevirtual 85, 3) := by decide +kernel
theorem dX10_difference_9 : decode cX10_difference 9 = .ok (.aload_n 0, 1) := by decide +kernel
theorem dX10_difference_10 : decode cX10_difference 10 = .ok (.iload_n 2, 1) := by decide +kernel
theorem dX10_difference_11 : decode cX10_difference 11 = .ok (.invokevirtual 85, 3) := by decide +kernel
theorem dX10_difference_14 : decode cX10_difference 14 = .ok (.invokevirtual 247, 3) := by decide +kernel
theorem dX10_difference_17 : decode cX10_difference 17 = .ok (.ireturn, 1) := by decide +kernel
theorem dX10_changes_0 : decode cX10_changes 0 = .ok (.aload_n 0, 1) := by decide +kernel
theorem dX10_changes_1 : decode cX10_changes 1 = .ok (.getfield 51, 3) := by decide +kernel
theorem dX10_changes_4 : decode cX10_changes 4 = .ok (.aload_n 0, 1) := by decide +kernel
theorem dX10_changes_5 : decode cX10_changes 5 = .ok (.iload_n 1, 1) := by decide +kernel
theorem dX10_changes_6 : decode cX10_changes 6 = .ok (.invokevirtual 85, 3) := by decide +kernel
theorem dX10_changes_9 : decode cX10_changes 9 = .ok (.aload_n 0, 1) := by decide +kernel
theorem dX10_changes_10 : decode cX10_changes 10 = .ok (.iload_n 2, 1) := by decide +kernel
theorem dX10_changes_11 : decode cX10_changes 11 = .ok (.invokevirtual 85, 3) := by decide +kernel
theorem dX10_changes_14 : decode cX10_changes 14 = .ok (.invokevirtual 227, 3) := by decide +kernel
theorem dX10_changes_17 : decode cX10_changes 17 = .ok (.ireturn, 1) := by decide +kernel
theorem dX10_fitting_0 : decode cX10_fitting 0 = .ok (.iconst 0, 1) := by decide +kernel
theorem dX10_fitting_1 : decode cX10_fitting 1 = .ok (.istore_n 2, 1) := by decide +kernel
theorem dX10_fitting_2 : decode cX10_fitting 2 = .ok (.iconst 0, 1) := by decide +kernel
theorem dX10_fitting_3 : decode cX10_fitting 3 = .ok (.istore_n 3, 1) := by decide +kernel
theorem dX10_fitting_4 : decode cX10_fitting 4 = .ok (.iload_n 3, 1) := by decide +kernel
theorem dX10_fitting_5 : decode cX10_fitting 5 = .ok (.bipush 6, 2) := by decide +kernel
theorem dX10_fitting_7 : decode cX10_fitting 7 = .ok (.if_icmp .ge 25, 3) := by decide +kernel
theorem dX10_fitting_10 : decode cX10_fitting 10 = .ok (.aload_n 0, 1) := by decide +kernel
theorem dX10_fitting_11 : decode cX10_fitting 11 = .ok (.iload_n 3, 1) := by decide +kernel
theorem dX10_fitting_12 : decode cX10_fitting 12 = .ok (.iload_n 1, 1) := by decide +kernel
theorem dX10_fitting_13 : decode cX10_fitting 13 = .ok (.iconst (-1), 1) := by decide +kernel
theorem dX10_fitting_14 : decode cX10_fitting 14 = .ok (.invokevirtual 295, 3) := by decide +kernel
theorem dX10_fitting_17 : decode cX10_fitting 17 = .ok (.ifCond .ne 9, 3) := by decide +kernel
theorem dX10_fitting_20 : decode cX10_fitting 20 = .ok (.iload_n 2, 1) := by decide +kernel
theorem dX10_fitting_21 : decode cX10_fitting 21 = .ok (.iconst 1, 1) := by decide +kernel
theorem dX10_fitting_22 : decode cX10_fitting 22 = .ok (.iload_n 3, 1) := by decide +kernel
theorem dX10_fitting_23 : decode cX10_fitting 23 = .ok (.ishl, 1) := by decide +kernel
theorem dX10_fitting_24 : decode cX10_fitting 24 = .ok (.ior, 1) := by decide +kernel
theorem dX10_fitting_25 : decode cX10_fitting 25 = .ok (.istore_n 2, 1) := by decide +kernel
theorem dX10_fitting_26 : decode cX10_fitting 26 = .ok (.iinc 3 1, 3) := by decide +kernel
theorem dX10_fitting_29 : decode cX10_fitting 29 = .ok (.goto (-25), 3) := by decide +kernel
theorem dX10_fitting_32 : decode cX10_fitting 32 = .ok (.iload_n 2, 1) := by decide +kernel
theorem dX10_fitting_33 : decode cX10_fitting 33 = .ok (.ireturn, 1) := by decide +kernel
theorem dX10_addQuery_0 : decode cX10_addQuery 0 = .ok (.aload_n 0, 1) := by decide +kernel
theorem dX10_addQuery_1 : decode cX10_addQuery 1 = .ok (.getfield 311, 3) := by decide +kernel
theorem dX10_addQuery_4 : decode cX10_addQuery 4 = .ok (.bipush 6, 2) := by decide +kernel
theorem dX10_addQuery_6 : decode cX10_addQuery 6 = .ok (.if_icmp .lt 14, 3) := by decide +kernel
theorem dX10_addQuery_9 : decode cX10_addQuery 9 = .ok (.new 123, 3) := by decide +kernel
theorem dX10_addQuery_12 : decode cX10_addQuery 12 = .ok (.dup, 1) := by decide +kernel
theorem dX10_addQuery_13 : decode cX10_addQuery 13 = .ok (.ldc_w 314, 3) := by decide +kernel
theorem dX10_addQuery_16 : decode cX10_addQuery 16 = .ok (.invokespecial 127, 3) := by decide +kernel
theorem dX10_addQuery_19 : decode cX10_addQuery 19 = .ok (.athrow, 1) := by decide +kernel
theorem dX10_addQuery_20 : decode cX10_addQuery 20 = .ok (.aload_n 0, 1) := by decide +kernel
theorem dX10_addQuery_21 : decode cX10_addQuery 21 = .ok (.dup, 1) := by decide +kernel
theorem dX10_addQuery_22 : decode cX10_addQuery 22 = .ok (.getfield 311, 3) := by decide +kernel
theorem dX10_addQuery_25 : decode cX10_addQuery 25 = .ok (.iconst 1, 1) := by decide +kernel
theorem dX10_addQuery_26 : decode cX10_addQuery 26 = .ok (.iadd, 1) := by decide +kernel
theorem dX10_addQuery_27 : decode cX10_addQuery 27 = .ok (.putfield 311, 3) := by decide +kernel
theorem dX10_addQuery_30 : decode cX10_addQuery 30 = .ok (.aload_n 0, 1) := by decide +kernel
theorem dX10_addQuery_31 : decode cX10_addQuery 31 = .ok (.getfield 311, 3) := by decide +kernel
theorem dX10_addQuery_34 : decode cX10_addQuery 34 = .ok (.iconst 1, 1) := by decide +kernel
theorem dX10_addQuery_35 : decode cX10_addQuery 35 = .ok (.isub, 1) := by decide +kernel
theorem dX10_addQuery_36 : decode cX10_addQuery 36 = .ok (.ireturn, 1) := by decide +kernel
theorem dX10_addPart_0 : decode cX10_addPart 0 = .ok (.aload_n 0, 1) := by decide +kernel
theorem dX10_addPart_1 : decode cX10_addPart 1 = .ok (.iload_n 1, 1) := by decide +kernel
theorem dX10_addPart_2 : decode cX10_addPart 2 = .ok (.invokevirtual 316, 3) := by decide +kernel
theorem dX10_addPart_5 : decode cX10_addPart 5 = .ok (.astore 4, 2) := by decide +kernel
theorem dX10_addPart_7 : decode cX10_addPart 7 = .ok (.iload_n 2, 1) := by decide +kernel
theorem dX10_addPart_8 : decode cX10_addPart 8 = .ok (.iload_n 3, 1) := by decide +kernel
theorem dX10_addPart_9 : decode cX10_addPart 9 = .ok (.invokestatic 320, 3) := by decide +kernel
theorem dX10_addPart_12 : decode cX10_addPart 12 = .ok (.ifCond .ne 14, 3) := by decide +kernel
theorem dX10_addPart_15 : decode cX10_addPart 15 = .ok (.new 140, 3) := by decide +kernel
theorem dX10_addPart_18 : decode cX10_addPart 18 = .ok (.dup, 1) := by decide +kernel
theorem dX10_addPart_19 : decode cX10_addPart 19 = .ok (.ldc_w 324, 3) := by decide +kernel
theorem dX10_addPart_22 : decode cX10_addPart 22 = .ok (.invokespecial 144, 3) := by decide +kernel
theorem dX10_addPart_25 : decode cX10_addPart 25 = .ok (.athrow, 1) := by decide +kernel
theorem dX10_addPart_26 : decode cX10_addPart 26 = .ok (.aload 4, 2) := by decide +kernel
theorem dX10_addPart_28 : decode cX10_addPart 28 = .ok (.iload_n 2, 1) := by decide +kernel
theorem dX10_addPart_29 : decode cX10_addPart 29 = .ok (.iload_n 3, 1) := by decide +kernel
theorem dX10_addPart_30 : decode cX10_addPart 30 = .ok (.invokevirtual 326, 3) := by decide +kernel
theorem dX10_addPart_33 : decode cX10_addPart 33 = .ok (.ifCond .ne 14, 3) := by decide +kernel
theorem dX10_addPart_36 : decode cX10_addPart 36 = .ok (.new 123, 3) := by decide +kernel
theorem dX10_addPart_39 : decode cX10_addPart 39 = .ok (.dup, 1) := by decide +kernel
theorem dX10_addPart_40 : decode cX10_addPart 40 = .ok (.ldc_w 328, 3) := by decide +kernel
theorem dX10_addPart_43 : decode cX10_addPart 43 = .ok (.invokespecial 127, 3) := by decide +kernel
theorem dX10_addPart_46 : decode cX10_addPart 46 = .ok (.athrow, 1) := by decide +kernel
theorem dX10_addPart_47 : decode cX10_addPart 47 = .ok (.aload 4, 2) := by decide +kernel
theorem dX10_addPart_49 : decode cX10_addPart 49 = .ok (.getfield 330, 3) := by decide +kernel
theorem dX10_addPart_52 : decode cX10_addPart 52 = .ok (.ireturn, 1) := by decide +kernel
theorem dX10_found_0 : decode cX10_found 0 = .ok (.aload_n 0, 1) := by decide +kernel
theorem dX10_found_1 : decode cX10_found 1 = .ok (.iload_n 1, 1) := by decide +kernel
theorem dX10_found_2 : decode cX10_found 2 = .ok (.iload_n 2, 1) := by decide +kernel
theorem dX10_found_3 : decode cX10_found 3 = .ok (.invokevirtual 331, 3) := by decide +kernel
theorem dX10_found_6 : decode cX10_found 6 = .ok (.invokestatic 335, 3) := by decide +kernel
theorem dX10_found_9 : decode cX10_found 9 = .ok (.ireturn, 1) := by decide +kernel
theorem dX10_dropFound_0 : decode cX10_dropFound 0 = .ok (.aload_n 0, 1) := by decide +kernel
theorem dX10_dropFound_1 : decode cX10_dropFound 1 = .ok (.iload_n 2, 1) := by decide +kernel
theorem dX10_dropFound_2 : decode cX10_dropFound 2 = .ok (.aload_n 0, 1) := by decide +kernel
theorem dX10_dropFound_3 : decode cX10_dropFound 3 = .ok (.getfield 65, 3) := by decide +kernel
theorem dX10_dropFound_6 : decode cX10_dropFound 6 = .ok (.aload_n 0, 1) := by decide +kernel
theorem dX10_dropFound_7 : decode cX10_dropFound 7 = .ok (.iload_n 1, 1) := by decide +kernel
theorem dX10_dropFound_8 : decode cX10_dropFound 8 = .ok (.iload_n 2, 1) := by decide +kernel
theorem dX10_dropFound_9 : decode cX10_dropFound 9 = .ok (.invokevirtual 331, 3) := by decide +kernel
theorem dX10_dropFound_12 : decode cX10_dropFound 12 = .ok (.invokevirtual 363, 3) := by decide +kernel
theorem dX10_dropFound_15 : decode cX10_dropFound 15 = .ok (.invokevirtual 216, 3) := by decide +kernel
theorem dX10_dropFound_18 : decode cX10_dropFound 18 = .ok (.aload_n 0, 1) := by decide +kernel
theorem dX10_dropFound_19 : decode cX10_dropFound 19 = .ok (.iload_n 2, 1) := by decide +kernel
theorem dX10_dropFound_20 : decode cX10_dropFound 20 = .ok (.invokevirtual 85, 3) := by decide +kernel
theorem dX10_dropFound_23 : decode cX10_dropFound 23 = .ok (.getfield 145, 3) := by decide +kernel
theorem dX10_dropFound_26 : decode cX10_dropFound 26 = .ok (.ireturn, 1) := by decide +kernel
theorem dX10_digest_0 : decode cX10_digest 0 = .ok (.ldc2_w 367, 3) := by decide +kernel
theorem dX10_digest_3 : decode cX10_digest 3 = .ok (.lstore_n 1, 1) := by decide +kernel
theorem dX10_digest_4 : decode cX10_digest 4 = .ok (.lload_n 1, 1) := by decide +kernel
theorem dX10_digest_5 : decode cX10_digest 5 = .ok (.ldc2_w 369, 3) := by decide +kernel
theorem dX10_digest_8 : decode cX10_digest 8 = .ok (.lmul, 1) := by decide +kernel
theorem dX10_digest_9 : decode cX10_digest 9 = .ok (.aload_n 0, 1) := by decide +kernel
theorem dX10_digest_10 : decode cX10_digest 10 = .ok (.getfield 25, 3) := by decide +kernel
theorem dX10_digest_13 : decode cX10_digest 13 = .ok (.getfield 131, 3) := by decide +kernel
theorem dX10_digest_16 : decode cX10_digest 16 = .ok (.i2l, 1) := by decide +kernel
theorem dX10_digest_17 : decode cX10_digest 17 = .ok (.ladd, 1) := by decide +kernel
theorem dX10_digest_18 : decode cX10_digest 18 = .ok (.lstore_n 1, 1) := by decide +kernel
theorem dX10_digest_19 : decode cX10_digest 19 = .ok (.lload_n 1, 1) := by decide +kernel
theorem dX10_digest_20 : decode cX10_digest 20 = .ok (.ldc2_w 369, 3) := by decide +kernel
theorem dX10_digest_23 : decode cX10_digest 23 = .ok (.lmul, 1) := by decide +kernel
theorem dX10_digest_24 : decode cX10_digest 24 = .ok (.aload_n 0, 1) := by decide +kernel
theorem dX10_digest_25 : decode cX10_digest 25 = .ok (.getfield 25, 3) := by decide +kernel
theorem dX10_digest_28 : decode cX10_digest 28 = .ok (.getfield 128, 3) := by decide +kernel
theorem dX10_digest_31 : decode cX10_digest 31 = .ok (.i2l, 1) := by decide +kernel
theorem dX10_digest_32 : decode cX10_digest 32 = .ok (.ladd, 1) := by decide +kernel
theorem dX10_digest_33 : decode cX10_digest 33 = .ok (.lstore_n 1, 1) := by decide +kernel
theorem dX10_digest_34 : decode cX10_digest 34 = .ok (.iconst 0, 1) := by decide +kernel
theorem dX10_digest_35 : decode cX10_digest 35 = .ok (.istore_n 3, 1) := by decide +kernel
theorem dX10_digest_36 : decode cX10_digest 36 = .ok (.iload_n 3, 1) := by decide +kernel
theorem dX10_digest_37 : decode cX10_digest 37 = .ok (.aload_n 0, 1) := by decide +kernel
theorem dX10_digest_38 : decode cX10_digest 38 = .ok (.getfield 25, 3) := by decide +kernel
theorem dX10_digest_41 : decode cX10_digest 41 = .ok (.getfield 128, 3) := by decide +kernel
theorem dX10_digest_44 : decode cX10_digest 44 = .ok (.if_icmp .ge 22, 3) := by decide +kernel
theorem dX10_digest_47 : decode cX10_digest 47 = .ok (.lload_n 1, 1) := by decide +kernel
theorem dX10_digest_48 : decode cX10_digest 48 = .ok (.ldc2_w 369, 3) := by decide +kernel
theorem dX10_digest_51 : decode cX10_digest 51 = .ok (.lmul, 1) := by decide +kernel
theorem dX10_digest_52 : decode cX10_digest 52 = .ok (.aload_n 0, 1) := by decide +kernel
theorem dX10_digest_53 : decode cX10_digest 53 = .ok (.iload_n 3, 1) := by decide +kernel
theorem dX10_digest_54 : decode cX10_digest 54 = .ok (.invokevirtual 371, 3) := by decide +kernel
theorem dX10_digest_57 : decode cX10_digest 57 = .ok (.i2l, 1) := by decide +kernel
theorem dX10_digest_58 : decode cX10_digest 58 = .ok (.ladd, 1) := by decide +kernel
theorem dX10_digest_59 : decode cX10_digest 59 = .ok (.lstore_n 1, 1) := by decide +kernel
theorem dX10_digest_60 : decode cX10_digest 60 = .ok (.iinc 3 1, 3) := by decide +kernel
theorem dX10_digest_63 : decode cX10_digest 63 = .ok (.goto (-27), 3) := by decide +kernel
theorem dX10_digest_66 : decode cX10_digest 66 = .ok (.iconst 0, 1) := by decide +kernel
theorem dX10_digest_67 : decode cX10_digest 67 = .ok (.istore_n 3, 1) := by decide +kernel
theorem dX10_digest_68 : decode cX10_digest 68 = .ok (.iload_n 3, 1) := by decide +kernel
theorem dX10_digest_69 : decode cX10_digest 69 = .ok (.bipush 6, 2) := by decide +kernel
theorem dX10_digest_71 : decode cX10_digest 71 = .ok (.if_icmp .ge 20, 3) := by decide +kernel
theorem dX10_digest_74 : decode cX10_digest 74 = .ok (.aload_n 0, 1) := by decide +kernel
theorem dX10_digest_75 : decode cX10_digest 75 = .ok (.lload_n 1, 1) := by decide +kernel
theorem dX10_digest_76 : decode cX10_digest 76 = .ok (.aload_n 0, 1) := by decide +kernel
theorem dX10_digest_77 : decode cX10_digest 77 = .ok (.iload_n 3, 1) := by decide +kernel
theorem dX10_digest_78 : decode cX10_digest 78 = .ok (.invokevirtual 85, 3) := by decide +kernel
theorem dX10_digest_81 : decode cX10_digest 81 = .ok (.invokevirtual 374, 3) := by decide +kernel
theorem dX10_digest_84 : decode cX10_digest 84 = .ok (.lstore_n 1, 1) := by decide +kernel
theorem dX10_digest_85 : decode cX10_digest 85 = .ok (.iinc 3 1, 3) := by decide +kernel
theorem dX10_digest_88 : decode cX10_digest 88 = .ok (.goto (-20), 3) := by decide +kernel
theorem dX10_digest_91 : decode cX10_digest 91 = .ok (.aload_n 0, 1) := by decide +kernel
theorem dX10_digest_92 : decode cX10_digest 92 = .ok (.lload_n 1, 1) := by decide +kernel
theorem dX10_digest_93 : decode cX10_digest 93 = .ok (.aload_n 0, 1) := by decide +kernel
theorem dX10_digest_94 : decode cX10_digest 94 = .ok (.getfield 18, 3) := by decide +kernel
theorem dX10_digest_97 : decode cX10_digest 97 = .ok (.invokevirtual 374, 3) := by decide +kernel
theorem dX10_digest_100 : decode cX10_digest 100 = .ok (.lstore_n 1, 1) := by decide +kernel
theorem dX10_digest_101 : decode cX10_digest 101 = .ok (.iconst 0, 1) := by decide +kernel
theorem dX10_digest_102 : decode cX10_digest 102 = .ok (.istore_n 3, 1) := by decide +kernel
theorem dX10_digest_103 : decode cX10_digest 103 = .ok (.iload_n 3, 1) := by decide +kernel
theorem dX10_digest_104 : decode cX10_digest 104 = .ok (.iconst 1, 1) := by decide +kernel
theorem dX10_digest_105 : decode cX10_digest 105 = .ok (.iadd, 1) := by decide +kernel
theorem dX10_digest_106 : decode cX10_digest 106 = .ok (.bipush 6, 2) := by decide +kernel
theorem dX10_digest_108 : decode cX10_digest 108 = .ok (.if_icmp .ge 25, 3) := by decide +kernel
theorem dX10_digest_111 : decode cX10_digest 111 = .ok (.lload_n 1, 1) := by decide +kernel
theorem dX10_digest_112 : decode cX10_digest 112 = .ok (.ldc2_w 369, 3) := by decide +kernel
theorem dX10_digest_115 : decode cX10_digest 115 = .ok (.lmul, 1) := by decide +kernel
theorem dX10_digest_116 : decode cX10_digest 116 = .ok (.aload_n 0, 1) := by decide +kernel
theorem dX10_digest_117 : decode cX10_digest 117 = .ok (.iload_n 3, 1) := by decide +kernel
theorem dX10_digest_118 : decode cX10_digest 118 = .ok (.iload_n 3, 1) := by decide +kernel
theorem dX10_digest_119 : decode cX10_digest 119 = .ok (.iconst 1, 1) := by decide +kernel
theorem dX10_digest_120 : decode cX10_digest 120 = .ok (.iadd, 1) := by decide +kernel
theorem dX10_digest_121 : decode cX10_digest 121 = .ok (.invokevirtual 378, 3) := by decide +kernel
theorem dX10_digest_124 : decode cX10_digest 124 = .ok (.i2l, 1) := by decide +kernel
theorem dX10_digest_125 : decode cX10_digest 125 = .ok (.ladd, 1) := by decide +kernel
theorem dX10_digest_126 : decode cX10_digest 126 = .ok (.lstore_n 1, 1) := by decide +kernel
theorem dX10_digest_127 : decode cX10_digest 127 = .ok (.iinc 3 1, 3) := by decide +kernel
theorem dX10_digest_130 : decode cX10_digest 130 = .ok (.goto (-27), 3) := by decide +kernel
theorem dX10_digest_133 : decode cX10_digest 133 = .ok (.aload_n 0, 1) := by decide +kernel
theorem dX10_digest_134 : decode cX10_digest 134 = .ok (.lload_n 1, 1) := by decide +kernel
theorem dX10_digest_135 : decode cX10_digest 135 = .ok (.invokevirtual 382, 3) := by decide +kernel
theorem dX10_digest_138 : decode cX10_digest 138 = .ok (.lstore_n 1, 1) := by decide +kernel
theorem dX10_digest_139 : decode cX10_digest 139 = .ok (.iconst 0, 1) := by decide +kernel
theorem dX10_digest_140 : decode cX10_digest 140 = .ok (.istore_n 3, 1) := by decide +kernel
theorem dX10_digest_141 : decode cX10_digest 141 = .ok (.iload_n 3, 1) := by decide +kernel
theorem dX10_digest_142 : decode cX10_digest 142 = .ok (.aload_n 0, 1) := by decide +kernel
theorem dX10_digest_143 : decode cX10_digest 143 = .ok (.getfield 250, 3) := by decide +kernel
theorem dX10_digest_146 : decode cX10_digest 146 = .ok (.if_icmp .ge 22, 3) := by decide +kernel
theorem dX10_digest_149 : decode cX10_digest 149 = .ok (.lload_n 1, 1) := by decide +kernel
theorem dX10_digest_150 : decode cX10_digest 150 = .ok (.ldc2_w 369, 3) := by decide +kernel
theorem dX10_digest_153 : decode cX10_digest 153 = .ok (.lmul, 1) := by decide +kernel
theorem dX10_digest_154 : decode cX10_digest 154 = .ok (.aload_n 0, 1) := by decide +kernel
theorem dX10_digest_155 : decode cX10_digest 155 = .ok (.iload_n 3, 1) := by decide +kernel
theorem dX10_digest_156 : decode cX10_digest 156 = .ok (.invokevirtual 385, 3) := by decide +kernel
theorem dX10_digest_159 : decode cX10_digest 159 = .ok (.i2l, 1) := by decide +kernel
theorem dX10_digest_160 : decode cX10_digest 160 = .ok (.ladd, 1) := by decide +kernel
theorem dX10_digest_161 : decode cX10_digest 161 = .ok (.lstore_n 1, 1) := by decide +kernel
theorem dX10_digest_162 : decode cX10_digest 162 = .ok (.iinc 3 1, 3) := by decide +kernel
theorem dX10_digest_165 : decode cX10_digest 165 = .ok (.goto (-24), 3) := by decide +kernel
theorem dX10_digest_168 : decode cX10_digest 168 = .ok (.iconst 0, 1) := by decide +kernel
theorem dX10_digest_169 : decode cX10_digest 169 = .ok (.istore_n 3, 1) := by decide +kernel
theorem dX10_digest_170 : decode cX10_digest 170 = .ok (.iload_n 3, 1) := by decide +kernel
theorem dX10_digest_171 : decode cX10_digest 171 = .ok (.aload_n 0, 1) := by decide +kernel
theorem dX10_digest_172 : decode cX10_digest 172 = .ok (.getfield 311, 3) := by decide +kernel
theorem dX10_digest_175 : decode cX10_digest 175 = .ok (.if_icmp .ge 40, 3) := by decide +kernel
theorem dX10_digest_178 : decode cX10_digest 178 = .ok (.iconst 0, 1) := by decide +kernel
theorem dX10_digest_179 : decode cX10_digest 179 = .ok (.istore 4, 2) := by decide +kernel
theorem dX10_digest_181 : decode cX10_digest 181 = .ok (.iload 4, 2) := by decide +kernel
theorem dX10_digest_183 : decode cX10_digest 183 = .ok (.bipush 6, 2) := by decide +kernel
theorem dX10_digest_185 : decode cX10_digest 185 = .ok (.if_icmp .ge 24, 3) := by decide +kernel
theorem dX10_digest_188 : decode cX10_digest 188 = .ok (.lload_n 1, 1) := by decide +kernel
theorem dX10_digest_189 : decode cX10_digest 189 = .ok (.ldc2_w 369, 3) := by decide +kernel
theorem dX10_digest_192 : decode cX10_digest 192 = .ok (.lmul, 1) := by decide +kernel
theorem dX10_digest_193 : decode cX10_digest 193 = .ok (.aload_n 0, 1) := by decide +kernel
theorem dX10_digest_194 : decode cX10_digest 194 = .ok (.iload_n 3, 1) := by decide +kernel
theorem dX10_digest_195 : decode cX10_digest 195 = .ok (.iload 4, 2) := by decide +kernel
theorem dX10_digest_197 : decode cX10_digest 197 = .ok (.invokevirtual 388, 3) := by decide +kernel
theorem dX10_digest_200 : decode cX10_digest 200 = .ok (.i2l, 1) := by decide +kernel
theorem dX10_digest_201 : decode cX10_digest 201 = .ok (.ladd, 1) := by decide +kernel
theorem dX10_digest_202 : decode cX10_digest 202 = .ok (.lstore_n 1, 1) := by decide +kernel
theorem dX10_digest_203 : decode cX10_digest 203 = .ok (.iinc 4 1, 3) := by decide +kernel
theorem dX10_digest_206 : decode cX10_digest 206 = .ok (.goto (-25), 3) := by decide +kernel
theorem dX10_digest_209 : decode cX10_digest 209 = .ok (.iinc 3 1, 3) := by decide +kernel
theorem dX10_digest_212 : decode cX10_digest 212 = .ok (.goto (-42), 3) := by decide +kernel
theorem dX10_digest_215 : decode cX10_digest 215 = .ok (.lload_n 1, 1) := by decide +kernel
theorem dX10_digest_216 : decode cX10_digest 216 = .ok (.lreturn, 1) := by decide +kernel
theorem dX10_wholeOf_0 : decode cX10_wholeOf 0 = .ok (.iload_n 1, 1) := by decide +kernel
theorem dX10_wholeOf_1 : decode cX10_wholeOf 1 = .ok (.ifCond .lt 12, 3) := by decide +kernel
theorem dX10_wholeOf_4 : decode cX10_wholeOf 4 = .ok (.iload_n 1, 1) := by decide +kernel
theorem dX10_wholeOf_5 : decode cX10_wholeOf 5 = .ok (.aload_n 0, 1) := by decide +kernel
theorem dX10_wholeOf_6 : decode cX10_wholeOf 6 = .ok (.getfield 14, 3) := by decide +kernel
theorem dX10_wholeOf_9 : decode cX10_wholeOf 9 = .ok (.arraylength, 1) := by decide +kernel
theorem dX10_wholeOf_10 : decode cX10_wholeOf 10 = .ok (.if_icmp .lt 14, 3) := by decide +kernel
theorem dX10_wholeOf_13 : decode cX10_wholeOf 13 = .ok (.new 112, 3) := by decide +kernel
theorem dX10_wholeOf_16 : decode cX10_wholeOf 16 = .ok (.dup, 1) := by decide +kernel
theorem dX10_wholeOf_17 : decode cX10_wholeOf 17 = .ok (.ldc_w 391, 3) := by decide +kernel
theorem dX10_wholeOf_20 : decode cX10_wholeOf 20 = .ok (.invokespecial 116, 3) := by decide +kernel
theorem dX10_wholeOf_23 : decode cX10_wholeOf 23 = .ok (.athrow, 1) := by decide +kernel
theorem dX10_wholeOf_24 : decode cX10_wholeOf 24 = .ok (.aload_n 0, 1) := by decide +kernel
theorem dX10_wholeOf_25 : decode cX10_wholeOf 25 = .ok (.getfield 14, 3) := by decide +kernel
theorem dX10_wholeOf_28 : decode cX10_wholeOf 28 = .ok (.iload_n 1, 1) := by decide +kernel
theorem dX10_wholeOf_29 : decode cX10_wholeOf 29 = .ok (.aaload, 1) := by decide +kernel
theorem dX10_wholeOf_30 : decode cX10_wholeOf 30 = .ok (.areturn, 1) := by decide +kernel
theorem dX10_patchOf_0 : decode cX10_patchOf 0 = .ok (.iload_n 1, 1) := by decide +kernel
theorem dX10_patchOf_1 : decode cX10_patchOf 1 = .ok (.ifCond .lt 20, 3) := by decide +kernel
theorem dX10_patchOf_4 : decode cX10_patchOf 4 = .ok (.iload_n 1, 1) := by decide +kernel
theorem dX10_patchOf_5 : decode cX10_patchOf 5 = .ok (.aload_n 0, 1) := by decide +kernel
theorem dX10_patchOf_6 : decode cX10_patchOf 6 = .ok (.getfield 220, 3) := by decide +kernel
theorem dX10_patchOf_9 : decode cX10_patchOf 9 = .ok (.if_icmp .ge 12, 3) := by decide +kernel
theorem dX10_patchOf_12 : decode cX10_patchOf 12 = .ok (.iload_n 1, 1) := by decide +kernel
theorem dX10_patchOf_13 : decode cX10_patchOf 13 = .ok (.aload_n 0, 1) := by decide +kernel
theorem dX10_patchOf_14 : decode cX10_patchOf 14 = .ok (.getfield 40, 3) := by decide +kernel
theorem dX10_patchOf_17 : decode cX10_patchOf 17 = .ok (.arraylength, 1) := by decide +kernel
theorem dX10_patchOf_18 : decode cX10_patchOf 18 = .ok (.if_icmp .lt 14, 3) := by decide +kernel
theorem dX10_patchOf_21 : decode cX10_patchOf 21 = .ok (.new 112, 3) := by decide +kernel
theorem dX10_patchOf_24 : decode cX10_patchOf 24 = .ok (.dup, 1) := by decide +kernel
theorem dX10_patchOf_25 : decode cX10_patchOf 25 = .ok (.ldc_w 393, 3) := by decide +kernel
theorem dX10_patchOf_28 : decode cX10_patchOf 28 = .ok (.invokespecial 116, 3) := by decide +kernel
theorem dX10_patchOf_31 : decode cX10_patchOf 31 = .ok (.athrow, 1) := by decide +kernel
theorem dX10_patchOf_32 : decode cX10_patchOf 32 = .ok (.aload_n 0, 1) := by decide +kernel
theorem dX10_patchOf_33 : decode cX10_patchOf 33 = .ok (.getfield 40, 3) := by decide +kernel
theorem dX10_patchOf_36 : decode cX10_patchOf 36 = .ok (.iload_n 1, 1) := by decide +kernel
theorem dX10_patchOf_37 : decode cX10_patchOf 37 = .ok (.aaload, 1) := by decide +kernel
theorem dX10_patchOf_38 : decode cX10_patchOf 38 = .ok (.areturn, 1) := by decide +kernel
theorem dX10_schemaOf_0 : decode cX10_schemaOf 0 = .ok (.iload_n 1, 1) := by decide +kernel
theorem dX10_schemaOf_1 : decode cX10_schemaOf 1 = .ok (.ifCond .lt 20, 3) := by decide +kernel
theorem dX10_schemaOf_4 : decode cX10_schemaOf 4 = .ok (.iload_n 1, 1) := by decide +kernel
theorem dX10_schemaOf_5 : decode cX10_schemaOf 5 = .ok (.aload_n 0, 1) := by decide +kernel
theorem dX10_schemaOf_6 : decode cX10_schemaOf 6 = .ok (.getfield 250, 3) := by decide +kernel
theorem dX10_schemaOf_9 : decode cX10_schemaOf 9 = .ok (.if_icmp .ge 12, 3) := by decide +kernel
theorem dX10_schemaOf_12 : decode cX10_schemaOf 12 = .ok (.iload_n 1, 1) := by decide +kernel
theorem dX10_schemaOf_13 : decode cX10_schemaOf 13 = .ok (.aload_n 0, 1) := by decide +kernel
theorem dX10_schemaOf_14 : decode cX10_schemaOf 14 = .ok (.getfield 57, 3) := by decide +kernel
theorem dX10_schemaOf_17 : decode cX10_schemaOf 17 = .ok (.arraylength, 1) := by decide +kernel
theorem dX10_schemaOf_18 : decode cX10_schemaOf 18 = .ok (.if_icmp .lt 14, 3) := by decide +kernel
theorem dX10_schemaOf_21 : decode cX10_schemaOf 21 = .ok (.new 112, 3) := by decide +kernel
theorem dX10_schemaOf_24 : decode cX10_schemaOf 24 = .ok (.dup, 1) := by decide +kernel
theorem dX10_schemaOf_25 : decode cX10_schemaOf 25 = .ok (.ldc_w 395, 3) := by decide +kernel
theorem dX10_schemaOf_28 : decode cX10_schemaOf 28 = .ok (.invokespecial 116, 3) := by decide +kernel
theorem dX10_schemaOf_31 : decode cX10_schemaOf 31 = .ok (.athrow, 1) := by decide +kernel
theorem dX10_schemaOf_32 : decode cX10_schemaOf 32 = .ok (.aload_n 0, 1) := by decide +kernel
theorem dX10_schemaOf_33 : decode cX10_schemaOf 33 = .ok (.getfield 57, 3) := by decide +kernel
theorem dX10_schemaOf_36 : decode cX10_schemaOf 36 = .ok (.iload_n 1, 1) := by decide +kernel
theorem dX10_schemaOf_37 : decode cX10_schemaOf 37 = .ok (.aaload, 1) := by decide +kernel
theorem dX10_schemaOf_38 : decode cX10_schemaOf 38 = .ok (.areturn, 1) := by decide +kernel
theorem dX10_queryOf_0 : decode cX10_queryOf 0 = .ok (.iload_n 1, 1) := by decide +kernel
theorem dX10_queryOf_1 : decode cX10_queryOf 1 = .ok (.ifCond .lt 20, 3) := by decide +kernel
theorem dX10_queryOf_4 : decode cX10_queryOf 4 = .ok (.iload_n 1, 1) := by decide +kernel
theorem dX10_queryOf_5 : decode cX10_queryOf 5 = .ok (.aload_n 0, 1) := by decide +kernel
theorem dX10_queryOf_6 : decode cX10_queryOf 6 = .ok (.getfield 311, 3) := by decide +kernel
theorem dX10_queryOf_9 : decode cX10_queryOf 9 = .ok (.if_icmp .ge 12, 3) := by decide +kernel
theorem dX10_queryOf_12 : decode cX10_queryOf 12 = .ok (.iload_n 1, 1) := by decide +kernel
theorem dX10_queryOf_13 : decode cX10_queryOf 13 = .ok (.aload_n 0, 1) := by decide +kernel
theorem dX10_queryOf_14 : decode cX10_queryOf 14 = .ok (.getfield 80, 3) := by decide +kernel
theorem dX10_queryOf_17 : decode cX10_queryOf 17 = .ok (.arraylength, 1) := by decide +kernel
theorem dX10_queryOf_18 : decode cX10_queryOf 18 = .ok (.if_icmp .lt 14, 3) := by decide +kernel
theorem dX10_queryOf_21 : decode cX10_queryOf 21 = .ok (.new 112, 3) := by decide +kernel
theorem dX10_queryOf_24 : decode cX10_queryOf 24 = .ok (.dup, 1) := by decide +kernel
theorem dX10_queryOf_25 : decode cX10_queryOf 25 = .ok (.ldc_w 397, 3) := by decide +kernel
theorem dX10_queryOf_28 : decode cX10_queryOf 28 = .ok (.invokespecial 116, 3) := by decide +kernel
theorem dX10_queryOf_31 : decode cX10_queryOf 31 = .ok (.athrow, 1) := by decide +kernel
theorem dX10_queryOf_32 : decode cX10_queryOf 32 = .ok (.aload_n 0, 1) := by decide +kernel
theorem dX10_queryOf_33 : decode cX10_queryOf 33 = .ok (.getfield 80, 3) := by decide +kernel
theorem dX10_queryOf_36 : decode cX10_queryOf 36 = .ok (.iload_n 1, 1) := by decide +kernel
theorem dX10_queryOf_37 : decode cX10_queryOf 37 = .ok (.aaload, 1) := by decide +kernel
theorem dX10_queryOf_38 : decode cX10_queryOf 38 = .ok (.areturn, 1) := by decide +kernel
theorem dX10_beginPatch_0 : decode cX10_beginPatch 0 = .ok (.aload_n 0, 1) := by decide +kernel
theorem dX10_beginPatch_1 : decode cX10_beginPatch 1 = .ok (.getfield 220, 3) := by decide +kernel
theorem dX10_beginPatch_4 : decode cX10_beginPatch 4 = .ok (.bipush 8, 2) := by decide +kernel
theorem dX10_beginPatch_6 : decode cX10_beginPatch 6 = .ok (.if_icmp .lt 14, 3) := by decide +kernel
theorem dX10_beginPatch_9 : decode cX10_beginPatch 9 = .ok (.new 123, 3) := by decide +kernel
theorem dX10_beginPatch_12 : decode cX10_beginPatch 12 = .ok (.dup, 1) := by decide +kernel
theorem dX10_beginPatch_13 : decode cX10_beginPatch 13 = .ok (.ldc_w 399, 3) := by decide +kernel
theorem dX10_beginPatch_16 : decode cX10_beginPatch 16 = .ok (.invokespecial 127, 3) := by decide +kernel
theorem dX10_beginPatch_19 : decode cX10_beginPatch 19 = .ok (.athrow, 1) := by decide +kernel
theorem dX10_beginPatch_20 : decode cX10_beginPatch 20 = .ok (.aload_n 0, 1) := by decide +kernel
theorem dX10_beginPatch_21 : decode cX10_beginPatch 21 = .ok (.dup, 1) := by decide +kernel
theorem dX10_beginPatch_22 : decode cX10_beginPatch 22 = .ok (.getfield 220, 3) := by decide +kernel
end
section
theorem dX10_beginPatch_25 : decode cX10_beginPatch 25 = .ok (.iconst 1, 1) := by decide +kernel
theorem dX10_beginPatch_26 : decode cX10_beginPatch 26 = .ok (.iadd, 1) := by decide +kernel
theorem dX10_beginPatch_27 : decode cX10_beginPatch 27 = .ok (.putfield 220, 3) := by decide +kernel
theorem dX10_beginPatch_30 : decode cX10_beginPatch 30 = .ok (.aload_n 0, 1) := by decide +kernel
theorem dX10_beginPatch_31 : decode cX10_beginPatch 31 = .ok (.aload_n 0, 1) := by decide +kernel
theorem dX10_beginPatch_32 : decode cX10_beginPatch 32 = .ok (.getfield 220, 3) := by decide +kernel
theorem dX10_beginPatch_35 : decode cX10_beginPatch 35 = .ok (.iconst 1, 1) := by decide +kernel
theorem dX10_beginPatch_36 : decode cX10_beginPatch 36 = .ok (.isub, 1) := by decide +kernel
theorem dX10_beginPatch_37 : decode cX10_beginPatch 37 = .ok (.invokevirtual 185, 3) := by decide +kernel
theorem dX10_beginPatch_40 : decode cX10_beginPatch 40 = .ok (.invokevirtual 401, 3) := by decide +kernel
theorem dX10_beginPatch_43 : decode cX10_beginPatch 43 = .ok (.aload_n 0, 1) := by decide +kernel
theorem dX10_beginPatch_44 : decode cX10_beginPatch 44 = .ok (.getfield 220, 3) := by decide +kernel
theorem dX10_beginPatch_47 : decode cX10_beginPatch 47 = .ok (.iconst 1, 1) := by decide +kernel
theorem dX10_beginPatch_48 : decode cX10_beginPatch 48 = .ok (.isub, 1) := by decide +kernel
theorem dX10_beginPatch_49 : decode cX10_beginPatch 49 = .ok (.ireturn, 1) := by decide +kernel
theorem dX10_pointed_0 : decode cX10_pointed 0 = .ok (.aload_n 0, 1) := by decide +kernel
theorem dX10_pointed_1 : decode cX10_pointed 1 = .ok (.aload_n 0, 1) := by decide +kernel
theorem dX10_pointed_2 : decode cX10_pointed 2 = .ok (.getfield 25, 3) := by decide +kernel
theorem dX10_pointed_5 : decode cX10_pointed 5 = .ok (.getfield 131, 3) := by decide +kernel
theorem dX10_pointed_8 : decode cX10_pointed 8 = .ok (.invokevirtual 85, 3) := by decide +kernel
theorem dX10_pointed_11 : decode cX10_pointed 11 = .ok (.astore_n 1, 1) := by decide +kernel
theorem dX10_pointed_12 : decode cX10_pointed 12 = .ok (.aload_n 1, 1) := by decide +kernel
theorem dX10_pointed_13 : decode cX10_pointed 13 = .ok (.aload_n 0, 1) := by decide +kernel
theorem dX10_pointed_14 : decode cX10_pointed 14 = .ok (.getfield 25, 3) := by decide +kernel
theorem dX10_pointed_17 : decode cX10_pointed 17 = .ok (.getfield 134, 3) := by decide +kernel
theorem dX10_pointed_20 : decode cX10_pointed 20 = .ok (.aload_n 0, 1) := by decide +kernel
theorem dX10_pointed_21 : decode cX10_pointed 21 = .ok (.getfield 25, 3) := by decide +kernel
theorem dX10_pointed_24 : decode cX10_pointed 24 = .ok (.getfield 128, 3) := by decide +kernel
theorem dX10_pointed_27 : decode cX10_pointed 27 = .ok (.invokevirtual 404, 3) := by decide +kernel
theorem dX10_pointed_30 : decode cX10_pointed 30 = .ok (.astore_n 2, 1) := by decide +kernel
theorem dX10_pointed_31 : decode cX10_pointed 31 = .ok (.aload_n 2, 1) := by decide +kernel
theorem dX10_pointed_32 : decode cX10_pointed 32 = .ok (.ifnonnull 7, 3) := by decide +kernel
theorem dX10_pointed_35 : decode cX10_pointed 35 = .ok (.aload_n 1, 1) := by decide +kernel
theorem dX10_pointed_36 : decode cX10_pointed 36 = .ok (.goto 4, 3) := by decide +kernel
theorem dX10_pointed_39 : decode cX10_pointed 39 = .ok (.aload_n 2, 1) := by decide +kernel
theorem dX10_pointed_40 : decode cX10_pointed 40 = .ok (.areturn, 1) := by decide +kernel
theorem dX10_changeTo_0 : decode cX10_changeTo 0 = .ok (.iload_n 1, 1) := by decide +kernel
theorem dX10_changeTo_1 : decode cX10_changeTo 1 = .ok (.ifCond .lt 19, 3) := by decide +kernel
theorem dX10_changeTo_4 : decode cX10_changeTo 4 = .ok (.iload_n 1, 1) := by decide +kernel
theorem dX10_changeTo_5 : decode cX10_changeTo 5 = .ok (.aload_n 0, 1) := by decide +kernel
theorem dX10_changeTo_6 : decode cX10_changeTo 6 = .ok (.getfield 14, 3) := by decide +kernel
theorem dX10_changeTo_9 : decode cX10_changeTo 9 = .ok (.arraylength, 1) := by decide +kernel
theorem dX10_changeTo_10 : decode cX10_changeTo 10 = .ok (.if_icmp .ge 10, 3) := by decide +kernel
theorem dX10_changeTo_13 : decode cX10_changeTo 13 = .ok (.aload_n 0, 1) := by decide +kernel
theorem dX10_changeTo_14 : decode cX10_changeTo 14 = .ok (.getfield 14, 3) := by decide +kernel
theorem dX10_changeTo_17 : decode cX10_changeTo 17 = .ok (.iload_n 1, 1) := by decide +kernel
theorem dX10_changeTo_18 : decode cX10_changeTo 18 = .ok (.aload_n 2, 1) := by decide +kernel
theorem dX10_changeTo_19 : decode cX10_changeTo 19 = .ok (.aastore, 1) := by decide +kernel
theorem dX10_changeTo_20 : decode cX10_changeTo 20 = .ok (.aload_n 0, 1) := by decide +kernel
theorem dX10_changeTo_21 : decode cX10_changeTo 21 = .ok (.getfield 25, 3) := by decide +kernel
theorem dX10_changeTo_24 : decode cX10_changeTo 24 = .ok (.getfield 131, 3) := by decide +kernel
theorem dX10_changeTo_27 : decode cX10_changeTo 27 = .ok (.iload_n 1, 1) := by decide +kernel
theorem dX10_changeTo_28 : decode cX10_changeTo 28 = .ok (.if_icmp .ne 11, 3) := by decide +kernel
theorem dX10_changeTo_31 : decode cX10_changeTo 31 = .ok (.aload_n 0, 1) := by decide +kernel
theorem dX10_changeTo_32 : decode cX10_changeTo 32 = .ok (.getfield 25, 3) := by decide +kernel
theorem dX10_changeTo_35 : decode cX10_changeTo 35 = .ok (.aload_n 2, 1) := by decide +kernel
theorem dX10_changeTo_36 : decode cX10_changeTo 36 = .ok (.invokevirtual 408, 3) := by decide +kernel
theorem dX10_changeTo_39 : decode cX10_changeTo 39 = .ok (.return_, 1) := by decide +kernel
theorem dX10_finish_0 : decode cX10_finish 0 = .ok (.iload_n 1, 1) := by decide +kernel
theorem dX10_finish_1 : decode cX10_finish 1 = .ok (.ifCond .eq 13, 3) := by decide +kernel
theorem dX10_finish_4 : decode cX10_finish 4 = .ok (.aload_n 0, 1) := by decide +kernel
theorem dX10_finish_5 : decode cX10_finish 5 = .ok (.getfield 34, 3) := by decide +kernel
theorem dX10_finish_8 : decode cX10_finish 8 = .ok (.invokevirtual 411, 3) := by decide +kernel
theorem dX10_finish_11 : decode cX10_finish 11 = .ok (.ifCond .ne 5, 3) := by decide +kernel
theorem dX10_finish_14 : decode cX10_finish 14 = .ok (.iconst (-1), 1) := by decide +kernel
theorem dX10_finish_15 : decode cX10_finish 15 = .ok (.ireturn, 1) := by decide +kernel
theorem dX10_finish_16 : decode cX10_finish 16 = .ok (.aload_n 0, 1) := by decide +kernel
theorem dX10_finish_17 : decode cX10_finish 17 = .ok (.aload_n 0, 1) := by decide +kernel
theorem dX10_finish_18 : decode cX10_finish 18 = .ok (.getfield 25, 3) := by decide +kernel
theorem dX10_finish_21 : decode cX10_finish 21 = .ok (.getfield 131, 3) := by decide +kernel
theorem dX10_finish_24 : decode cX10_finish 24 = .ok (.aload_n 0, 1) := by decide +kernel
theorem dX10_finish_25 : decode cX10_finish 25 = .ok (.getfield 34, 3) := by decide +kernel
theorem dX10_finish_28 : decode cX10_finish 28 = .ok (.getfield 213, 3) := by decide +kernel
theorem dX10_finish_31 : decode cX10_finish 31 = .ok (.invokevirtual 216, 3) := by decide +kernel
theorem dX10_finish_34 : decode cX10_finish 34 = .ok (.aload_n 0, 1) := by decide +kernel
theorem dX10_finish_35 : decode cX10_finish 35 = .ok (.getfield 34, 3) := by decide +kernel
theorem dX10_finish_38 : decode cX10_finish 38 = .ok (.getfield 213, 3) := by decide +kernel
theorem dX10_finish_41 : decode cX10_finish 41 = .ok (.getfield 145, 3) := by decide +kernel
theorem dX10_finish_44 : decode cX10_finish 44 = .ok (.ireturn, 1) := by decide +kernel
theorem dX10_tryOut_0 : decode cX10_tryOut 0 = .ok (.aload_n 0, 1) := by decide +kernel
theorem dX10_tryOut_1 : decode cX10_tryOut 1 = .ok (.getfield 34, 3) := by decide +kernel
theorem dX10_tryOut_4 : decode cX10_tryOut 4 = .ok (.aload_n 2, 1) := by decide +kernel
theorem dX10_tryOut_5 : decode cX10_tryOut 5 = .ok (.invokevirtual 148, 3) := by decide +kernel
theorem dX10_tryOut_8 : decode cX10_tryOut 8 = .ok (.iconst 0, 1) := by decide +kernel
theorem dX10_tryOut_9 : decode cX10_tryOut 9 = .ok (.istore_n 3, 1) := by decide +kernel
theorem dX10_tryOut_10 : decode cX10_tryOut 10 = .ok (.iload_n 3, 1) := by decide +kernel
theorem dX10_tryOut_11 : decode cX10_tryOut 11 = .ok (.aload_n 1, 1) := by decide +kernel
theorem dX10_tryOut_12 : decode cX10_tryOut 12 = .ok (.getfield 191, 3) := by decide +kernel
theorem dX10_tryOut_15 : decode cX10_tryOut 15 = .ok (.if_icmp .ge 57, 3) := by decide +kernel
theorem dX10_tryOut_18 : decode cX10_tryOut 18 = .ok (.iload_n 3, 1) := by decide +kernel
theorem dX10_tryOut_19 : decode cX10_tryOut 19 = .ok (.aload_n 0, 1) := by decide +kernel
theorem dX10_tryOut_20 : decode cX10_tryOut 20 = .ok (.getfield 45, 3) := by decide +kernel
theorem dX10_tryOut_23 : decode cX10_tryOut 23 = .ok (.arraylength, 1) := by decide +kernel
theorem dX10_tryOut_24 : decode cX10_tryOut 24 = .ok (.if_icmp .ge 48, 3) := by decide +kernel
theorem dX10_tryOut_27 : decode cX10_tryOut 27 = .ok (.aload_n 1, 1) := by decide +kernel
theorem dX10_tryOut_28 : decode cX10_tryOut 28 = .ok (.iload_n 3, 1) := by decide +kernel
theorem dX10_tryOut_29 : decode cX10_tryOut 29 = .ok (.invokevirtual 239, 3) := by decide +kernel
theorem dX10_tryOut_32 : decode cX10_tryOut 32 = .ok (.astore 4, 2) := by decide +kernel
theorem dX10_tryOut_34 : decode cX10_tryOut 34 = .ok (.aload 4, 2) := by decide +kernel
theorem dX10_tryOut_36 : decode cX10_tryOut 36 = .ok (.ifnull 15, 3) := by decide +kernel
theorem dX10_tryOut_39 : decode cX10_tryOut 39 = .ok (.aload_n 0, 1) := by decide +kernel
theorem dX10_tryOut_40 : decode cX10_tryOut 40 = .ok (.getfield 34, 3) := by decide +kernel
theorem dX10_tryOut_43 : decode cX10_tryOut 43 = .ok (.aload 4, 2) := by decide +kernel
theorem dX10_tryOut_45 : decode cX10_tryOut 45 = .ok (.invokevirtual 414, 3) := by decide +kernel
theorem dX10_tryOut_48 : decode cX10_tryOut 48 = .ok (.ifCond .ne 5, 3) := by decide +kernel
theorem dX10_tryOut_51 : decode cX10_tryOut 51 = .ok (.iload_n 3, 1) := by decide +kernel
theorem dX10_tryOut_52 : decode cX10_tryOut 52 = .ok (.ireturn, 1) := by decide +kernel
theorem dX10_tryOut_53 : decode cX10_tryOut 53 = .ok (.aload_n 0, 1) := by decide +kernel
theorem dX10_tryOut_54 : decode cX10_tryOut 54 = .ok (.getfield 45, 3) := by decide +kernel
theorem dX10_tryOut_57 : decode cX10_tryOut 57 = .ok (.iload_n 3, 1) := by decide +kernel
theorem dX10_tryOut_58 : decode cX10_tryOut 58 = .ok (.aload_n 0, 1) := by decide +kernel
theorem dX10_tryOut_59 : decode cX10_tryOut 59 = .ok (.getfield 34, 3) := by decide +kernel
theorem dX10_tryOut_62 : decode cX10_tryOut 62 = .ok (.getfield 418, 3) := by decide +kernel
theorem dX10_tryOut_65 : decode cX10_tryOut 65 = .ok (.aastore, 1) := by decide +kernel
theorem dX10_tryOut_66 : decode cX10_tryOut 66 = .ok (.iinc 3 1, 3) := by decide +kernel
theorem dX10_tryOut_69 : decode cX10_tryOut 69 = .ok (.goto (-59), 3) := by decide +kernel
theorem dX10_tryOut_72 : decode cX10_tryOut 72 = .ok (.aload_n 0, 1) := by decide +kernel
theorem dX10_tryOut_73 : decode cX10_tryOut 73 = .ok (.getfield 34, 3) := by decide +kernel
theorem dX10_tryOut_76 : decode cX10_tryOut 76 = .ok (.invokevirtual 411, 3) := by decide +kernel
theorem dX10_tryOut_79 : decode cX10_tryOut 79 = .ok (.ifCond .eq 7, 3) := by decide +kernel
theorem dX10_tryOut_82 : decode cX10_tryOut 82 = .ok (.iconst (-1), 1) := by decide +kernel
theorem dX10_tryOut_83 : decode cX10_tryOut 83 = .ok (.goto 7, 3) := by decide +kernel
theorem dX10_tryOut_86 : decode cX10_tryOut 86 = .ok (.aload_n 1, 1) := by decide +kernel
theorem dX10_tryOut_87 : decode cX10_tryOut 87 = .ok (.getfield 191, 3) := by decide +kernel
theorem dX10_tryOut_90 : decode cX10_tryOut 90 = .ok (.ireturn, 1) := by decide +kernel
theorem dX10_writeInverse_0 : decode cX10_writeInverse 0 = .ok (.aload_n 1, 1) := by decide +kernel
theorem dX10_writeInverse_1 : decode cX10_writeInverse 1 = .ok (.getfield 191, 3) := by decide +kernel
theorem dX10_writeInverse_4 : decode cX10_writeInverse 4 = .ok (.iconst 1, 1) := by decide +kernel
theorem dX10_writeInverse_5 : decode cX10_writeInverse 5 = .ok (.isub, 1) := by decide +kernel
theorem dX10_writeInverse_6 : decode cX10_writeInverse 6 = .ok (.istore_n 3, 1) := by decide +kernel
theorem dX10_writeInverse_7 : decode cX10_writeInverse 7 = .ok (.iload_n 3, 1) := by decide +kernel
theorem dX10_writeInverse_8 : decode cX10_writeInverse 8 = .ok (.ifCond .lt 45, 3) := by decide +kernel
theorem dX10_writeInverse_11 : decode cX10_writeInverse 11 = .ok (.aload_n 1, 1) := by decide +kernel
theorem dX10_writeInverse_12 : decode cX10_writeInverse 12 = .ok (.iload_n 3, 1) := by decide +kernel
theorem dX10_writeInverse_13 : decode cX10_writeInverse 13 = .ok (.invokevirtual 239, 3) := by decide +kernel
theorem dX10_writeInverse_16 : decode cX10_writeInverse 16 = .ok (.astore 4, 2) := by decide +kernel
theorem dX10_writeInverse_18 : decode cX10_writeInverse 18 = .ok (.aload 4, 2) := by decide +kernel
theorem dX10_writeInverse_20 : decode cX10_writeInverse 20 = .ok (.ifnull 27, 3) := by decide +kernel
theorem dX10_writeInverse_23 : decode cX10_writeInverse 23 = .ok (.iload_n 3, 1) := by decide +kernel
theorem dX10_writeInverse_24 : decode cX10_writeInverse 24 = .ok (.aload_n 0, 1) := by decide +kernel
theorem dX10_writeInverse_25 : decode cX10_writeInverse 25 = .ok (.getfield 45, 3) := by decide +kernel
theorem dX10_writeInverse_28 : decode cX10_writeInverse 28 = .ok (.arraylength, 1) := by decide +kernel
theorem dX10_writeInverse_29 : decode cX10_writeInverse 29 = .ok (.if_icmp .ge 18, 3) := by decide +kernel
theorem dX10_writeInverse_32 : decode cX10_writeInverse 32 = .ok (.aload_n 2, 1) := by decide +kernel
theorem dX10_writeInverse_33 : decode cX10_writeInverse 33 = .ok (.aload 4, 2) := by decide +kernel
theorem dX10_writeInverse_35 : decode cX10_writeInverse 35 = .ok (.aload_n 0, 1) := by decide +kernel
theorem dX10_writeInverse_36 : decode cX10_writeInverse 36 = .ok (.getfield 45, 3) := by decide +kernel
theorem dX10_writeInverse_39 : decode cX10_writeInverse 39 = .ok (.iload_n 3, 1) := by decide +kernel
theorem dX10_writeInverse_40 : decode cX10_writeInverse 40 = .ok (.aaload, 1) := by decide +kernel
theorem dX10_writeInverse_41 : decode cX10_writeInverse 41 = .ok (.invokevirtual 421, 3) := by decide +kernel
theorem dX10_writeInverse_44 : decode cX10_writeInverse 44 = .ok (.invokevirtual 205, 3) := by decide +kernel
theorem dX10_writeInverse_47 : decode cX10_writeInverse 47 = .ok (.iinc 3 (-1), 3) := by decide +kernel
theorem dX10_writeInverse_50 : decode cX10_writeInverse 50 = .ok (.goto (-43), 3) := by decide +kernel
theorem dX10_writeInverse_53 : decode cX10_writeInverse 53 = .ok (.return_, 1) := by decide +kernel
theorem dX10_countFailures_0 : decode cX10_countFailures 0 = .ok (.aload_n 0, 1) := by decide +kernel
theorem dX10_countFailures_1 : decode cX10_countFailures 1 = .ok (.getfield 65, 3) := by decide +kernel
theorem dX10_countFailures_4 : decode cX10_countFailures 4 = .ok (.aload_n 0, 1) := by decide +kernel
theorem dX10_countFailures_5 : decode cX10_countFailures 5 = .ok (.iload_n 1, 1) := by decide +kernel
theorem dX10_countFailures_6 : decode cX10_countFailures 6 = .ok (.invokevirtual 85, 3) := by decide +kernel
theorem dX10_countFailures_9 : decode cX10_countFailures 9 = .ok (.invokevirtual 425, 3) := by decide +kernel
theorem dX10_countFailures_12 : decode cX10_countFailures 12 = .ok (.aload_n 0, 1) := by decide +kernel
theorem dX10_countFailures_13 : decode cX10_countFailures 13 = .ok (.iload_n 2, 1) := by decide +kernel
theorem dX10_countFailures_14 : decode cX10_countFailures 14 = .ok (.invokevirtual 255, 3) := by decide +kernel
theorem dX10_countFailures_17 : decode cX10_countFailures 17 = .ok (.pop, 1) := by decide +kernel
theorem dX10_countFailures_18 : decode cX10_countFailures 18 = .ok (.aload_n 0, 1) := by decide +kernel
theorem dX10_countFailures_19 : decode cX10_countFailures 19 = .ok (.getfield 74, 3) := by decide +kernel
theorem dX10_countFailures_22 : decode cX10_countFailures 22 = .ok (.iload_n 2, 1) := by decide +kernel
theorem dX10_countFailures_23 : decode cX10_countFailures 23 = .ok (.iload_n 3, 1) := by decide +kernel
theorem dX10_countFailures_24 : decode cX10_countFailures 24 = .ok (.invokevirtual 428, 3) := by decide +kernel
theorem dX10_countFailures_27 : decode cX10_countFailures 27 = .ok (.ireturn, 1) := by decide +kernel
theorem dX10_isPart_0 : decode cX10_isPart 0 = .ok (.iload_n 0, 1) := by decide +kernel
theorem dX10_isPart_1 : decode cX10_isPart 1 = .ok (.tableswitch 94 0 6 #[43, 94, 94, 94, 59, 43, 79], 43) := by decide +kernel
theorem dX10_isPart_44 : decode cX10_isPart 44 = .ok (.iload_n 1, 1) := by decide +kernel
theorem dX10_isPart_45 : decode cX10_isPart 45 = .ok (.ifCond .lt 13, 3) := by decide +kernel
theorem dX10_isPart_48 : decode cX10_isPart 48 = .ok (.iload_n 1, 1) := by decide +kernel
theorem dX10_isPart_49 : decode cX10_isPart 49 = .ok (.bipush 99, 2) := by decide +kernel
theorem dX10_isPart_51 : decode cX10_isPart 51 = .ok (.if_icmp .gt 7, 3) := by decide +kernel
theorem dX10_isPart_54 : decode cX10_isPart 54 = .ok (.iconst 1, 1) := by decide +kernel
theorem dX10_isPart_55 : decode cX10_isPart 55 = .ok (.goto 4, 3) := by decide +kernel
theorem dX10_isPart_58 : decode cX10_isPart 58 = .ok (.iconst 0, 1) := by decide +kernel
theorem dX10_isPart_59 : decode cX10_isPart 59 = .ok (.ireturn, 1) := by decide +kernel
theorem dX10_isPart_60 : decode cX10_isPart 60 = .ok (.iload_n 1, 1) := by decide +kernel
theorem dX10_isPart_61 : decode cX10_isPart 61 = .ok (.sipush (-9999), 3) := by decide +kernel
theorem dX10_isPart_64 : decode cX10_isPart 64 = .ok (.if_icmp .lt 14, 3) := by decide +kernel
theorem dX10_isPart_67 : decode cX10_isPart 67 = .ok (.iload_n 1, 1) := by decide +kernel
theorem dX10_isPart_68 : decode cX10_isPart 68 = .ok (.sipush 9999, 3) := by decide +kernel
theorem dX10_isPart_71 : decode cX10_isPart 71 = .ok (.if_icmp .gt 7, 3) := by decide +kernel
theorem dX10_isPart_74 : decode cX10_isPart 74 = .ok (.iconst 1, 1) := by decide +kernel
theorem dX10_isPart_75 : decode cX10_isPart 75 = .ok (.goto 4, 3) := by decide +kernel
theorem dX10_isPart_78 : decode cX10_isPart 78 = .ok (.iconst 0, 1) := by decide +kernel
theorem dX10_isPart_79 : decode cX10_isPart 79 = .ok (.ireturn, 1) := by decide +kernel
theorem dX10_isPart_80 : decode cX10_isPart 80 = .ok (.iload_n 1, 1) := by decide +kernel
theorem dX10_isPart_81 : decode cX10_isPart 81 = .ok (.ifCond .lt 12, 3) := by decide +kernel
theorem dX10_isPart_84 : decode cX10_isPart 84 = .ok (.iload_n 1, 1) := by decide +kernel
theorem dX10_isPart_85 : decode cX10_isPart 85 = .ok (.iconst 4, 1) := by decide +kernel
theorem dX10_isPart_86 : decode cX10_isPart 86 = .ok (.if_icmp .gt 7, 3) := by decide +kernel
theorem dX10_isPart_89 : decode cX10_isPart 89 = .ok (.iconst 1, 1) := by decide +kernel
theorem dX10_isPart_90 : decode cX10_isPart 90 = .ok (.goto 4, 3) := by decide +kernel
theorem dX10_isPart_93 : decode cX10_isPart 93 = .ok (.iconst 0, 1) := by decide +kernel
theorem dX10_isPart_94 : decode cX10_isPart 94 = .ok (.ireturn, 1) := by decide +kernel
theorem dX10_isPart_95 : decode cX10_isPart 95 = .ok (.iload_n 0, 1) := by decide +kernel
theorem dX10_isPart_96 : decode cX10_isPart 96 = .ok (.ifCond .lt 13, 3) := by decide +kernel
theorem dX10_isPart_99 : decode cX10_isPart 99 = .ok (.iload_n 0, 1) := by decide +kernel
theorem dX10_isPart_100 : decode cX10_isPart 100 = .ok (.bipush 6, 2) := by decide +kernel
theorem dX10_isPart_102 : decode cX10_isPart 102 = .ok (.if_icmp .gt 7, 3) := by decide +kernel
theorem dX10_isPart_105 : decode cX10_isPart 105 = .ok (.iconst 1, 1) := by decide +kernel
theorem dX10_isPart_106 : decode cX10_isPart 106 = .ok (.goto 4, 3) := by decide +kernel
theorem dX10_isPart_109 : decode cX10_isPart 109 = .ok (.iconst 0, 1) := by decide +kernel
theorem dX10_isPart_110 : decode cX10_isPart 110 = .ok (.ireturn, 1) := by decide +kernel
theorem dX10_findIn_0 : decode cX10_findIn 0 = .ok (.aload_n 0, 1) := by decide +kernel
theorem dX10_findIn_1 : decode cX10_findIn 1 = .ok (.iload_n 1, 1) := by decide +kernel
theorem dX10_findIn_2 : decode cX10_findIn 2 = .ok (.invokevirtual 316, 3) := by decide +kernel
theorem dX10_findIn_5 : decode cX10_findIn 5 = .ok (.astore_n 3, 1) := by decide +kernel
theorem dX10_findIn_6 : decode cX10_findIn 6 = .ok (.aload_n 0, 1) := by decide +kernel
theorem dX10_findIn_7 : decode cX10_findIn 7 = .ok (.getfield 65, 3) := by decide +kernel
theorem dX10_findIn_10 : decode cX10_findIn 10 = .ok (.aload_n 0, 1) := by decide +kernel
theorem dX10_findIn_11 : decode cX10_findIn 11 = .ok (.iload_n 2, 1) := by decide +kernel
theorem dX10_findIn_12 : decode cX10_findIn 12 = .ok (.invokevirtual 85, 3) := by decide +kernel
theorem dX10_findIn_15 : decode cX10_findIn 15 = .ok (.invokevirtual 425, 3) := by decide +kernel
theorem dX10_findIn_18 : decode cX10_findIn 18 = .ok (.aload_n 3, 1) := by decide +kernel
theorem dX10_findIn_19 : decode cX10_findIn 19 = .ok (.aload_n 0, 1) := by decide +kernel
theorem dX10_findIn_20 : decode cX10_findIn 20 = .ok (.getfield 65, 3) := by decide +kernel
theorem dX10_findIn_23 : decode cX10_findIn 23 = .ok (.invokevirtual 430, 3) := by decide +kernel
theorem dX10_findIn_26 : decode cX10_findIn 26 = .ok (.lreturn, 1) := by decide +kernel
theorem dX10_isIn_0 : decode cX10_isIn 0 = .ok (.lload_n 0, 1) := by decide +kernel
theorem dX10_isIn_1 : decode cX10_isIn 1 = .ok (.iload_n 2, 1) := by decide +kernel
theorem dX10_isIn_2 : decode cX10_isIn 2 = .ok (.lshr, 1) := by decide +kernel
theorem dX10_isIn_3 : decode cX10_isIn 3 = .ok (.lconst 1, 1) := by decide +kernel
theorem dX10_isIn_4 : decode cX10_isIn 4 = .ok (.land, 1) := by decide +kernel
theorem dX10_isIn_5 : decode cX10_isIn 5 = .ok (.lconst 0, 1) := by decide +kernel
theorem dX10_isIn_6 : decode cX10_isIn 6 = .ok (.lcmp, 1) := by decide +kernel
theorem dX10_isIn_7 : decode cX10_isIn 7 = .ok (.ifCond .eq 7, 3) := by decide +kernel
theorem dX10_isIn_10 : decode cX10_isIn 10 = .ok (.iconst 1, 1) := by decide +kernel
theorem dX10_isIn_11 : decode cX10_isIn 11 = .ok (.goto 4, 3) := by decide +kernel
theorem dX10_isIn_14 : decode cX10_isIn 14 = .ok (.iconst 0, 1) := by decide +kernel
theorem dX10_isIn_15 : decode cX10_isIn 15 = .ok (.ireturn, 1) := by decide +kernel
theorem dX10_digestValue_0 : decode cX10_digestValue 0 = .ok (.lload_n 1, 1) := by decide +kernel
theorem dX10_digestValue_1 : decode cX10_digestValue 1 = .ok (.ldc2_w 369, 3) := by decide +kernel
theorem dX10_digestValue_4 : decode cX10_digestValue 4 = .ok (.lmul, 1) := by decide +kernel
theorem dX10_digestValue_5 : decode cX10_digestValue 5 = .ok (.aload_n 3, 1) := by decide +kernel
theorem dX10_digestValue_6 : decode cX10_digestValue 6 = .ok (.getfield 145, 3) := by decide +kernel
theorem dX10_digestValue_9 : decode cX10_digestValue 9 = .ok (.i2l, 1) := by decide +kernel
theorem dX10_digestValue_10 : decode cX10_digestValue 10 = .ok (.ladd, 1) := by decide +kernel
theorem dX10_digestValue_11 : decode cX10_digestValue 11 = .ok (.lstore 4, 2) := by decide +kernel
theorem dX10_digestValue_13 : decode cX10_digestValue 13 = .ok (.lload 4, 2) := by decide +kernel
theorem dX10_digestValue_15 : decode cX10_digestValue 15 = .ok (.ldc2_w 369, 3) := by decide +kernel
theorem dX10_digestValue_18 : decode cX10_digestValue 18 = .ok (.lmul, 1) := by decide +kernel
theorem dX10_digestValue_19 : decode cX10_digestValue 19 = .ok (.aload_n 3, 1) := by decide +kernel
theorem dX10_digestValue_20 : decode cX10_digestValue 20 = .ok (.getfield 179, 3) := by decide +kernel
theorem dX10_digestValue_23 : decode cX10_digestValue 23 = .ok (.i2l, 1) := by decide +kernel
theorem dX10_digestValue_24 : decode cX10_digestValue 24 = .ok (.ladd, 1) := by decide +kernel
theorem dX10_digestValue_25 : decode cX10_digestValue 25 = .ok (.lstore 4, 2) := by decide +kernel
theorem dX10_digestValue_27 : decode cX10_digestValue 27 = .ok (.aload_n 0, 1) := by decide +kernel
theorem dX10_digestValue_28 : decode cX10_digestValue 28 = .ok (.getfield 65, 3) := by decide +kernel
theorem dX10_digestValue_31 : decode cX10_digestValue 31 = .ok (.aload_n 3, 1) := by decide +kernel
theorem dX10_digestValue_32 : decode cX10_digestValue 32 = .ok (.invokevirtual 425, 3) := by decide +kernel
theorem dX10_digestValue_35 : decode cX10_digestValue 35 = .ok (.iconst 0, 1) := by decide +kernel
theorem dX10_digestValue_36 : decode cX10_digestValue 36 = .ok (.istore 6, 2) := by decide +kernel
theorem dX10_digestValue_38 : decode cX10_digestValue 38 = .ok (.iload 6, 2) := by decide +kernel
theorem dX10_digestValue_40 : decode cX10_digestValue 40 = .ok (.aload_n 0, 1) := by decide +kernel
theorem dX10_digestValue_41 : decode cX10_digestValue 41 = .ok (.getfield 65, 3) := by decide +kernel
theorem dX10_digestValue_44 : decode cX10_digestValue 44 = .ok (.getfield 437, 3) := by decide +kernel
theorem dX10_digestValue_47 : decode cX10_digestValue 47 = .ok (.if_icmp .ge 106, 3) := by decide +kernel
theorem dX10_digestValue_50 : decode cX10_digestValue 50 = .ok (.aload_n 0, 1) := by decide +kernel
theorem dX10_digestValue_51 : decode cX10_digestValue 51 = .ok (.getfield 65, 3) := by decide +kernel
theorem dX10_digestValue_54 : decode cX10_digestValue 54 = .ok (.iload 6, 2) := by decide +kernel
theorem dX10_digestValue_56 : decode cX10_digestValue 56 = .ok (.invokevirtual 345, 3) := by decide +kernel
theorem dX10_digestValue_59 : decode cX10_digestValue 59 = .ok (.astore 7, 2) := by decide +kernel
theorem dX10_digestValue_61 : decode cX10_digestValue 61 = .ok (.aload 7, 2) := by decide +kernel
theorem dX10_digestValue_63 : decode cX10_digestValue 63 = .ok (.ifnull 84, 3) := by decide +kernel
theorem dX10_digestValue_66 : decode cX10_digestValue 66 = .ok (.lload 4, 2) := by decide +kernel
theorem dX10_digestValue_68 : decode cX10_digestValue 68 = .ok (.ldc2_w 369, 3) := by decide +kernel
theorem dX10_digestValue_71 : decode cX10_digestValue 71 = .ok (.lmul, 1) := by decide +kernel
theorem dX10_digestValue_72 : decode cX10_digestValue 72 = .ok (.aload 7, 2) := by decide +kernel
theorem dX10_digestValue_74 : decode cX10_digestValue 74 = .ok (.getfield 93, 3) := by decide +kernel
theorem dX10_digestValue_77 : decode cX10_digestValue 77 = .ok (.i2l, 1) := by decide +kernel
theorem dX10_digestValue_78 : decode cX10_digestValue 78 = .ok (.ladd, 1) := by decide +kernel
theorem dX10_digestValue_79 : decode cX10_digestValue 79 = .ok (.lstore 4, 2) := by decide +kernel
theorem dX10_digestValue_81 : decode cX10_digestValue 81 = .ok (.lload 4, 2) := by decide +kernel
theorem dX10_digestValue_83 : decode cX10_digestValue 83 = .ok (.ldc2_w 369, 3) := by decide +kernel
theorem dX10_digestValue_86 : decode cX10_digestValue 86 = .ok (.lmul, 1) := by decide +kernel
theorem dX10_digestValue_87 : decode cX10_digestValue 87 = .ok (.aload 7, 2) := by decide +kernel
theorem dX10_digestValue_89 : decode cX10_digestValue 89 = .ok (.getfield 167, 3) := by decide +kernel
theorem dX10_digestValue_92 : decode cX10_digestValue 92 = .ok (.i2l, 1) := by decide +kernel
theorem dX10_digestValue_93 : decode cX10_digestValue 93 = .ok (.ladd, 1) := by decide +kernel
theorem dX10_digestValue_94 : decode cX10_digestValue 94 = .ok (.lstore 4, 2) := by decide +kernel
theorem dX10_digestValue_96 : decode cX10_digestValue 96 = .ok (.lload 4, 2) := by decide +kernel
theorem dX10_digestValue_98 : decode cX10_digestValue 98 = .ok (.ldc2_w 369, 3) := by decide +kernel
theorem dX10_digestValue_101 : decode cX10_digestValue 101 = .ok (.lmul, 1) := by decide +kernel
theorem dX10_digestValue_102 : decode cX10_digestValue 102 = .ok (.aload 7, 2) := by decide +kernel
theorem dX10_digestValue_104 : decode cX10_digestValue 104 = .ok (.invokevirtual 170, 3) := by decide +kernel
theorem dX10_digestValue_107 : decode cX10_digestValue 107 = .ok (.i2l, 1) := by decide +kernel
theorem dX10_digestValue_108 : decode cX10_digestValue 108 = .ok (.ladd, 1) := by decide +kernel
theorem dX10_digestValue_109 : decode cX10_digestValue 109 = .ok (.lstore 4, 2) := by decide +kernel
theorem dX10_digestValue_111 : decode cX10_digestValue 111 = .ok (.iconst 0, 1) := by decide +kernel
theorem dX10_digestValue_112 : decode cX10_digestValue 112 = .ok (.istore 8, 2) := by decide +kernel
theorem dX10_digestValue_114 : decode cX10_digestValue 114 = .ok (.iload 8, 2) := by decide +kernel
theorem dX10_digestValue_116 : decode cX10_digestValue 116 = .ok (.aload 7, 2) := by decide +kernel
theorem dX10_digestValue_118 : decode cX10_digestValue 118 = .ok (.invokevirtual 170, 3) := by decide +kernel
theorem dX10_digestValue_121 : decode cX10_digestValue 121 = .ok (.if_icmp .ge 26, 3) := by decide +kernel
theorem dX10_digestValue_124 : decode cX10_digestValue 124 = .ok (.lload 4, 2) := by decide +kernel
theorem dX10_digestValue_126 : decode cX10_digestValue 126 = .ok (.ldc2_w 369, 3) := by decide +kernel
theorem dX10_digestValue_129 : decode cX10_digestValue 129 = .ok (.lmul, 1) := by decide +kernel
theorem dX10_digestValue_130 : decode cX10_digestValue 130 = .ok (.aload 7, 2) := by decide +kernel
theorem dX10_digestValue_132 : decode cX10_digestValue 132 = .ok (.iload 8, 2) := by decide +kernel
theorem dX10_digestValue_134 : decode cX10_digestValue 134 = .ok (.invokevirtual 176, 3) := by decide +kernel
theorem dX10_digestValue_137 : decode cX10_digestValue 137 = .ok (.i2l, 1) := by decide +kernel
theorem dX10_digestValue_138 : decode cX10_digestValue 138 = .ok (.ladd, 1) := by decide +kernel
theorem dX10_digestValue_139 : decode cX10_digestValue 139 = .ok (.lstore 4, 2) := by decide +kernel
theorem dX10_digestValue_141 : decode cX10_digestValue 141 = .ok (.iinc 8 1, 3) := by decide +kernel
theorem dX10_digestValue_144 : decode cX10_digestValue 144 = .ok (.goto (-30), 3) := by decide +kernel
theorem dX10_digestValue_147 : decode cX10_digestValue 147 = .ok (.iinc 6 1, 3) := by decide +kernel
theorem dX10_digestValue_150 : decode cX10_digestValue 150 = .ok (.goto (-112), 3) := by decide +kernel
theorem dX10_digestValue_153 : decode cX10_digestValue 153 = .ok (.lload 4, 2) := by decide +kernel
theorem dX10_digestValue_155 : decode cX10_digestValue 155 = .ok (.lreturn, 1) := by decide +kernel
theorem dX10_digestPatches_0 : decode cX10_digestPatches 0 = .ok (.lload_n 1, 1) := by decide +kernel
theorem dX10_digestPatches_1 : decode cX10_digestPatches 1 = .ok (.ldc2_w 369, 3) := by decide +kernel
theorem dX10_digestPatches_4 : decode cX10_digestPatches 4 = .ok (.lmul, 1) := by decide +kernel
theorem dX10_digestPatches_5 : decode cX10_digestPatches 5 = .ok (.aload_n 0, 1) := by decide +kernel
theorem dX10_digestPatches_6 : decode cX10_digestPatches 6 = .ok (.getfield 220, 3) := by decide +kernel
theorem dX10_digestPatches_9 : decode cX10_digestPatches 9 = .ok (.i2l, 1) := by decide +kernel
theorem dX10_digestPatches_10 : decode cX10_digestPatches 10 = .ok (.ladd, 1) := by decide +kernel
theorem dX10_digestPatches_11 : decode cX10_digestPatches 11 = .ok (.lstore_n 3, 1) := by decide +kernel
theorem dX10_digestPatches_12 : decode cX10_digestPatches 12 = .ok (.iconst 0, 1) := by decide +kernel
theorem dX10_digestPatches_13 : decode cX10_digestPatches 13 = .ok (.istore 5, 2) := by decide +kernel
theorem dX10_digestPatches_15 : decode cX10_digestPatches 15 = .ok (.iload 5, 2) := by decide +kernel
theorem dX10_digestPatches_17 : decode cX10_digestPatches 17 = .ok (.aload_n 0, 1) := by decide +kernel
theorem dX10_digestPatches_18 : decode cX10_digestPatches 18 = .ok (.getfield 220, 3) := by decide +kernel
theorem dX10_digestPatches_21 : decode cX10_digestPatches 21 = .ok (.if_icmp .ge 76, 3) := by decide +kernel
theorem dX10_digestPatches_24 : decode cX10_digestPatches 24 = .ok (.aload_n 0, 1) := by decide +kernel
theorem dX10_digestPatches_25 : decode cX10_digestPatches 25 = .ok (.iload 5, 2) := by decide +kernel
theorem dX10_digestPatches_27 : decode cX10_digestPatches 27 = .ok (.invokevirtual 438, 3) := by decide +kernel
theorem dX10_digestPatches_30 : decode cX10_digestPatches 30 = .ok (.istore 6, 2) := by decide +kernel
theorem dX10_digestPatches_32 : decode cX10_digestPatches 32 = .ok (.lload_n 3, 1) := by decide +kernel
theorem dX10_digestPatches_33 : decode cX10_digestPatches 33 = .ok (.ldc2_w 369, 3) := by decide +kernel
theorem dX10_digestPatches_36 : decode cX10_digestPatches 36 = .ok (.lmul, 1) := by decide +kernel
theorem dX10_digestPatches_37 : decode cX10_digestPatches 37 = .ok (.iload 6, 2) := by decide +kernel
theorem dX10_digestPatches_39 : decode cX10_digestPatches 39 = .ok (.i2l, 1) := by decide +kernel
theorem dX10_digestPatches_40 : decode cX10_digestPatches 40 = .ok (.ladd, 1) := by decide +kernel
theorem dX10_digestPatches_41 : decode cX10_digestPatches 41 = .ok (.lstore_n 3, 1) := by decide +kernel
theorem dX10_digestPatches_42 : decode cX10_digestPatches 42 = .ok (.iconst 0, 1) := by decide +kernel
theorem dX10_digestPatches_43 : decode cX10_digestPatches 43 = .ok (.istore 7, 2) := by decide +kernel
theorem dX10_digestPatches_45 : decode cX10_digestPatches 45 = .ok (.iload 7, 2) := by decide +kernel
theorem dX10_digestPatches_47 : decode cX10_digestPatches 47 = .ok (.iload 6, 2) := by decide +kernel
theorem dX10_digestPatches_49 : decode cX10_digestPatches 49 = .ok (.if_icmp .ge 42, 3) := by decide +kernel
theorem dX10_digestPatches_52 : decode cX10_digestPatches 52 = .ok (.iconst 0, 1) := by decide +kernel
theorem dX10_digestPatches_53 : decode cX10_digestPatches 53 = .ok (.istore 8, 2) := by decide +kernel
theorem dX10_digestPatches_55 : decode cX10_digestPatches 55 = .ok (.iload 8, 2) := by decide +kernel
theorem dX10_digestPatches_57 : decode cX10_digestPatches 57 = .ok (.iconst 3, 1) := by decide +kernel
theorem dX10_digestPatches_58 : decode cX10_digestPatches 58 = .ok (.if_icmp .gt 27, 3) := by decide +kernel
theorem dX10_digestPatches_61 : decode cX10_digestPatches 61 = .ok (.lload_n 3, 1) := by decide +kernel
theorem dX10_digestPatches_62 : decode cX10_digestPatches 62 = .ok (.ldc2_w 369, 3) := by decide +kernel
theorem dX10_digestPatches_65 : decode cX10_digestPatches 65 = .ok (.lmul, 1) := by decide +kernel
theorem dX10_digestPatches_66 : decode cX10_digestPatches 66 = .ok (.aload_n 0, 1) := by decide +kernel
theorem dX10_digestPatches_67 : decode cX10_digestPatches 67 = .ok (.iload 5, 2) := by decide +kernel
theorem dX10_digestPatches_69 : decode cX10_digestPatches 69 = .ok (.iload 7, 2) := by decide +kernel
theorem dX10_digestPatches_71 : decode cX10_digestPatches 71 = .ok (.iload 8, 2) := by decide +kernel
theorem dX10_digestPatches_73 : decode cX10_digestPatches 73 = .ok (.invokevirtual 441, 3) := by decide +kernel
theorem dX10_digestPatches_76 : decode cX10_digestPatches 76 = .ok (.i2l, 1) := by decide +kernel
theorem dX10_digestPatches_77 : decode cX10_digestPatches 77 = .ok (.ladd, 1) := by decide +kernel
theorem dX10_digestPatches_78 : decode cX10_digestPatches 78 = .ok (.lstore_n 3, 1) := by decide +kernel
theorem dX10_digestPatches_79 : decode cX10_digestPatches 79 = .ok (.iinc 8 1, 3) := by decide +kernel
theorem dX10_digestPatches_82 : decode cX10_digestPatches 82 = .ok (.goto (-27), 3) := by decide +kernel
theorem dX10_digestPatches_85 : decode cX10_digestPatches 85 = .ok (.iinc 7 1, 3) := by decide +kernel
theorem dX10_digestPatches_88 : decode cX10_digestPatches 88 = .ok (.goto (-43), 3) := by decide +kernel
theorem dX10_digestPatches_91 : decode cX10_digestPatches 91 = .ok (.iinc 5 1, 3) := by decide +kernel
theorem dX10_digestPatches_94 : decode cX10_digestPatches 94 = .ok (.goto (-79), 3) := by decide +kernel
theorem dX10_digestPatches_97 : decode cX10_digestPatches 97 = .ok (.lload_n 3, 1) := by decide +kernel
theorem dX10_digestPatches_98 : decode cX10_digestPatches 98 = .ok (.lreturn, 1) := by decide +kernel
theorem dJ13_bitCount_95d88_0 : decode cJ13_bitCount_95d88 0 = .ok (.lload_n 0, 1) := by decide +kernel
theorem dJ13_bitCount_95d88_1 : decode cJ13_bitCount_95d88 1 = .ok (.lload_n 0, 1) := by decide +kernel
theorem dJ13_bitCount_95d88_2 : decode cJ13_bitCount_95d88 2 = .ok (.iconst 1, 1) := by decide +kernel
theorem dJ13_bitCount_95d88_3 : decode cJ13_bitCount_95d88 3 = .ok (.lushr, 1) := by decide +kernel
theorem dJ13_bitCount_95d88_4 : decode cJ13_bitCount_95d88 4 = .ok (.ldc2_w 314, 3) := by decide +kernel
theorem dJ13_bitCount_95d88_7 : decode cJ13_bitCount_95d88 7 = .ok (.land, 1) := by decide +kernel
theorem dJ13_bitCount_95d88_8 : decode cJ13_bitCount_95d88 8 = .ok (.lsub, 1) := by decide +kernel
theorem dJ13_bitCount_95d88_9 : decode cJ13_bitCount_95d88 9 = .ok (.lstore_n 0, 1) := by decide +kernel
theorem dJ13_bitCount_95d88_10 : decode cJ13_bitCount_95d88 10 = .ok (.lload_n 0, 1) := by decide +kernel
theorem dJ13_bitCount_95d88_11 : decode cJ13_bitCount_95d88 11 = .ok (.ldc2_w 316, 3) := by decide +kernel
theorem dJ13_bitCount_95d88_14 : decode cJ13_bitCount_95d88 14 = .ok (.land, 1) := by decide +kernel
theorem dJ13_bitCount_95d88_15 : decode cJ13_bitCount_95d88 15 = .ok (.lload_n 0, 1) := by decide +kernel
theorem dJ13_bitCount_95d88_16 : decode cJ13_bitCount_95d88 16 = .ok (.iconst 2, 1) := by decide +kernel
theorem dJ13_bitCount_95d88_17 : decode cJ13_bitCount_95d88 17 = .ok (.lushr, 1) := by decide +kernel
theorem dJ13_bitCount_95d88_18 : decode cJ13_bitCount_95d88 18 = .ok (.ldc2_w 316, 3) := by decide +kernel
theorem dJ13_bitCount_95d88_21 : decode cJ13_bitCount_95d88 21 = .ok (.land, 1) := by decide +kernel
theorem dJ13_bitCount_95d88_22 : decode cJ13_bitCount_95d88 22 = .ok (.ladd, 1) := by decide +kernel
theorem dJ13_bitCount_95d88_23 : decode cJ13_bitCount_95d88 23 = .ok (.lstore_n 0, 1) := by decide +kernel
theorem dJ13_bitCount_95d88_24 : decode cJ13_bitCount_95d88 24 = .ok (.lload_n 0, 1) := by decide +kernel
theorem dJ13_bitCount_95d88_25 : decode cJ13_bitCount_95d88 25 = .ok (.lload_n 0, 1) := by decide +kernel
theorem dJ13_bitCount_95d88_26 : decode cJ13_bitCount_95d88 26 = .ok (.iconst 4, 1) := by decide +kernel
theorem dJ13_bitCount_95d88_27 : decode cJ13_bitCount_95d88 27 = .ok (.lushr, 1) := by decide +kernel
theorem dJ13_bitCount_95d88_28 : decode cJ13_bitCount_95d88 28 = .ok (.ladd, 1) := by decide +kernel
theorem dJ13_bitCount_95d88_29 : decode cJ13_bitCount_95d88 29 = .ok (.ldc2_w 318, 3) := by decide +kernel
theorem dJ13_bitCount_95d88_32 : decode cJ13_bitCount_95d88 32 = .ok (.land, 1) := by decide +kernel
theorem dJ13_bitCount_95d88_33 : decode cJ13_bitCount_95d88 33 = .ok (.lstore_n 0, 1) := by decide +kernel
theorem dJ13_bitCount_95d88_34 : decode cJ13_bitCount_95d88 34 = .ok (.lload_n 0, 1) := by decide +kernel
theorem dJ13_bitCount_95d88_35 : decode cJ13_bitCount_95d88 35 = .ok (.lload_n 0, 1) := by decide +kernel
theorem dJ13_bitCount_95d88_36 : decode cJ13_bitCount_95d88 36 = .ok (.bipush 8, 2) := by decide +kernel
theorem dJ13_bitCount_95d88_38 : decode cJ13_bitCount_95d88 38 = .ok (.lushr, 1) := by decide +kernel
theorem dJ13_bitCount_95d88_39 : decode cJ13_bitCount_95d88 39 = .ok (.ladd, 1) := by decide +kernel
theorem dJ13_bitCount_95d88_40 : decode cJ13_bitCount_95d88 40 = .ok (.lstore_n 0, 1) := by decide +kernel
theorem dJ13_bitCount_95d88_41 : decode cJ13_bitCount_95d88 41 = .ok (.lload_n 0, 1) := by decide +kernel
theorem dJ13_bitCount_95d88_42 : decode cJ13_bitCount_95d88 42 = .ok (.lload_n 0, 1) := by decide +kernel
theorem dJ13_bitCount_95d88_43 : decode cJ13_bitCount_95d88 43 = .ok (.bipush 16, 2) := by decide +kernel
theorem dJ13_bitCount_95d88_45 : decode cJ13_bitCount_95d88 45 = .ok (.lushr, 1) := by decide +kernel
theorem dJ13_bitCount_95d88_46 : decode cJ13_bitCount_95d88 46 = .ok (.ladd, 1) := by decide +kernel
theorem dJ13_bitCount_95d88_47 : decode cJ13_bitCount_95d88 47 = .ok (.lstore_n 0, 1) := by decide +kernel
theorem dJ13_bitCount_95d88_48 : decode cJ13_bitCount_95d88 48 = .ok (.lload_n 0, 1) := by decide +kernel
theorem dJ13_bitCount_95d88_49 : decode cJ13_bitCount_95d88 49 = .ok (.lload_n 0, 1) := by decide +kernel
theorem dJ13_bitCount_95d88_50 : decode cJ13_bitCount_95d88 50 = .ok (.bipush 32, 2) := by decide +kernel
theorem dJ13_bitCount_95d88_52 : decode cJ13_bitCount_95d88 52 = .ok (.lushr, 1) := by decide +kernel
theorem dJ13_bitCount_95d88_53 : decode cJ13_bitCount_95d88 53 = .ok (.ladd, 1) := by decide +kernel
theorem dJ13_bitCount_95d88_54 : decode cJ13_bitCount_95d88 54 = .ok (.lstore_n 0, 1) := by decide +kernel
theorem dJ13_bitCount_95d88_55 : decode cJ13_bitCount_95d88 55 = .ok (.lload_n 0, 1) := by decide +kernel
theorem dJ13_bitCount_95d88_56 : decode cJ13_bitCount_95d88 56 = .ok (.l2i, 1) := by decide +kernel
theorem dJ13_bitCount_95d88_57 : decode cJ13_bitCount_95d88 57 = .ok (.bipush 127, 2) := by decide +kernel
theorem dJ13_bitCount_95d88_59 : decode cJ13_bitCount_95d88 59 = .ok (.iand, 1) := by decide +kernel
theorem dJ13_bitCount_95d88_60 : decode cJ13_bitCount_95d88 60 = .ok (.ireturn, 1) := by decide +kernel
theorem dJ9_max_7cf53_0 : decode cJ9_max_7cf53 0 = .ok (.iload_n 0, 1) := by decide +kernel
theorem dJ9_max_7cf53_1 : decode cJ9_max_7cf53 1 = .ok (.iload_n 1, 1) := by decide +kernel
theorem dJ9_max_7cf53_2 : decode cJ9_max_7cf53 2 = .ok (.if_icmp .lt 7, 3) := by decide +kernel
theorem dJ9_max_7cf53_5 : decode cJ9_max_7cf53 5 = .ok (.iload_n 0, 1) := by decide +kernel
theorem dJ9_max_7cf53_6 : decode cJ9_max_7cf53 6 = .ok (.goto 4, 3) := by decide +kernel
theorem dJ9_max_7cf53_9 : decode cJ9_max_7cf53 9 = .ok (.iload_n 1, 1) := by decide +kernel
theorem dJ9_max_7cf53_10 : decode cJ9_max_7cf53 10 = .ok (.ireturn, 1) := by decide +kernel
theorem dJ9_min_7cf53_0 : decode cJ9_min_7cf53 0 = .ok (.iload_n 0, 1) := by decide +kernel
theorem dJ9_min_7cf53_1 : decode cJ9_min_7cf53 1 = .ok (.iload_n 1, 1) := by decide +kernel
theorem dJ9_min_7cf53_2 : decode cJ9_min_7cf53 2 = .ok (.if_icmp .gt 7, 3) := by decide +kernel
theorem dJ9_min_7cf53_5 : decode cJ9_min_7cf53 5 = .ok (.iload_n 0, 1) := by decide +kernel
theorem dJ9_min_7cf53_6 : decode cJ9_min_7cf53 6 = .ok (.goto 4, 3) := by decide +kernel
theorem dJ9_min_7cf53_9 : decode cJ9_min_7cf53 9 = .ok (.iload_n 1, 1) := by decide +kernel
theorem dJ9_min_7cf53_10 : decode cJ9_min_7cf53 10 = .ok (.ireturn, 1) := by decide +kernel
theorem dJ7_copyOf_59c91_0 : decode cJ7_copyOf_59c91 0 = .ok (.iload_n 1, 1) := by decide +kernel
theorem dJ7_copyOf_59c91_1 : decode cJ7_copyOf_59c91 1 = .ok (.aload_n 0, 1) := by decide +kernel
theorem dJ7_copyOf_59c91_2 : decode cJ7_copyOf_59c91 2 = .ok (.arraylength, 1) := by decide +kernel
theorem dJ7_copyOf_59c91_3 : decode cJ7_copyOf_59c91 3 = .ok (.if_icmp .ne 11, 3) := by decide +kernel
theorem dJ7_copyOf_59c91_6 : decode cJ7_copyOf_59c91 6 = .ok (.aload_n 0, 1) := by decide +kernel
theorem dJ7_copyOf_59c91_7 : decode cJ7_copyOf_59c91 7 = .ok (.invokevirtual 316, 3) := by decide +kernel
theorem dJ7_copyOf_59c91_10 : decode cJ7_copyOf_59c91 10 = .ok (.checkcast 317, 3) := by decide +kernel
theorem dJ7_copyOf_59c91_13 : decode cJ7_copyOf_59c91 13 = .ok (.areturn, 1) := by decide +kernel
theorem dJ7_copyOf_59c91_14 : decode cJ7_copyOf_59c91 14 = .ok (.iload_n 1, 1) := by decide +kernel
theorem dJ7_copyOf_59c91_15 : decode cJ7_copyOf_59c91 15 = .ok (.newarray .int, 2) := by decide +kernel
theorem dJ7_copyOf_59c91_17 : decode cJ7_copyOf_59c91 17 = .ok (.astore_n 2, 1) := by decide +kernel
theorem dJ7_copyOf_59c91_18 : decode cJ7_copyOf_59c91 18 = .ok (.aload_n 0, 1) := by decide +kernel
theorem dJ7_copyOf_59c91_19 : decode cJ7_copyOf_59c91 19 = .ok (.iconst 0, 1) := by decide +kernel
theorem dJ7_copyOf_59c91_20 : decode cJ7_copyOf_59c91 20 = .ok (.aload_n 2, 1) := by decide +kernel
theorem dJ7_copyOf_59c91_21 : decode cJ7_copyOf_59c91 21 = .ok (.iconst 0, 1) := by decide +kernel
theorem dJ7_copyOf_59c91_22 : decode cJ7_copyOf_59c91 22 = .ok (.aload_n 0, 1) := by decide +kernel
theorem dJ7_copyOf_59c91_23 : decode cJ7_copyOf_59c91 23 = .ok (.arraylength, 1) := by decide +kernel
theorem dJ7_copyOf_59c91_24 : decode cJ7_copyOf_59c91 24 = .ok (.iload_n 1, 1) := by decide +kernel
theorem dJ7_copyOf_59c91_25 : decode cJ7_copyOf_59c91 25 = .ok (.invokestatic 304, 3) := by decide +kernel
theorem dJ7_copyOf_59c91_28 : decode cJ7_copyOf_59c91 28 = .ok (.invokestatic 150, 3) := by decide +kernel
theorem dJ7_copyOf_59c91_31 : decode cJ7_copyOf_59c91 31 = .ok (.aload_n 2, 1) := by decide +kernel
theorem dJ7_copyOf_59c91_32 : decode cJ7_copyOf_59c91 32 = .ok (.areturn, 1) := by decide +kernel
theorem dL_below_0 : decode cL_below 0 = .ok (.iload_n 0, 1) := by decide +kernel
theorem dL_below_1 : decode cL_below 1 = .ok (.ldc 7, 2) := by decide +kernel
theorem dL_below_3 : decode cL_below 3 = .ok (.iand, 1) := by decide +kernel
theorem dL_below_4 : decode cL_below 4 = .ok (.iload_n 1, 1) := by decide +kernel
theorem dL_below_5 : decode cL_below 5 = .ok (.irem, 1) := by decide +kernel
theorem dL_below_6 : decode cL_below 6 = .ok (.ireturn, 1) := by decide +kernel
theorem dL_cell_0 : decode cL_cell 0 = .ok (.iload_n 1, 1) := by decide +kernel
theorem dL_cell_1 : decode cL_cell 1 = .ok (.aload_n 0, 1) := by decide +kernel
theorem dL_cell_2 : decode cL_cell 2 = .ok (.arraylength, 1) := by decide +kernel
theorem dL_cell_3 : decode cL_cell 3 = .ok (.if_icmp .ge 9, 3) := by decide +kernel
theorem dL_cell_6 : decode cL_cell 6 = .ok (.aload_n 0, 1) := by decide +kernel
theorem dL_cell_7 : decode cL_cell 7 = .ok (.iload_n 1, 1) := by decide +kernel
theorem dL_cell_8 : decode cL_cell 8 = .ok (.iaload, 1) := by decide +kernel
theorem dL_cell_9 : decode cL_cell 9 = .ok (.goto 9, 3) := by decide +kernel
theorem dL_cell_12 : decode cL_cell 12 = .ok (.ldc 8, 2) := by decide +kernel
theorem dL_cell_14 : decode cL_cell 14 = .ok (.iload_n 1, 1) := by decide +kernel
theorem dL_cell_15 : decode cL_cell 15 = .ok (.iconst 3, 1) := by decide +kernel
theorem dL_cell_16 : decode cL_cell 16 = .ok (.iadd, 1) := by decide +kernel
theorem dL_cell_17 : decode cL_cell 17 = .ok (.imul, 1) := by decide +kernel
theorem dL_cell_18 : decode cL_cell 18 = .ok (.ireturn, 1) := by decide +kernel
theorem dL_law_0 : decode cL_law 0 = .ok (.new 9, 3) := by decide +kernel
theorem dL_law_3 : decode cL_law 3 = .ok (.dup, 1) := by decide +kernel
theorem dL_law_4 : decode cL_law 4 = .ok (.invokespecial 11, 3) := by decide +kernel
theorem dL_law_7 : decode cL_law 7 = .ok (.astore_n 1, 1) := by decide +kernel
theorem dL_law_8 : decode cL_law 8 = .ok (.iconst 0, 1) := by decide +kernel
theorem dL_law_9 : decode cL_law 9 = .ok (.istore_n 2, 1) := by decide +kernel
theorem dL_law_10 : decode cL_law 10 = .ok (.iload_n 2, 1) := by decide +kernel
theorem dL_law_11 : decode cL_law 11 = .ok (.bipush 60, 2) := by decide +kernel
theorem dL_law_13 : decode cL_law 13 = .ok (.if_icmp .ge 76, 3) := by decide +kernel
theorem dL_law_16 : decode cL_law 16 = .ok (.aload_n 1, 1) := by decide +kernel
theorem dL_law_17 : decode cL_law 17 = .ok (.aload_n 0, 1) := by decide +kernel
theorem dL_law_18 : decode cL_law 18 = .ok (.iload_n 2, 1) := by decide +kernel
theorem dL_law_19 : decode cL_law 19 = .ok (.bipush 34, 2) := by decide +kernel
theorem dL_law_21 : decode cL_law 21 = .ok (.irem, 1) := by decide +kernel
theorem dL_law_22 : decode cL_law 22 = .ok (.invokestatic 12, 3) := by decide +kernel
theorem dL_law_25 : decode cL_law 25 = .ok (.iload_n 2, 1) := by decide +kernel
theorem dL_law_26 : decode cL_law 26 = .ok (.bipush 34, 2) := by decide +kernel
theorem dL_law_28 : decode cL_law 28 = .ok (.idiv, 1) := by decide +kernel
theorem dL_law_29 : decode cL_law 29 = .ok (.bipush 11, 2) := by decide +kernel
theorem dL_law_31 : decode cL_law 31 = .ok (.imul, 1) := by decide +kernel
theorem dL_law_32 : decode cL_law 32 = .ok (.ishr, 1) := by decide +kernel
theorem dL_law_33 : decode cL_law 33 = .ok (.invokestatic 18, 3) := by decide +kernel
theorem dL_law_36 : decode cL_law 36 = .ok (.ifCond .ne 5, 3) := by decide +kernel
theorem dL_law_39 : decode cL_law 39 = .ok (.iconst 0, 1) := by decide +kernel
theorem dL_law_40 : decode cL_law 40 = .ok (.ireturn, 1) := by decide +kernel
theorem dL_law_41 : decode cL_law 41 = .ok (.iload_n 2, 1) := by decide +kernel
theorem dL_law_42 : decode cL_law 42 = .ok (.bipush 10, 2) := by decide +kernel
theorem dL_law_44 : decode cL_law 44 = .ok (.irem, 1) := by decide +kernel
theorem dL_law_45 : decode cL_law 45 = .ok (.bipush 9, 2) := by decide +kernel
theorem dL_law_47 : decode cL_law 47 = .ok (.if_icmp .eq 6, 3) := by decide +kernel
theorem dL_law_50 : decode cL_law 50 = .ok (.goto 33, 3) := by decide +kernel
theorem dL_law_53 : decode cL_law 53 = .ok (.aload_n 1, 1) := by decide +kernel
theorem dL_law_54 : decode cL_law 54 = .ok (.invokevirtual 22, 3) := by decide +kernel
theorem dL_law_57 : decode cL_law 57 = .ok (.lstore_n 3, 1) := by decide +kernel
theorem dL_law_58 : decode cL_law 58 = .ok (.aload_n 1, 1) := by decide +kernel
theorem dL_law_59 : decode cL_law 59 = .ok (.invokestatic 26, 3) := by decide +kernel
theorem dL_law_62 : decode cL_law 62 = .ok (.ifCond .eq 19, 3) := by decide +kernel
theorem dL_law_65 : decode cL_law 65 = .ok (.aload_n 1, 1) := by decide +kernel
theorem dL_law_66 : decode cL_law 66 = .ok (.invokestatic 30, 3) := by decide +kernel
theorem dL_law_69 : decode cL_law 69 = .ok (.ifCond .eq 12, 3) := by decide +kernel
theorem dL_law_72 : decode cL_law 72 = .ok (.aload_n 1, 1) := by decide +kernel
theorem dL_law_73 : decode cL_law 73 = .ok (.invokevirtual 22, 3) := by decide +kernel
theorem dL_law_76 : decode cL_law 76 = .ok (.lload_n 3, 1) := by decide +kernel
theorem dL_law_77 : decode cL_law 77 = .ok (.lcmp, 1) := by decide +kernel
theorem dL_law_78 : decode cL_law 78 = .ok (.ifCond .eq 5, 3) := by decide +kernel
theorem dL_law_81 : decode cL_law 81 = .ok (.iconst 0, 1) := by decide +kernel
theorem dL_law_82 : decode cL_law 82 = .ok (.ireturn, 1) := by decide +kernel
theorem dL_law_83 : decode cL_law 83 = .ok (.iinc 2 1, 3) := by decide +kernel
theorem dL_law_86 : decode cL_law 86 = .ok (.goto (-76), 3) := by decide +kernel
theorem dL_law_89 : decode cL_law 89 = .ok (.iconst 1, 1) := by decide +kernel
theorem dL_law_90 : decode cL_law 90 = .ok (.ireturn, 1) := by decide +kernel
theorem dL_act_0 : decode cL_act 0 = .ok (.aload_n 0, 1) := by decide +kernel
theorem dL_act_1 : decode cL_act 1 = .ok (.invokevirtual 33, 3) := by decide +kernel
theorem dL_act_4 : decode cL_act 4 = .ok (.istore_n 2, 1) := by decide +kernel
theorem dL_act_5 : decode cL_act 5 = .ok (.aload_n 0, 1) := by decide +kernel
theorem dL_act_6 : decode cL_act 6 = .ok (.iload_n 2, 1) := by decide +kernel
theorem dL_act_7 : decode cL_act 7 = .ok (.invokevirtual 37, 3) := by decide +kernel
theorem dL_act_10 : decode cL_act 10 = .ok (.istore_n 3, 1) := by decide +kernel
theorem dL_act_11 : decode cL_act 11 = .ok (.iload_n 1, 1) := by decide +kernel
theorem dL_act_12 : decode cL_act 12 = .ok (.bipush 18, 2) := by decide +kernel
theorem dL_act_14 : decode cL_act 14 = .ok (.invokestatic 41, 3) := by decide +kernel
theorem dL_act_17 : decode cL_act 17 = .ok (.tableswitch 426 0 16 #[83, 98, 98, 98, 98, 169, 177, 177, 177, 218, 226, 226, 226, 290, 312, 376, 418], 83) := by decide +kernel
theorem dL_act_100 : decode cL_act 100 = .ok (.aload_n 0, 1) := by decide +kernel
theorem dL_act_101 : decode cL_act 101 = .ok (.iload_n 1, 1) := by decide +kernel
theorem dL_act_102 : decode cL_act 102 = .ok (.iconst 4, 1) := by decide +kernel
theorem dL_act_103 : decode cL_act 103 = .ok (.ishr, 1) := by decide +kernel
theorem dL_act_104 : decode cL_act 104 = .ok (.iconst 3, 1) := by decide +kernel
theorem dL_act_105 : decode cL_act 105 = .ok (.invokestatic 41, 3) := by decide +kernel
theorem dL_act_108 : decode cL_act 108 = .ok (.invokevirtual 45, 3) := by decide +kernel
theorem dL_act_111 : decode cL_act 111 = .ok (.pop, 1) := by decide +kernel
theorem dL_act_112 : decode cL_act 112 = .ok (.goto 378, 3) := by decide +kernel
theorem dL_act_115 : decode cL_act 115 = .ok (.iload_n 1, 1) := by decide +kernel
theorem dL_act_116 : decode cL_act 116 = .ok (.iconst 5, 1) := by decide +kernel
theorem dL_act_117 : decode cL_act 117 = .ok (.ishr, 1) := by decide +kernel
theorem dL_act_118 : decode cL_act 118 = .ok (.iconst 1, 1) := by decide +kernel
theorem dL_act_119 : decode cL_act 119 = .ok (.aload_n 0, 1) := by decide +kernel
theorem dL_act_120 : decode cL_act 120 = .ok (.invokevirtual 48, 3) := by decide +kernel
theorem dL_act_123 : decode cL_act 123 = .ok (.invokestatic 51, 3) := by decide +kernel
theorem dL_act_126 : decode cL_act 126 = .ok (.invokestatic 41, 3) := by decide +kernel
theorem dL_act_129 : decode cL_act 129 = .ok (.istore 4, 2) := by decide +kernel
theorem dL_act_131 : decode cL_act 131 = .ok (.aload_n 0, 1) := by decide +kernel
theorem dL_act_132 : decode cL_act 132 = .ok (.iload 4, 2) := by decide +kernel
theorem dL_act_134 : decode cL_act 134 = .ok (.invokevirtual 56, 3) := by decide +kernel
theorem dL_act_137 : decode cL_act 137 = .ok (.istore 5, 2) := by decide +kernel
theorem dL_act_139 : decode cL_act 139 = .ok (.aload_n 0, 1) := by decide +kernel
theorem dL_act_140 : decode cL_act 140 = .ok (.invokevirtual 59, 3) := by decide +kernel
theorem dL_act_143 : decode cL_act 143 = .ok (.istore 6, 2) := by decide +kernel
theorem dL_act_145 : decode cL_act 145 = .ok (.aload_n 0, 1) := by decide +kernel
theorem dL_act_146 : decode cL_act 146 = .ok (.iload 5, 2) := by decide +kernel
theorem dL_act_148 : decode cL_act 148 = .ok (.invokevirtual 62, 3) := by decide +kernel
theorem dL_act_151 : decode cL_act 151 = .ok (.aload_n 0, 1) := by decide +kernel
theorem dL_act_152 : decode cL_act 152 = .ok (.invokevirtual 65, 3) := by decide +kernel
theorem dL_act_155 : decode cL_act 155 = .ok (.if_icmp .ne 29, 3) := by decide +kernel
theorem dL_act_158 : decode cL_act 158 = .ok (.aload_n 0, 1) := by decide +kernel
theorem dL_act_159 : decode cL_act 159 = .ok (.invokevirtual 59, 3) := by decide +kernel
theorem dL_act_162 : decode cL_act 162 = .ok (.iload 6, 2) := by decide +kernel
theorem dL_act_164 : decode cL_act 164 = .ok (.iconst 1, 1) := by decide +kernel
theorem dL_act_165 : decode cL_act 165 = .ok (.iadd, 1) := by decide +kernel
theorem dL_act_166 : decode cL_act 166 = .ok (.if_icmp .ne 18, 3) := by decide +kernel
theorem dL_act_169 : decode cL_act 169 = .ok (.aload_n 0, 1) := by decide +kernel
theorem dL_act_170 : decode cL_act 170 = .ok (.iload 6, 2) := by decide +kernel
theorem dL_act_172 : decode cL_act 172 = .ok (.invokevirtual 68, 3) := by decide +kernel
theorem dL_act_175 : decode cL_act 175 = .ok (.iload 5, 2) := by decide +kernel
theorem dL_act_177 : decode cL_act 177 = .ok (.if_icmp .ne 7, 3) := by decide +kernel
theorem dL_act_180 : decode cL_act 180 = .ok (.iconst 1, 1) := by decide +kernel
theorem dL_act_181 : decode cL_act 181 = .ok (.goto 4, 3) := by decide +kernel
theorem dL_act_184 : decode cL_act 184 = .ok (.iconst 0, 1) := by decide +kernel
theorem dL_act_185 : decode cL_act 185 = .ok (.ireturn, 1) := by decide +kernel
theorem dL_act_186 : decode cL_act 186 = .ok (.aload_n 0, 1) := by decide +kernel
theorem dL_act_187 : decode cL_act 187 = .ok (.invokevirtual 71, 3) := by decide +kernel
theorem dL_act_190 : decode cL_act 190 = .ok (.pop, 1) := by decide +kernel
theorem dL_act_191 : decode cL_act 191 = .ok (.goto 299, 3) := by decide +kernel
theorem dL_act_194 : decode cL_act 194 = .ok (.aload_n 0, 1) := by decide +kernel
theorem dL_act_195 : decode cL_act 195 = .ok (.iload_n 1, 1) := by decide +kernel
theorem dL_act_196 : decode cL_act 196 = .ok (.iconst 4, 1) := by decide +kernel
theorem dL_act_197 : decode cL_act 197 = .ok (.ishr, 1) := by decide +kernel
theorem dL_act_198 : decode cL_act 198 = .ok (.iconst 5, 1) := by decide +kernel
theorem dL_act_199 : decode cL_act 199 = .ok (.invokestatic 41, 3) := by decide +kernel
theorem dL_act_202 : decode cL_act 202 = .ok (.iload_n 1, 1) := by decide +kernel
theorem dL_act_203 : decode cL_act 203 = .ok (.bipush 7, 2) := by decide +kernel
theorem dL_act_205 : decode cL_act 205 = .ok (.ishr, 1) := by decide +kernel
theorem dL_act_206 : decode cL_act 206 = .ok (.iconst 2, 1) := by decide +kernel
theorem dL_act_207 : decode cL_act 207 = .ok (.invokestatic 41, 3) := by decide +kernel
theorem dL_act_210 : decode cL_act 210 = .ok (.invokevirtual 74, 3) := by decide +kernel
theorem dL_act_213 : decode cL_act 213 = .ok (.istore 7, 2) := by decide +kernel
theorem dL_act_215 : decode cL_act 215 = .ok (.aload_n 0, 1) := by decide +kernel
theorem dL_act_216 : decode cL_act 216 = .ok (.iload_n 2, 1) := by decide +kernel
theorem dL_act_217 : decode cL_act 217 = .ok (.invokevirtual 37, 3) := by decide +kernel
theorem dL_act_220 : decode cL_act 220 = .ok (.iload_n 3, 1) := by decide +kernel
theorem dL_act_221 : decode cL_act 221 = .ok (.iload 7, 2) := by decide +kernel
theorem dL_act_223 : decode cL_act 223 = .ok (.isub, 1) := by decide +kernel
theorem dL_act_224 : decode cL_act 224 = .ok (.iconst 1, 1) := by decide +kernel
theorem dL_act_225 : decode cL_act 225 = .ok (.iadd, 1) := by decide +kernel
theorem dL_act_226 : decode cL_act 226 = .ok (.if_icmp .ne 7, 3) := by decide +kernel
theorem dL_act_229 : decode cL_act 229 = .ok (.iconst 1, 1) := by decide +kernel
theorem dL_act_230 : decode cL_act 230 = .ok (.goto 4, 3) := by decide +kernel
theorem dL_act_233 : decode cL_act 233 = .ok (.iconst 0, 1) := by decide +kernel
theorem dL_act_234 : decode cL_act 234 = .ok (.ireturn, 1) := by decide +kernel
theorem dL_act_235 : decode cL_act 235 = .ok (.aload_n 0, 1) := by decide +kernel
theorem dL_act_236 : decode cL_act 236 = .ok (.invokevirtual 77, 3) := by decide +kernel
theorem dL_act_239 : decode cL_act 239 = .ok (.pop, 1) := by decide +kernel
theorem dL_act_240 : decode cL_act 240 = .ok (.goto 250, 3) := by decide +kernel
theorem dL_act_243 : decode cL_act 243 = .ok (.aload_n 0, 1) := by decide +kernel
theorem dL_act_244 : decode cL_act 244 = .ok (.iload_n 1, 1) := by decide +kernel
theorem dL_act_245 : decode cL_act 245 = .ok (.iconst 5, 1) := by decide +kernel
theorem dL_act_246 : decode cL_act 246 = .ok (.ishr, 1) := by decide +kernel
theorem dL_act_247 : decode cL_act 247 = .ok (.bipush 6, 2) := by decide +kernel
theorem dL_act_249 : decode cL_act 249 = .ok (.invokestatic 41, 3) := by decide +kernel
theorem dL_act_252 : decode cL_act 252 = .ok (.invokevirtual 80, 3) := by decide +kernel
theorem dL_act_255 : decode cL_act 255 = .ok (.istore 8, 2) := by decide +kernel
theorem dL_act_257 : decode cL_act 257 = .ok (.iload 8, 2) := by decide +kernel
theorem dL_act_259 : decode cL_act 259 = .ok (.iconst (-1), 1) := by decide +kernel
theorem dL_act_260 : decode cL_act 260 = .ok (.if_icmp .ne 20, 3) := by decide +kernel
theorem dL_act_263 : decode cL_act 263 = .ok (.aload_n 0, 1) := by decide +kernel
theorem dL_act_264 : decode cL_act 264 = .ok (.iload_n 2, 1) := by decide +kernel
theorem dL_act_265 : decode cL_act 265 = .ok (.invokevirtual 37, 3) := by decide +kernel
theorem dL_act_268 : decode cL_act 268 = .ok (.iload_n 3, 1) := by decide +kernel
theorem dL_act_269 : decode cL_act 269 = .ok (.if_icmp .ne 7, 3) := by decide +kernel
theorem dL_act_272 : decode cL_act 272 = .ok (.iconst 1, 1) := by decide +kernel
theorem dL_act_273 : decode cL_act 273 = .ok (.goto 33, 3) := by decide +kernel
theorem dL_act_276 : decode cL_act 276 = .ok (.iconst 0, 1) := by decide +kernel
theorem dL_act_277 : decode cL_act 277 = .ok (.goto 29, 3) := by decide +kernel
theorem dL_act_280 : decode cL_act 280 = .ok (.iload 8, 2) := by decide +kernel
theorem dL_act_282 : decode cL_act 282 = .ok (.iload_n 3, 1) := by decide +kernel
theorem dL_act_283 : decode cL_act 283 = .ok (.aload_n 0, 1) := by decide +kernel
theorem dL_act_284 : decode cL_act 284 = .ok (.invokevirtual 83, 3) := by decide +kernel
theorem dL_act_287 : decode cL_act 287 = .ok (.iadd, 1) := by decide +kernel
theorem dL_act_288 : decode cL_act 288 = .ok (.if_icmp .ne 17, 3) := by decide +kernel
theorem dL_act_291 : decode cL_act 291 = .ok (.aload_n 0, 1) := by decide +kernel
theorem dL_act_292 : decode cL_act 292 = .ok (.iload_n 2, 1) := by decide +kernel
theorem dL_act_293 : decode cL_act 293 = .ok (.invokevirtual 37, 3) := by decide +kernel
theorem dL_act_296 : decode cL_act 296 = .ok (.iload 8, 2) := by decide +kernel
theorem dL_act_298 : decode cL_act 298 = .ok (.if_icmp .ne 7, 3) := by decide +kernel
theorem dL_act_301 : decode cL_act 301 = .ok (.iconst 1, 1) := by decide +kernel
theorem dL_act_302 : decode cL_act 302 = .ok (.goto 4, 3) := by decide +kernel
theorem dL_act_305 : decode cL_act 305 = .ok (.iconst 0, 1) := by decide +kernel
theorem dL_act_306 : decode cL_act 306 = .ok (.ireturn, 1) := by decide +kernel
theorem dL_act_307 : decode cL_act 307 = .ok (.aload_n 0, 1) := by decide +kernel
theorem dL_act_308 : decode cL_act 308 = .ok (.iload_n 1, 1) := by decide +kernel
theorem dL_act_309 : decode cL_act 309 = .ok (.iconst 5, 1) := by decide +kernel
theorem dL_act_310 : decode cL_act 310 = .ok (.ishr, 1) := by decide +kernel
theorem dL_act_311 : decode cL_act 311 = .ok (.bipush 6, 2) := by decide +kernel
theorem dL_act_313 : decode cL_act 313 = .ok (.invokestatic 41, 3) := by decide +kernel
theorem dL_act_316 : decode cL_act 316 = .ok (.invokevirtual 86, 3) := by decide +kernel
theorem dL_act_319 : decode cL_act 319 = .ok (.iload_n 3, 1) := by decide +kernel
theorem dL_act_320 : decode cL_act 320 = .ok (.if_icmp .ge 7, 3) := by decide +kernel
theorem dL_act_323 : decode cL_act 323 = .ok (.iconst 1, 1) := by decide +kernel
theorem dL_act_324 : decode cL_act 324 = .ok (.goto 4, 3) := by decide +kernel
theorem dL_act_327 : decode cL_act 327 = .ok (.iconst 0, 1) := by decide +kernel
theorem dL_act_328 : decode cL_act 328 = .ok (.ireturn, 1) := by decide +kernel
theorem dL_act_329 : decode cL_act 329 = .ok (.iload_n 1, 1) := by decide +kernel
theorem dL_act_330 : decode cL_act 330 = .ok (.iconst 5, 1) := by decide +kernel
theorem dL_act_331 : decode cL_act 331 = .ok (.ishr, 1) := by decide +kernel
theorem dL_act_332 : decode cL_act 332 = .ok (.iconst 3, 1) := by decide +kernel
theorem dL_act_333 : decode cL_act 333 = .ok (.invokestatic 41, 3) := by decide +kernel
theorem dL_act_336 : decode cL_act 336 = .ok (.istore 9, 2) := by decide +kernel
theorem dL_act_338 : decode cL_act 338 = .ok (.iload_n 1, 1) := by decide +kernel
theorem dL_act_339 : decode cL_act 339 = .ok (.bipush 7, 2) := by decide +kernel
theorem dL_act_341 : decode cL_act 341 = .ok (.ishr, 1) := by decide +kernel
theorem dL_act_342 : decode cL_act 342 = .ok (.iconst 3, 1) := by decide +kernel
theorem dL_act_343 : decode cL_act 343 = .ok (.invokestatic 41, 3) := by decide +kernel
theorem dL_act_346 : decode cL_act 346 = .ok (.istore 10, 2) := by decide +kernel
theorem dL_act_348 : decode cL_act 348 = .ok (.aload_n 0, 1) := by decide +kernel
theorem dL_act_349 : decode cL_act 349 = .ok (.iload 9, 2) := by decide +kernel
theorem dL_act_351 : decode cL_act 351 = .ok (.iload 10, 2) := by decide +kernel
theorem dL_act_353 : decode cL_act 353 = .ok (.invokevirtual 89, 3) := by decide +kernel
theorem dL_act_356 : decode cL_act 356 = .ok (.istore 11, 2) := by decide +kernel
theorem dL_act_358 : decode cL_act 358 = .ok (.aload_n 0, 1) := by decide +kernel
theorem dL_act_359 : decode cL_act 359 = .ok (.iload 11, 2) := by decide +kernel
theorem dL_act_361 : decode cL_act 361 = .ok (.iload 9, 2) := by decide +kernel
theorem dL_act_363 : decode cL_act 363 = .ok (.invokevirtual 92, 3) := by decide +kernel
theorem dL_act_366 : decode cL_act 366 = .ok (.iconst (-1), 1) := by decide +kernel
theorem dL_act_367 : decode cL_act 367 = .ok (.if_icmp .ne 24, 3) := by decide +kernel
theorem dL_act_370 : decode cL_act 370 = .ok (.aload_n 0, 1) := by decide +kernel
theorem dL_act_371 : decode cL_act 371 = .ok (.iload 11, 2) := by decide +kernel
theorem dL_act_373 : decode cL_act 373 = .ok (.invokevirtual 95, 3) := by decide +kernel
theorem dL_act_376 : decode cL_act 376 = .ok (.aload_n 0, 1) := by decide +kernel
theorem dL_act_377 : decode cL_act 377 = .ok (.iload 9, 2) := by decide +kernel
theorem dL_act_379 : decode cL_act 379 = .ok (.iload 10, 2) := by decide +kernel
theorem dL_act_381 : decode cL_act 381 = .ok (.invokevirtual 98, 3) := by decide +kernel
theorem dL_act_384 : decode cL_act 384 = .ok (.if_icmp .ne 7, 3) := by decide +kernel
theorem dL_act_387 : decode cL_act 387 = .ok (.iconst 1, 1) := by decide +kernel
theorem dL_act_388 : decode cL_act 388 = .ok (.goto 4, 3) := by decide +kernel
theorem dL_act_391 : decode cL_act 391 = .ok (.iconst 0, 1) := by decide +kernel
theorem dL_act_392 : decode cL_act 392 = .ok (.ireturn, 1) := by decide +kernel
theorem dL_act_393 : decode cL_act 393 = .ok (.aload_n 0, 1) := by decide +kernel
theorem dL_act_394 : decode cL_act 394 = .ok (.invokevirtual 101, 3) := by decide +kernel
theorem dL_act_397 : decode cL_act 397 = .ok (.ifCond .eq 93, 3) := by decide +kernel
theorem dL_act_400 : decode cL_act 400 = .ok (.aload_n 0, 1) := by decide +kernel
theorem dL_act_401 : decode cL_act 401 = .ok (.invokevirtual 101, 3) := by decide +kernel
theorem dL_act_404 : decode cL_act 404 = .ok (.bipush 8, 2) := by decide +kernel
theorem dL_act_406 : decode cL_act 406 = .ok (.if_icmp .ne 6, 3) := by decide +kernel
theorem dL_act_409 : decode cL_act 409 = .ok (.goto 81, 3) := by decide +kernel
theorem dL_act_412 : decode cL_act 412 = .ok (.aload_n 0, 1) := by decide +kernel
theorem dL_act_413 : decode cL_act 413 = .ok (.iload_n 1, 1) := by decide +kernel
theorem dL_act_414 : decode cL_act 414 = .ok (.iconst 5, 1) := by decide +kernel
theorem dL_act_415 : decode cL_act 415 = .ok (.ishr, 1) := by decide +kernel
theorem dL_act_416 : decode cL_act 416 = .ok (.aload_n 0, 1) := by decide +kernel
theorem dL_act_417 : decode cL_act 417 = .ok (.invokevirtual 101, 3) := by decide +kernel
theorem dL_act_420 : decode cL_act 420 = .ok (.invokestatic 41, 3) := by decide +kernel
theorem dL_act_423 : decode cL_act 423 = .ok (.iload_n 1, 1) := by decide +kernel
theorem dL_act_424 : decode cL_act 424 = .ok (.bipush 7, 2) := by decide +kernel
theorem dL_act_426 : decode cL_act 426 = .ok (.ishr, 1) := by decide +kernel
theorem dL_act_427 : decode cL_act 427 = .ok (.iconst 3, 1) := by decide +kernel
theorem dL_act_428 : decode cL_act 428 = .ok (.invokestatic 41, 3) := by decide +kernel
theorem dL_act_431 : decode cL_act 431 = .ok (.invokestatic 104, 3) := by decide +kernel
theorem dL_act_434 : decode cL_act 434 = .ok (.ireturn, 1) := by decide +kernel
theorem dL_act_435 : decode cL_act 435 = .ok (.aload_n 0, 1) := by decide +kernel
theorem dL_act_436 : decode cL_act 436 = .ok (.invokevirtual 108, 3) := by decide +kernel
theorem dL_act_439 : decode cL_act 439 = .ok (.pop, 1) := by decide +kernel
theorem dL_act_440 : decode cL_act 440 = .ok (.goto 50, 3) := by decide +kernel
theorem dL_act_443 : decode cL_act 443 = .ok (.iload_n 1, 1) := by decide +kernel
theorem dL_act_444 : decode cL_act 444 = .ok (.iconst 5, 1) := by decide +kernel
theorem dL_act_445 : decode cL_act 445 = .ok (.ishr, 1) := by decide +kernel
theorem dL_act_446 : decode cL_act 446 = .ok (.iconst 2, 1) := by decide +kernel
theorem dL_act_447 : decode cL_act 447 = .ok (.invokestatic 41, 3) := by decide +kernel
theorem dL_act_450 : decode cL_act 450 = .ok (.ifCond .ne 26, 3) := by decide +kernel
theorem dL_act_453 : decode cL_act 453 = .ok (.aload_n 0, 1) := by decide +kernel
theorem dL_act_454 : decode cL_act 454 = .ok (.aload_n 0, 1) := by decide +kernel
theorem dL_act_455 : decode cL_act 455 = .ok (.invokevirtual 111, 3) := by decide +kernel
theorem dL_act_458 : decode cL_act 458 = .ok (.iconst 1, 1) := by decide +kernel
theorem dL_act_459 : decode cL_act 459 = .ok (.iload_n 1, 1) := by decide +kernel
theorem dL_act_460 : decode cL_act 460 = .ok (.bipush 6, 2) := by decide +kernel
theorem dL_act_462 : decode cL_act 462 = .ok (.ishr, 1) := by decide +kernel
theorem dL_act_463 : decode cL_act 463 = .ok (.iconst 3, 1) := by decide +kernel
theorem dL_act_464 : decode cL_act 464 = .ok (.invokestatic 41, 3) := by decide +kernel
theorem dL_act_467 : decode cL_act 467 = .ok (.iadd, 1) := by decide +kernel
theorem dL_act_468 : decode cL_act 468 = .ok (.iconst 0, 1) := by decide +kernel
theorem dL_act_469 : decode cL_act 469 = .ok (.invokevirtual 114, 3) := by decide +kernel
theorem dL_act_472 : decode cL_act 472 = .ok (.pop, 1) := by decide +kernel
theorem dL_act_473 : decode cL_act 473 = .ok (.goto 17, 3) := by decide +kernel
theorem dL_act_476 : decode cL_act 476 = .ok (.aload_n 0, 1) := by decide +kernel
theorem dL_act_477 : decode cL_act 477 = .ok (.iconst 0, 1) := by decide +kernel
theorem dL_act_478 : decode cL_act 478 = .ok (.iload_n 1, 1) := by decide +kernel
theorem dL_act_479 : decode cL_act 479 = .ok (.bipush 6, 2) := by decide +kernel
theorem dL_act_481 : decode cL_act 481 = .ok (.ishr, 1) := by decide +kernel
theorem dL_act_482 : decode cL_act 482 = .ok (.iconst 3, 1) := by decide +kernel
theorem dL_act_483 : decode cL_act 483 = .ok (.invokestatic 41, 3) := by decide +kernel
theorem dL_act_486 : decode cL_act 486 = .ok (.invokevirtual 118, 3) := by decide +kernel
theorem dL_act_489 : decode cL_act 489 = .ok (.pop, 1) := by decide +kernel
theorem dL_act_490 : decode cL_act 490 = .ok (.goto 37, 3) := by decide +kernel
theorem dL_act_493 : decode cL_act 493 = .ok (.astore 4, 2) := by decide +kernel
theorem dL_act_495 : decode cL_act 495 = .ok (.aload_n 0, 1) := by decide +kernel
theorem dL_act_496 : decode cL_act 496 = .ok (.iload_n 2, 1) := by decide +kernel
theorem dL_act_497 : decode cL_act 497 = .ok (.invokevirtual 37, 3) := by decide +kernel
theorem dL_act_500 : decode cL_act 500 = .ok (.iload_n 3, 1) := by decide +kernel
theorem dL_act_501 : decode cL_act 501 = .ok (.if_icmp .ne 7, 3) := by decide +kernel
theorem dL_act_504 : decode cL_act 504 = .ok (.iconst 1, 1) := by decide +kernel
theorem dL_act_505 : decode cL_act 505 = .ok (.goto 4, 3) := by decide +kernel
theorem dL_act_508 : decode cL_act 508 = .ok (.iconst 0, 1) := by decide +kernel
theorem dL_act_509 : decode cL_act 509 = .ok (.ireturn, 1) := by decide +kernel
theorem dL_act_510 : decode cL_act 510 = .ok (.astore 4, 2) := by decide +kernel
theorem dL_act_512 : decode cL_act 512 = .ok (.aload_n 0, 1) := by decide +kernel
theorem dL_act_513 : decode cL_act 513 = .ok (.iload_n 2, 1) := by decide +kernel
theorem dL_act_514 : decode cL_act 514 = .ok (.invokevirtual 37, 3) := by decide +kernel
theorem dL_act_517 : decode cL_act 517 = .ok (.iload_n 3, 1) := by decide +kernel
theorem dL_act_518 : decode cL_act 518 = .ok (.if_icmp .ne 7, 3) := by decide +kernel
theorem dL_act_521 : decode cL_act 521 = .ok (.iconst 1, 1) := by decide +kernel
theorem dL_act_522 : decode cL_act 522 = .ok (.goto 4, 3) := by decide +kernel
theorem dL_act_525 : decode cL_act 525 = .ok (.iconst 0, 1) := by decide +kernel
theorem dL_act_526 : decode cL_act 526 = .ok (.ireturn, 1) := by decide +kernel
theorem dL_act_527 : decode cL_act 527 = .ok (.iconst 1, 1) := by decide +kernel
theorem dL_act_528 : decode cL_act 528 = .ok (.ireturn, 1) := by decide +kernel
theorem dL_isTurnedBack_0 : decode cL_isTurnedBack 0 = .ok (.aload_n 0, 1) := by decide +kernel
theorem dL_isTurnedBack_1 : decode cL_isTurnedBack 1 = .ok (.iload_n 1, 1) := by decide +kernel
theorem dL_isTurnedBack_2 : decode cL_isTurnedBack 2 = .ok (.iload_n 2, 1) := by decide +kernel
theorem dL_isTurnedBack_3 : decode cL_isTurnedBack 3 = .ok (.invokevirtual 92, 3) := by decide +kernel
theorem dL_isTurnedBack_6 : decode cL_isTurnedBack 6 = .ok (.istore_n 3, 1) := by decide +kernel
theorem dL_isTurnedBack_7 : decode cL_isTurnedBack 7 = .ok (.aload_n 0, 1) := by decide +kernel
theorem dL_isTurnedBack_8 : decode cL_isTurnedBack 8 = .ok (.iload_n 2, 1) := by decide +kernel
theorem dL_isTurnedBack_9 : decode cL_isTurnedBack 9 = .ok (.invokevirtual 37, 3) := by decide +kernel
theorem dL_isTurnedBack_12 : decode cL_isTurnedBack 12 = .ok (.i2l, 1) := by decide +kernel
theorem dL_isTurnedBack_13 : decode cL_isTurnedBack 13 = .ok (.lstore 4, 2) := by decide +kernel
theorem dL_isTurnedBack_15 : decode cL_isTurnedBack 15 = .ok (.aload_n 0, 1) := by decide +kernel
theorem dL_isTurnedBack_16 : decode cL_isTurnedBack 16 = .ok (.invokevirtual 101, 3) := by decide +kernel
theorem dL_isTurnedBack_19 : decode cL_isTurnedBack 19 = .ok (.bipush 6, 2) := by decide +kernel
theorem dL_isTurnedBack_21 : decode cL_isTurnedBack 21 = .ok (.if_icmp .le 5, 3) := by decide +kernel
theorem dL_isTurnedBack_24 : decode cL_isTurnedBack 24 = .ok (.iconst 1, 1) := by decide +kernel
theorem dL_isTurnedBack_25 : decode cL_isTurnedBack 25 = .ok (.ireturn, 1) := by decide +kernel
theorem dL_isTurnedBack_26 : decode cL_isTurnedBack 26 = .ok (.aload_n 0, 1) := by decide +kernel
theorem dL_isTurnedBack_27 : decode cL_isTurnedBack 27 = .ok (.iload_n 1, 1) := by decide +kernel
theorem dL_isTurnedBack_28 : decode cL_isTurnedBack 28 = .ok (.iload_n 2, 1) := by decide +kernel
theorem dL_isTurnedBack_29 : decode cL_isTurnedBack 29 = .ok (.invokevirtual 125, 3) := by decide +kernel
theorem dL_isTurnedBack_32 : decode cL_isTurnedBack 32 = .ok (.istore 6, 2) := by decide +kernel
theorem dL_isTurnedBack_34 : decode cL_isTurnedBack 34 = .ok (.iload_n 3, 1) := by decide +kernel
theorem dL_isTurnedBack_35 : decode cL_isTurnedBack 35 = .ok (.iconst (-1), 1) := by decide +kernel
theorem dL_isTurnedBack_36 : decode cL_isTurnedBack 36 = .ok (.if_icmp .eq 27, 3) := by decide +kernel
theorem dL_isTurnedBack_39 : decode cL_isTurnedBack 39 = .ok (.iload 6, 2) := by decide +kernel
theorem dL_isTurnedBack_41 : decode cL_isTurnedBack 41 = .ok (.iconst (-1), 1) := by decide +kernel
theorem dL_isTurnedBack_42 : decode cL_isTurnedBack 42 = .ok (.if_icmp .ne 19, 3) := by decide +kernel
theorem dL_isTurnedBack_45 : decode cL_isTurnedBack 45 = .ok (.aload_n 0, 1) := by decide +kernel
theorem dL_isTurnedBack_46 : decode cL_isTurnedBack 46 = .ok (.iload_n 2, 1) := by decide +kernel
theorem dL_isTurnedBack_47 : decode cL_isTurnedBack 47 = .ok (.invokevirtual 37, 3) := by decide +kernel
theorem dL_isTurnedBack_50 : decode cL_isTurnedBack 50 = .ok (.i2l, 1) := by decide +kernel
theorem dL_isTurnedBack_51 : decode cL_isTurnedBack 51 = .ok (.lload 4, 2) := by decide +kernel
theorem dL_isTurnedBack_53 : decode cL_isTurnedBack 53 = .ok (.lcmp, 1) := by decide +kernel
theorem dL_isTurnedBack_54 : decode cL_isTurnedBack 54 = .ok (.ifCond .ne 7, 3) := by decide +kernel
theorem dL_isTurnedBack_57 : decode cL_isTurnedBack 57 = .ok (.iconst 1, 1) := by decide +kernel
theorem dL_isTurnedBack_58 : decode cL_isTurnedBack 58 = .ok (.goto 4, 3) := by decide +kernel
theorem dL_isTurnedBack_61 : decode cL_isTurnedBack 61 = .ok (.iconst 0, 1) := by decide +kernel
theorem dL_isTurnedBack_62 : decode cL_isTurnedBack 62 = .ok (.ireturn, 1) := by decide +kernel
theorem dL_isTurnedBack_63 : decode cL_isTurnedBack 63 = .ok (.iload 6, 2) := by decide +kernel
theorem dL_isTurnedBack_65 : decode cL_isTurnedBack 65 = .ok (.aload_n 0, 1) := by decide +kernel
theorem dL_isTurnedBack_66 : decode cL_isTurnedBack 66 = .ok (.invokevirtual 101, 3) := by decide +kernel
theorem dL_isTurnedBack_69 : decode cL_isTurnedBack 69 = .ok (.iconst 1, 1) := by decide +kernel
theorem dL_isTurnedBack_70 : decode cL_isTurnedBack 70 = .ok (.isub, 1) := by decide +kernel
theorem dL_isTurnedBack_71 : decode cL_isTurnedBack 71 = .ok (.if_icmp .ne 28, 3) := by decide +kernel
theorem dL_isTurnedBack_74 : decode cL_isTurnedBack 74 = .ok (.aload_n 0, 1) := by decide +kernel
theorem dL_isTurnedBack_75 : decode cL_isTurnedBack 75 = .ok (.iload 6, 2) := by decide +kernel
theorem dL_isTurnedBack_77 : decode cL_isTurnedBack 77 = .ok (.invokevirtual 95, 3) := by decide +kernel
theorem dL_isTurnedBack_80 : decode cL_isTurnedBack 80 = .ok (.aload_n 0, 1) := by decide +kernel
theorem dL_isTurnedBack_81 : decode cL_isTurnedBack 81 = .ok (.iload_n 1, 1) := by decide +kernel
theorem dL_isTurnedBack_82 : decode cL_isTurnedBack 82 = .ok (.invokevirtual 95, 3) := by decide +kernel
theorem dL_isTurnedBack_85 : decode cL_isTurnedBack 85 = .ok (.if_icmp .ne 14, 3) := by decide +kernel
theorem dL_isTurnedBack_88 : decode cL_isTurnedBack 88 = .ok (.aload_n 0, 1) := by decide +kernel
theorem dL_isTurnedBack_89 : decode cL_isTurnedBack 89 = .ok (.iload 6, 2) := by decide +kernel
theorem dL_isTurnedBack_91 : decode cL_isTurnedBack 91 = .ok (.iload_n 2, 1) := by decide +kernel
theorem dL_isTurnedBack_92 : decode cL_isTurnedBack 92 = .ok (.invokevirtual 92, 3) := by decide +kernel
theorem dL_isTurnedBack_95 : decode cL_isTurnedBack 95 = .ok (.iconst (-1), 1) := by decide +kernel
theorem dL_isTurnedBack_96 : decode cL_isTurnedBack 96 = .ok (.if_icmp .eq 5, 3) := by decide +kernel
theorem dL_isTurnedBack_99 : decode cL_isTurnedBack 99 = .ok (.iconst 0, 1) := by decide +kernel
theorem dL_isTurnedBack_100 : decode cL_isTurnedBack 100 = .ok (.ireturn, 1) := by decide +kernel
theorem dL_isTurnedBack_101 : decode cL_isTurnedBack 101 = .ok (.aload_n 0, 1) := by decide +kernel
theorem dL_isTurnedBack_102 : decode cL_isTurnedBack 102 = .ok (.iload 6, 2) := by decide +kernel
theorem dL_isTurnedBack_104 : decode cL_isTurnedBack 104 = .ok (.iload_n 2, 1) := by decide +kernel
theorem dL_isTurnedBack_105 : decode cL_isTurnedBack 105 = .ok (.invokevirtual 125, 3) := by decide +kernel
theorem dL_isTurnedBack_108 : decode cL_isTurnedBack 108 = .ok (.istore 7, 2) := by decide +kernel
theorem dL_isTurnedBack_110 : decode cL_isTurnedBack 110 = .ok (.aload_n 0, 1) := by decide +kernel
theorem dL_isTurnedBack_111 : decode cL_isTurnedBack 111 = .ok (.iload_n 2, 1) := by decide +kernel
theorem dL_isTurnedBack_112 : decode cL_isTurnedBack 112 = .ok (.invokevirtual 37, 3) := by decide +kernel
theorem dL_isTurnedBack_115 : decode cL_isTurnedBack 115 = .ok (.i2l, 1) := by decide +kernel
theorem dL_isTurnedBack_116 : decode cL_isTurnedBack 116 = .ok (.lload 4, 2) := by decide +kernel
theorem dL_isTurnedBack_118 : decode cL_isTurnedBack 118 = .ok (.lcmp, 1) := by decide +kernel
theorem dL_isTurnedBack_119 : decode cL_isTurnedBack 119 = .ok (.ifCond .ne 17, 3) := by decide +kernel
theorem dL_isTurnedBack_122 : decode cL_isTurnedBack 122 = .ok (.aload_n 0, 1) := by decide +kernel
theorem dL_isTurnedBack_123 : decode cL_isTurnedBack 123 = .ok (.iload_n 1, 1) := by decide +kernel
theorem dL_isTurnedBack_124 : decode cL_isTurnedBack 124 = .ok (.iload_n 2, 1) := by decide +kernel
theorem dL_isTurnedBack_125 : decode cL_isTurnedBack 125 = .ok (.invokevirtual 92, 3) := by decide +kernel
theorem dL_isTurnedBack_128 : decode cL_isTurnedBack 128 = .ok (.iconst (-1), 1) := by decide +kernel
theorem dL_isTurnedBack_129 : decode cL_isTurnedBack 129 = .ok (.if_icmp .ne 7, 3) := by decide +kernel
theorem dL_isTurnedBack_132 : decode cL_isTurnedBack 132 = .ok (.iconst 1, 1) := by decide +kernel
theorem dL_isTurnedBack_133 : decode cL_isTurnedBack 133 = .ok (.goto 4, 3) := by decide +kernel
theorem dL_isTurnedBack_136 : decode cL_isTurnedBack 136 = .ok (.iconst 0, 1) := by decide +kernel
theorem dL_isTurnedBack_137 : decode cL_isTurnedBack 137 = .ok (.istore 8, 2) := by decide +kernel
theorem dL_isTurnedBack_139 : decode cL_isTurnedBack 139 = .ok (.aload_n 0, 1) := by decide +kernel
theorem dL_isTurnedBack_140 : decode cL_isTurnedBack 140 = .ok (.invokevirtual 108, 3) := by decide +kernel
theorem dL_isTurnedBack_143 : decode cL_isTurnedBack 143 = .ok (.pop, 1) := by decide +kernel
theorem dL_isTurnedBack_144 : decode cL_isTurnedBack 144 = .ok (.aload_n 0, 1) := by decide +kernel
theorem dL_isTurnedBack_145 : decode cL_isTurnedBack 145 = .ok (.invokevirtual 108, 3) := by decide +kernel
theorem dL_isTurnedBack_148 : decode cL_isTurnedBack 148 = .ok (.pop, 1) := by decide +kernel
theorem dL_isTurnedBack_149 : decode cL_isTurnedBack 149 = .ok (.iload 8, 2) := by decide +kernel
theorem dL_isTurnedBack_151 : decode cL_isTurnedBack 151 = .ok (.ifCond .eq 16, 3) := by decide +kernel
theorem dL_isTurnedBack_154 : decode cL_isTurnedBack 154 = .ok (.iload 7, 2) := by decide +kernel
theorem dL_isTurnedBack_156 : decode cL_isTurnedBack 156 = .ok (.iload 6, 2) := by decide +kernel
theorem dL_isTurnedBack_158 : decode cL_isTurnedBack 158 = .ok (.iconst 1, 1) := by decide +kernel
theorem dL_isTurnedBack_159 : decode cL_isTurnedBack 159 = .ok (.iadd, 1) := by decide +kernel
theorem dL_isTurnedBack_160 : decode cL_isTurnedBack 160 = .ok (.if_icmp .ne 7, 3) := by decide +kernel
theorem dL_isTurnedBack_163 : decode cL_isTurnedBack 163 = .ok (.iconst 1, 1) := by decide +kernel
theorem dL_isTurnedBack_164 : decode cL_isTurnedBack 164 = .ok (.goto 4, 3) := by decide +kernel
theorem dL_isTurnedBack_167 : decode cL_isTurnedBack 167 = .ok (.iconst 0, 1) := by decide +kernel
theorem dL_isTurnedBack_168 : decode cL_isTurnedBack 168 = .ok (.ireturn, 1) := by decide +kernel
theorem dL_areDocumentsRight_0 : decode cL_areDocumentsRight 0 = .ok (.iconst 0, 1) := by decide +kernel
theorem dL_areDocumentsRight_1 : decode cL_areDocumentsRight 1 = .ok (.istore_n 1, 1) := by decide +kernel
theorem dL_areDocumentsRight_2 : decode cL_areDocumentsRight 2 = .ok (.iload_n 1, 1) := by decide +kernel
theorem dL_areDocumentsRight_3 : decode cL_areDocumentsRight 3 = .ok (.bipush 6, 2) := by decide +kernel
theorem dL_areDocumentsRight_5 : decode cL_areDocumentsRight 5 = .ok (.if_icmp .ge 145, 3) := by decide +kernel
theorem dL_areDocumentsRight_8 : decode cL_areDocumentsRight 8 = .ok (.aload_n 0, 1) := by decide +kernel
theorem dL_areDocumentsRight_9 : decode cL_areDocumentsRight 9 = .ok (.iload_n 1, 1) := by decide +kernel
theorem dL_areDocumentsRight_10 : decode cL_areDocumentsRight 10 = .ok (.invokevirtual 37, 3) := by decide +kernel
theorem dL_areDocumentsRight_13 : decode cL_areDocumentsRight 13 = .ok (.iconst 1, 1) := by decide +kernel
theorem dL_areDocumentsRight_14 : decode cL_areDocumentsRight 14 = .ok (.if_icmp .lt 45, 3) := by decide +kernel
theorem dL_areDocumentsRight_17 : decode cL_areDocumentsRight 17 = .ok (.aload_n 0, 1) := by decide +kernel
theorem dL_areDocumentsRight_18 : decode cL_areDocumentsRight 18 = .ok (.iload_n 1, 1) := by decide +kernel
theorem dL_areDocumentsRight_19 : decode cL_areDocumentsRight 19 = .ok (.invokevirtual 37, 3) := by decide +kernel
theorem dL_areDocumentsRight_22 : decode cL_areDocumentsRight 22 = .ok (.bipush 50, 2) := by decide +kernel
theorem dL_areDocumentsRight_24 : decode cL_areDocumentsRight 24 = .ok (.if_icmp .gt 35, 3) := by decide +kernel
theorem dL_areDocumentsRight_27 : decode cL_areDocumentsRight 27 = .ok (.aload_n 0, 1) := by decide +kernel
theorem dL_areDocumentsRight_28 : decode cL_areDocumentsRight 28 = .ok (.iload_n 1, 1) := by decide +kernel
theorem dL_areDocumentsRight_29 : decode cL_areDocumentsRight 29 = .ok (.invokevirtual 128, 3) := by decide +kernel
theorem dL_areDocumentsRight_32 : decode cL_areDocumentsRight 32 = .ok (.iconst 1, 1) := by decide +kernel
theorem dL_areDocumentsRight_33 : decode cL_areDocumentsRight 33 = .ok (.if_icmp .lt 26, 3) := by decide +kernel
theorem dL_areDocumentsRight_36 : decode cL_areDocumentsRight 36 = .ok (.aload_n 0, 1) := by decide +kernel
theorem dL_areDocumentsRight_37 : decode cL_areDocumentsRight 37 = .ok (.iload_n 1, 1) := by decide +kernel
theorem dL_areDocumentsRight_38 : decode cL_areDocumentsRight 38 = .ok (.invokevirtual 128, 3) := by decide +kernel
theorem dL_areDocumentsRight_41 : decode cL_areDocumentsRight 41 = .ok (.bipush 7, 2) := by decide +kernel
theorem dL_areDocumentsRight_43 : decode cL_areDocumentsRight 43 = .ok (.if_icmp .gt 16, 3) := by decide +kernel
theorem dL_areDocumentsRight_46 : decode cL_areDocumentsRight 46 = .ok (.aload_n 0, 1) := by decide +kernel
theorem dL_areDocumentsRight_47 : decode cL_areDocumentsRight 47 = .ok (.iload_n 1, 1) := by decide +kernel
theorem dL_areDocumentsRight_48 : decode cL_areDocumentsRight 48 = .ok (.invokevirtual 128, 3) := by decide +kernel
theorem dL_areDocumentsRight_51 : decode cL_areDocumentsRight 51 = .ok (.aload_n 0, 1) := by decide +kernel
theorem dL_areDocumentsRight_52 : decode cL_areDocumentsRight 52 = .ok (.iload_n 1, 1) := by decide +kernel
theorem dL_areDocumentsRight_53 : decode cL_areDocumentsRight 53 = .ok (.invokevirtual 37, 3) := by decide +kernel
theorem dL_areDocumentsRight_56 : decode cL_areDocumentsRight 56 = .ok (.if_icmp .le 5, 3) := by decide +kernel
theorem dL_areDocumentsRight_59 : decode cL_areDocumentsRight 59 = .ok (.iconst 0, 1) := by decide +kernel
theorem dL_areDocumentsRight_60 : decode cL_areDocumentsRight 60 = .ok (.ireturn, 1) := by decide +kernel
theorem dL_areDocumentsRight_61 : decode cL_areDocumentsRight 61 = .ok (.iconst 0, 1) := by decide +kernel
theorem dL_areDocumentsRight_62 : decode cL_areDocumentsRight 62 = .ok (.istore_n 2, 1) := by decide +kernel
theorem dL_areDocumentsRight_63 : decode cL_areDocumentsRight 63 = .ok (.iload_n 2, 1) := by decide +kernel
theorem dL_areDocumentsRight_64 : decode cL_areDocumentsRight 64 = .ok (.bipush 6, 2) := by decide +kernel
theorem dL_areDocumentsRight_66 : decode cL_areDocumentsRight 66 = .ok (.if_icmp .ge 78, 3) := by decide +kernel
theorem dL_areDocumentsRight_69 : decode cL_areDocumentsRight 69 = .ok (.aload_n 0, 1) := by decide +kernel
theorem dL_areDocumentsRight_70 : decode cL_areDocumentsRight 70 = .ok (.iload_n 1, 1) := by decide +kernel
theorem dL_areDocumentsRight_71 : decode cL_areDocumentsRight 71 = .ok (.iload_n 2, 1) := by decide +kernel
theorem dL_areDocumentsRight_72 : decode cL_areDocumentsRight 72 = .ok (.invokevirtual 131, 3) := by decide +kernel
theorem dL_areDocumentsRight_75 : decode cL_areDocumentsRight 75 = .ok (.istore_n 3, 1) := by decide +kernel
theorem dL_areDocumentsRight_76 : decode cL_areDocumentsRight 76 = .ok (.iload_n 3, 1) := by decide +kernel
theorem dL_areDocumentsRight_77 : decode cL_areDocumentsRight 77 = .ok (.aload_n 0, 1) := by decide +kernel
theorem dL_areDocumentsRight_78 : decode cL_areDocumentsRight 78 = .ok (.iload_n 2, 1) := by decide +kernel
theorem dL_areDocumentsRight_79 : decode cL_areDocumentsRight 79 = .ok (.iload_n 1, 1) := by decide +kernel
theorem dL_areDocumentsRight_80 : decode cL_areDocumentsRight 80 = .ok (.invokevirtual 131, 3) := by decide +kernel
theorem dL_areDocumentsRight_83 : decode cL_areDocumentsRight 83 = .ok (.if_icmp .ne 53, 3) := by decide +kernel
theorem dL_areDocumentsRight_86 : decode cL_areDocumentsRight 86 = .ok (.iload_n 3, 1) := by decide +kernel
theorem dL_areDocumentsRight_87 : decode cL_areDocumentsRight 87 = .ok (.aload_n 0, 1) := by decide +kernel
theorem dL_areDocumentsRight_88 : decode cL_areDocumentsRight 88 = .ok (.iload_n 1, 1) := by decide +kernel
theorem dL_areDocumentsRight_89 : decode cL_areDocumentsRight 89 = .ok (.invokevirtual 37, 3) := by decide +kernel
theorem dL_areDocumentsRight_92 : decode cL_areDocumentsRight 92 = .ok (.aload_n 0, 1) := by decide +kernel
theorem dL_areDocumentsRight_93 : decode cL_areDocumentsRight 93 = .ok (.iload_n 2, 1) := by decide +kernel
theorem dL_areDocumentsRight_94 : decode cL_areDocumentsRight 94 = .ok (.invokevirtual 37, 3) := by decide +kernel
theorem dL_areDocumentsRight_97 : decode cL_areDocumentsRight 97 = .ok (.iadd, 1) := by decide +kernel
theorem dL_areDocumentsRight_98 : decode cL_areDocumentsRight 98 = .ok (.if_icmp .gt 38, 3) := by decide +kernel
theorem dL_areDocumentsRight_101 : decode cL_areDocumentsRight 101 = .ok (.iload_n 1, 1) := by decide +kernel
theorem dL_areDocumentsRight_102 : decode cL_areDocumentsRight 102 = .ok (.iload_n 2, 1) := by decide +kernel
theorem dL_areDocumentsRight_103 : decode cL_areDocumentsRight 103 = .ok (.if_icmp .ne 7, 3) := by decide +kernel
theorem dL_areDocumentsRight_106 : decode cL_areDocumentsRight 106 = .ok (.iload_n 3, 1) := by decide +kernel
theorem dL_areDocumentsRight_107 : decode cL_areDocumentsRight 107 = .ok (.ifCond .ne 29, 3) := by decide +kernel
theorem dL_areDocumentsRight_110 : decode cL_areDocumentsRight 110 = .ok (.iload_n 3, 1) := by decide +kernel
theorem dL_areDocumentsRight_111 : decode cL_areDocumentsRight 111 = .ok (.ifCond .ne 7, 3) := by decide +kernel
theorem dL_areDocumentsRight_114 : decode cL_areDocumentsRight 114 = .ok (.iconst 1, 1) := by decide +kernel
theorem dL_areDocumentsRight_115 : decode cL_areDocumentsRight 115 = .ok (.goto 4, 3) := by decide +kernel
theorem dL_areDocumentsRight_118 : decode cL_areDocumentsRight 118 = .ok (.iconst 0, 1) := by decide +kernel
theorem dL_areDocumentsRight_119 : decode cL_areDocumentsRight 119 = .ok (.aload_n 0, 1) := by decide +kernel
theorem dL_areDocumentsRight_120 : decode cL_areDocumentsRight 120 = .ok (.iload_n 1, 1) := by decide +kernel
theorem dL_areDocumentsRight_121 : decode cL_areDocumentsRight 121 = .ok (.iload_n 2, 1) := by decide +kernel
theorem dL_areDocumentsRight_122 : decode cL_areDocumentsRight 122 = .ok (.invokevirtual 98, 3) := by decide +kernel
theorem dL_areDocumentsRight_125 : decode cL_areDocumentsRight 125 = .ok (.ifCond .ne 7, 3) := by decide +kernel
theorem dL_areDocumentsRight_128 : decode cL_areDocumentsRight 128 = .ok (.iconst 1, 1) := by decide +kernel
theorem dL_areDocumentsRight_129 : decode cL_areDocumentsRight 129 = .ok (.goto 4, 3) := by decide +kernel
theorem dL_areDocumentsRight_132 : decode cL_areDocumentsRight 132 = .ok (.iconst 0, 1) := by decide +kernel
theorem dL_areDocumentsRight_133 : decode cL_areDocumentsRight 133 = .ok (.if_icmp .eq 5, 3) := by decide +kernel
theorem dL_areDocumentsRight_136 : decode cL_areDocumentsRight 136 = .ok (.iconst 0, 1) := by decide +kernel
theorem dL_areDocumentsRight_137 : decode cL_areDocumentsRight 137 = .ok (.ireturn, 1) := by decide +kernel
theorem dL_areDocumentsRight_138 : decode cL_areDocumentsRight 138 = .ok (.iinc 2 1, 3) := by decide +kernel
theorem dL_areDocumentsRight_141 : decode cL_areDocumentsRight 141 = .ok (.goto (-78), 3) := by decide +kernel
theorem dL_areDocumentsRight_144 : decode cL_areDocumentsRight 144 = .ok (.iinc 1 1, 3) := by decide +kernel
theorem dL_areDocumentsRight_147 : decode cL_areDocumentsRight 147 = .ok (.goto (-145), 3) := by decide +kernel
theorem dL_areDocumentsRight_150 : decode cL_areDocumentsRight 150 = .ok (.aload_n 0, 1) := by decide +kernel
theorem dL_areDocumentsRight_151 : decode cL_areDocumentsRight 151 = .ok (.invokevirtual 59, 3) := by decide +kernel
theorem dL_areDocumentsRight_154 : decode cL_areDocumentsRight 154 = .ok (.aload_n 0, 1) := by decide +kernel
theorem dL_areDocumentsRight_155 : decode cL_areDocumentsRight 155 = .ok (.aload_n 0, 1) := by decide +kernel
theorem dL_areDocumentsRight_156 : decode cL_areDocumentsRight 156 = .ok (.invokevirtual 33, 3) := by decide +kernel
theorem dL_areDocumentsRight_159 : decode cL_areDocumentsRight 159 = .ok (.invokevirtual 128, 3) := by decide +kernel
theorem dL_areDocumentsRight_162 : decode cL_areDocumentsRight 162 = .ok (.if_icmp .ge 16, 3) := by decide +kernel
theorem dL_areDocumentsRight_165 : decode cL_areDocumentsRight 165 = .ok (.aload_n 0, 1) := by decide +kernel
theorem dL_areDocumentsRight_166 : decode cL_areDocumentsRight 166 = .ok (.invokevirtual 83, 3) := by decide +kernel
theorem dL_areDocumentsRight_169 : decode cL_areDocumentsRight 169 = .ok (.bipush 50, 2) := by decide +kernel
theorem dL_areDocumentsRight_171 : decode cL_areDocumentsRight 171 = .ok (.if_icmp .gt 7, 3) := by decide +kernel
theorem dL_areDocumentsRight_174 : decode cL_areDocumentsRight 174 = .ok (.iconst 1, 1) := by decide +kernel
theorem dL_areDocumentsRight_175 : decode cL_areDocumentsRight 175 = .ok (.goto 4, 3) := by decide +kernel
theorem dL_areDocumentsRight_178 : decode cL_areDocumentsRight 178 = .ok (.iconst 0, 1) := by decide +kernel
theorem dL_areDocumentsRight_179 : decode cL_areDocumentsRight 179 = .ok (.ireturn, 1) := by decide +kernel
theorem dL_areFewRight_0 : decode cL_areFewRight 0 = .ok (.aload_n 0, 1) := by decide +kernel
theorem dL_areFewRight_1 : decode cL_areFewRight 1 = .ok (.invokevirtual 101, 3) := by decide +kernel
theorem dL_areFewRight_4 : decode cL_areFewRight 4 = .ok (.bipush 8, 2) := by decide +kernel
theorem dL_areFewRight_6 : decode cL_areFewRight 6 = .ok (.if_icmp .gt 18, 3) := by decide +kernel
theorem dL_areFewRight_9 : decode cL_areFewRight 9 = .ok (.aload_n 0, 1) := by decide +kernel
theorem dL_areFewRight_10 : decode cL_areFewRight 10 = .ok (.invokevirtual 48, 3) := by decide +kernel
theorem dL_areFewRight_13 : decode cL_areFewRight 13 = .ok (.ifCond .le 13, 3) := by decide +kernel
theorem dL_areFewRight_16 : decode cL_areFewRight 16 = .ok (.aload_n 0, 1) := by decide +kernel
theorem dL_areFewRight_17 : decode cL_areFewRight 17 = .ok (.invokevirtual 65, 3) := by decide +kernel
theorem dL_areFewRight_20 : decode cL_areFewRight 20 = .ok (.iconst 3, 1) := by decide +kernel
theorem dL_areFewRight_21 : decode cL_areFewRight 21 = .ok (.if_icmp .ge 5, 3) := by decide +kernel
theorem dL_areFewRight_24 : decode cL_areFewRight 24 = .ok (.iconst 0, 1) := by decide +kernel
theorem dL_areFewRight_25 : decode cL_areFewRight 25 = .ok (.ireturn, 1) := by decide +kernel
theorem dL_areFewRight_26 : decode cL_areFewRight 26 = .ok (.iconst 1, 1) := by decide +kernel
theorem dL_areFewRight_27 : decode cL_areFewRight 27 = .ok (.istore_n 1, 1) := by decide +kernel
theorem dL_areFewRight_28 : decode cL_areFewRight 28 = .ok (.iload_n 1, 1) := by decide +kernel
theorem dL_areFewRight_29 : decode cL_areFewRight 29 = .ok (.aload_n 0, 1) := by decide +kernel
theorem dL_areFewRight_30 : decode cL_areFewRight 30 = .ok (.invokevirtual 48, 3) := by decide +kernel
theorem dL_areFewRight_33 : decode cL_areFewRight 33 = .ok (.if_icmp .ge 26, 3) := by decide +kernel
theorem dL_areFewRight_36 : decode cL_areFewRight 36 = .ok (.aload_n 0, 1) := by decide +kernel
theorem dL_areFewRight_37 : decode cL_areFewRight 37 = .ok (.iload_n 1, 1) := by decide +kernel
theorem dL_areFewRight_38 : decode cL_areFewRight 38 = .ok (.invokevirtual 56, 3) := by decide +kernel
theorem dL_areFewRight_41 : decode cL_areFewRight 41 = .ok (.aload_n 0, 1) := by decide +kernel
theorem dL_areFewRight_42 : decode cL_areFewRight 42 = .ok (.iload_n 1, 1) := by decide +kernel
theorem dL_areFewRight_43 : decode cL_areFewRight 43 = .ok (.iconst 1, 1) := by decide +kernel
theorem dL_areFewRight_44 : decode cL_areFewRight 44 = .ok (.isub, 1) := by decide +kernel
theorem dL_areFewRight_45 : decode cL_areFewRight 45 = .ok (.invokevirtual 56, 3) := by decide +kernel
theorem dL_areFewRight_48 : decode cL_areFewRight 48 = .ok (.if_icmp .gt 5, 3) := by decide +kernel
theorem dL_areFewRight_51 : decode cL_areFewRight 51 = .ok (.iconst 0, 1) := by decide +kernel
theorem dL_areFewRight_52 : decode cL_areFewRight 52 = .ok (.ireturn, 1) := by decide +kernel
theorem dL_areFewRight_53 : decode cL_areFewRight 53 = .ok (.iinc 1 1, 3) := by decide +kernel
theorem dL_areFewRight_56 : decode cL_areFewRight 56 = .ok (.goto (-28), 3) := by decide +kernel
theorem dL_areFewRight_59 : decode cL_areFewRight 59 = .ok (.aload_n 0, 1) := by decide +kernel
theorem dL_areFewRight_60 : decode cL_areFewRight 60 = .ok (.invokevirtual 134, 3) := by decide +kernel
theorem dL_areFewRight_63 : decode cL_areFewRight 63 = .ok (.sipush (-10000), 3) := by decide +kernel
theorem dL_areFewRight_66 : decode cL_areFewRight 66 = .ok (.if_icmp .ne 7, 3) := by decide +kernel
theorem dL_areFewRight_69 : decode cL_areFewRight 69 = .ok (.iconst 1, 1) := by decide +kernel
theorem dL_areFewRight_70 : decode cL_areFewRight 70 = .ok (.goto 4, 3) := by decide +kernel
theorem dL_areFewRight_73 : decode cL_areFewRight 73 = .ok (.iconst 0, 1) := by decide +kernel
theorem dL_areFewRight_74 : decode cL_areFewRight 74 = .ok (.aload_n 0, 1) := by decide +kernel
theorem dL_areFewRight_75 : decode cL_areFewRight 75 = .ok (.invokevirtual 65, 3) := by decide +kernel
theorem dL_areFewRight_78 : decode cL_areFewRight 78 = .ok (.iconst 1, 1) := by decide +kernel
theorem dL_areFewRight_79 : decode cL_areFewRight 79 = .ok (.if_icmp .eq 15, 3) := by decide +kernel
theorem dL_areFewRight_82 : decode cL_areFewRight 82 = .ok (.aload_n 0, 1) := by decide +kernel
theorem dL_areFewRight_83 : decode cL_areFewRight 83 = .ok (.invokevirtual 65, 3) := by decide +kernel
theorem dL_areFewRight_86 : decode cL_areFewRight 86 = .ok (.iconst 2, 1) := by decide +kernel
theorem dL_areFewRight_87 : decode cL_areFewRight 87 = .ok (.if_icmp .eq 7, 3) := by decide +kernel
theorem dL_areFewRight_90 : decode cL_areFewRight 90 = .ok (.iconst 1, 1) := by decide +kernel
theorem dL_areFewRight_91 : decode cL_areFewRight 91 = .ok (.goto 4, 3) := by decide +kernel
theorem dL_areFewRight_94 : decode cL_areFewRight 94 = .ok (.iconst 0, 1) := by decide +kernel
theorem dL_areFewRight_95 : decode cL_areFewRight 95 = .ok (.if_icmp .ne 7, 3) := by decide +kernel
theorem dL_areFewRight_98 : decode cL_areFewRight 98 = .ok (.iconst 1, 1) := by decide +kernel
theorem dL_areFewRight_99 : decode cL_areFewRight 99 = .ok (.goto 4, 3) := by decide +kernel
theorem dL_areFewRight_102 : decode cL_areFewRight 102 = .ok (.iconst 0, 1) := by decide +kernel
theorem dL_areFewRight_103 : decode cL_areFewRight 103 = .ok (.ireturn, 1) := by decide +kernel
end
section
/-! the words of the table that are worth the same in every state that a call comes to -/
def gW : List Cond := lw_tbl.filter goodWord
theorem gW_in {w : Cond} (i : Nat) (h : lw_tbl[i]? = some w) (hg : goodWord w = true) : w ∈ gW := List.mem_filter.mpr ⟨List.mem_of_getElem? h, hg⟩
theorem gW_tbl {w : Cond} (h : w ∈ gW) : w ∈ lw_tbl := (List.mem_filter.mp h).1
theorem gW_good {ws : List Cond} (h : ∀ w ∈ ws, w ∈ gW) : GoodIn gW ws := fun w hw => ⟨h w hw, good_of_word (List.mem_filter.mp (h w hw)).2⟩
theorem gW_by {ws : List Cond} (ps : List Nat) (h : ws = ps.filterMap (fun i => lw_tbl[i]?)) (hg : ws.all goodWord = true) : ∀ w ∈ ws, w ∈ gW := by
  intro w hw
  have h1 := List.all_eq_true.mp hg w hw
  rw [h] at hw
  obtain ⟨i, -, hi⟩ := List.mem_filterMap.mp hw
  exact List.mem_filter.mpr ⟨by first | exact List.mem_of_getElem? hi | exact List.getElem?_mem hi, h1⟩
/-- a method that can be called: its code, its class, its descriptor -/
def gMt (y : MethodName) (cc : ByteArray) (mL : Nat) (ret : Option FieldType) (n : Nat) : Prop :=
  Cond.code y cc mL ret ∈ gW ∧ Cond.initialized y.cls ∈ gW ∧ (y.cls ≠ "java/lang/invoke/MethodHandle" ∧ y.cls ≠ "java/lang/invoke/VarHandle") ∧ (parseMethodDescriptor y.desc).map (fun d => d.parameters.length) = some n
/-- a site of invokevirtual, invokestatic, invokespecial -/
def gCv (own : String) (idx : Nat) (y : MethodName) : Prop := Cond.methodLink own idx y ∈ gW ∧ Cond.instanceMethod y ∈ gW ∧ Cond.selects y.cls y y ∈ gW
def gCs (own : String) (idx : Nat) (y : MethodName) : Prop := Cond.methodLink own idx y ∈ gW ∧ Cond.static y ∈ gW
def gCi (own : String) (idx : Nat) (y : MethodName) : Prop := Cond.methodLink own idx y ∈ gW ∧ Cond.instanceMethod y ∈ gW ∧ y.name = "<init>"
/-- a class of the list: its number, name, fields, their number, their types -/
def gCl (ci : Nat) (C : String) (T : u_T) (N : Nat) (ty : Nat → FieldType) : Prop :=
  vwCl[ci]? = some (C, T, N) ∧ (∀ w ∈ u_ws C T N, w ∈ gW) ∧ (∀ k, k < N → parseFieldDescriptor (T k).2.2.1 = some (ty k)) ∧ (∀ a, a < N → ∀ b, b < N → a ≠ b → (T a).2.1 ≠ (T b).2.1)
/-- a site of getfield or putfield -/
def gFl (own : String) (idx ci k : Nat) (C : String) (T : u_T) (N : Nat) (ty : Nat → FieldType) : Prop := gCl ci C T N ty ∧ k < N ∧ Cond.fieldLink own idx (T k).1 (T k).2.1 (T k).2.2.1 ∈ gW
/-- a site of new -/
def gNw (own : String) (idx ci : Nat) (C : String) (T : u_T) (N : Nat) (ty : Nat → FieldType) : Prop := gCl ci C T N ty ∧ Cond.classLink own idx C ∈ gW ∧ Cond.instantiable C N ∈ gW ∧ Cond.initialized C ∈ gW
theorem kl_0 : gCl 0 RX0 TX0 7 tyX0 := ⟨rfl, gW_by [276, 278, 280, 282, 284, 286, 288] (by decide +kernel) (by decide +kernel), tyX0_ok, nmX0⟩
theorem kl_1 : gCl 1 RX1 TX1 4 tyX1 := ⟨rfl, gW_by [183, 185, 187, 189] (by decide +kernel) (by decide +kernel), tyX1_ok, nmX1⟩
theorem kl_2 : gCl 2 RX2 TX2 5 tyX2 := ⟨rfl, gW_by [144, 146, 148, 150, 152] (by decide +kernel) (by decide +kernel), tyX2_ok, nmX2⟩
theorem kl_3 : gCl 3 RX3 TX3 4 tyX3 := ⟨rfl, gW_by [888, 890, 892, 894] (by decide +kernel) (by decide +kernel), tyX3_ok, nmX3⟩
theorem kl_4 : gCl 4 RX4 TX4 2 tyX4 := ⟨rfl, gW_by [167, 169] (by decide +kernel) (by decide +kernel), tyX4_ok, nmX4⟩
theorem kl_5 : gCl 5 RX5 TX5 3 tyX5 := ⟨rfl, gW_by [122, 124, 126] (by decide +kernel) (by decide +kernel), tyX5_ok, nmX5⟩
theorem kl_6 : gCl 6 RX6 TX6 3 tyX6 := ⟨rfl, gW_by [302, 304, 306] (by decide +kernel) (by decide +kernel), tyX6_ok, nmX6⟩
theorem kl_7 : gCl 7 RX7 TX7 11 tyX7 := ⟨rfl, gW_by [214, 216, 218, 220, 222, 224, 226, 228, 230, 232, 234] (by decide +kernel) (by decide +kernel), tyX7_ok, nmX7⟩
theorem kl_8 : gCl 8 RX8 TX8 6 tyX8 := ⟨rfl, gW_by [96, 98, 100, 102, 104, 106] (by decide +kernel) (by decide +kernel), tyX8_ok, nmX8⟩
theorem kl_9 : gCl 9 RX9 TX9 5 tyX9 := ⟨rfl, gW_by [252, 254, 256, 258, 260] (by decide +kernel) (by decide +kernel), tyX9_ok, nmX9⟩
theorem kl_10 : gCl 10 RX10 TX10 14 tyX10 := ⟨rfl, gW_by [323, 325, 327, 329, 331, 333, 335, 337, 339, 341, 343, 345, 347, 349] (by decide +kernel) (by decide +kernel), tyX10_ok, nmX10⟩
theorem tw_62 : (Jvm.Cond.code ({ cls := "MarlStore", name := "<init>", desc := "()V" } : Jvm.MethodName) prog_1_method_1_code (3 : Nat) (Option.none : Option Jvm.ClassFile.FieldType)) ∈ gW := gW_in 62 (by decide +kernel) (by decide +kernel)
theorem tw_37 : (Jvm.Cond.initialized "MarlStore") ∈ gW := gW_in 37 (by decide +kernel) (by decide +kernel)
theorem mt_X10_init : gMt yX10_init cX10_init 3 none 0 := ⟨tw_62, tw_37, by decide +kernel, by decide +kernel⟩
theorem tw_70 : (Jvm.Cond.code ({ cls := "MarlStore$Value", name := "<init>", desc := "(II[I[LMarlStore$Value;)V" } : Jvm.MethodName) prog_10_method_1_code (11 : Nat) (Option.none : Option Jvm.ClassFile.FieldType)) ∈ gW := gW_in 70 (by decide +kernel) (by decide +kernel)
theorem tw_38 : (Jvm.Cond.initialized "MarlStore$Value") ∈ gW := gW_in 38 (by decide +kernel) (by decide +kernel)
theorem mt_X8_init : gMt yX8_init cX8_init 11 none 4 := ⟨tw_70, tw_38, by decide +kernel, by decide +kernel⟩
theorem tw_74 : (Jvm.Cond.code ({ cls := "java/lang/Math", name := "max", desc := "(II)I" } : Jvm.MethodName) prog_22_method_65_code (2 : Nat) (Option.some Jvm.ClassFile.FieldType.int)) ∈ gW := gW_in 74 (by decide +kernel) (by decide +kernel)
theorem tw_39 : (Jvm.Cond.initialized "java/lang/Math") ∈ gW := gW_in 39 (by decide +kernel) (by decide +kernel)
theorem mt_J9_max_7cf53 : gMt yJ9_max_7cf53 cJ9_max_7cf53 2 (some .int) 2 := ⟨tw_74, tw_39, by decide +kernel, by decide +kernel⟩
theorem tw_114 : (Jvm.Cond.code ({ cls := "MarlStore$Pointer", name := "<init>", desc := "()V" } : Jvm.MethodName) prog_7_method_1_code (1 : Nat) (Option.none : Option Jvm.ClassFile.FieldType)) ∈ gW := gW_in 114 (by decide +kernel) (by decide +kernel)
theorem tw_40 : (Jvm.Cond.initialized "MarlStore$Pointer") ∈ gW := gW_in 40 (by decide +kernel) (by decide +kernel)
theorem mt_X5_init : gMt yX5_init cX5_init 1 none 0 := ⟨tw_114, tw_40, by decide +kernel, by decide +kernel⟩
theorem tw_134 : (Jvm.Cond.code ({ cls := "MarlStore$Editor", name := "<init>", desc := "(LMarlStore$Value;)V" } : Jvm.MethodName) prog_4_method_1_code (2 : Nat) (Option.none : Option Jvm.ClassFile.FieldType)) ∈ gW := gW_in 134 (by decide +kernel) (by decide +kernel)
theorem tw_41 : (Jvm.Cond.initialized "MarlStore$Editor") ∈ gW := gW_in 41 (by decide +kernel) (by decide +kernel)
theorem mt_X2_init : gMt yX2_init cX2_init 2 none 1 := ⟨tw_134, tw_41, by decide +kernel, by decide +kernel⟩
theorem tw_160 : (Jvm.Cond.code ({ cls := "MarlStore$Patch", name := "<init>", desc := "()V" } : Jvm.MethodName) prog_6_method_1_code (1 : Nat) (Option.none : Option Jvm.ClassFile.FieldType)) ∈ gW := gW_in 160 (by decide +kernel) (by decide +kernel)
theorem tw_42 : (Jvm.Cond.initialized "MarlStore$Patch") ∈ gW := gW_in 42 (by decide +kernel) (by decide +kernel)
theorem mt_X4_init : gMt yX4_init cX4_init 1 none 0 := ⟨tw_160, tw_42, by decide +kernel, by decide +kernel⟩
theorem tw_176 : (Jvm.Cond.code ({ cls := "MarlStore$Differ", name := "<init>", desc := "()V" } : Jvm.MethodName) prog_3_method_1_code (1 : Nat) (Option.none : Option Jvm.ClassFile.FieldType)) ∈ gW := gW_in 176 (by decide +kernel) (by decide +kernel)
theorem tw_43 : (Jvm.Cond.initialized "MarlStore$Differ") ∈ gW := gW_in 43 (by decide +kernel) (by decide +kernel)
theorem mt_X1_init : gMt yX1_init cX1_init 1 none 0 := ⟨tw_176, tw_43, by decide +kernel, by decide +kernel⟩
theorem tw_197 : (Jvm.Cond.code ({ cls := "MarlStore$Schema", name := "<init>", desc := "()V" } : Jvm.MethodName) prog_9_method_1_code (1 : Nat) (Option.none : Option Jvm.ClassFile.FieldType)) ∈ gW := gW_in 197 (by decide +kernel) (by decide +kernel)
theorem tw_44 : (Jvm.Cond.initialized "MarlStore$Schema") ∈ gW := gW_in 44 (by decide +kernel) (by decide +kernel)
theorem mt_X7_init : gMt yX7_init cX7_init 1 none 0 := ⟨tw_197, tw_44, by decide +kernel, by decide +kernel⟩
theorem tw_242 : (Jvm.Cond.code ({ cls := "MarlStore$Walk", name := "<init>", desc := "()V" } : Jvm.MethodName) prog_11_method_1_code (1 : Nat) (Option.none : Option Jvm.ClassFile.FieldType)) ∈ gW := gW_in 242 (by decide +kernel) (by decide +kernel)
theorem tw_45 : (Jvm.Cond.initialized "MarlStore$Walk") ∈ gW := gW_in 45 (by decide +kernel) (by decide +kernel)
theorem mt_X9_init : gMt yX9_init cX9_init 1 none 0 := ⟨tw_242, tw_45, by decide +kernel, by decide +kernel⟩
theorem tw_267 : (Jvm.Cond.code ({ cls := "MarlStore$Checker", name := "<init>", desc := "(LMarlStore$Walk;[LMarlStore$Schema;)V" } : Jvm.MethodName) prog_2_method_1_code (3 : Nat) (Option.none : Option Jvm.ClassFile.FieldType)) ∈ gW := gW_in 267 (by decide +kernel) (by decide +kernel)
theorem tw_46 : (Jvm.Cond.initialized "MarlStore$Checker") ∈ gW := gW_in 46 (by decide +kernel) (by decide +kernel)
theorem mt_X0_init : gMt yX0_init cX0_init 3 none 2 := ⟨tw_267, tw_46, by decide +kernel, by decide +kernel⟩
theorem tw_296 : (Jvm.Cond.code ({ cls := "MarlStore$Query", name := "<init>", desc := "()V" } : Jvm.MethodName) prog_8_method_1_code (1 : Nat) (Option.none : Option Jvm.ClassFile.FieldType)) ∈ gW := gW_in 296 (by decide +kernel) (by decide +kernel)
theorem tw_47 : (Jvm.Cond.initialized "MarlStore$Query") ∈ gW := gW_in 47 (by decide +kernel) (by decide +kernel)
theorem mt_X6_init : gMt yX6_init cX6_init 1 none 0 := ⟨tw_296, tw_47, by decide +kernel, by decide +kernel⟩
theorem tw_355 : (Jvm.Cond.code ({ cls := "MarlStore", name := "digest", desc := "()J" } : Jvm.MethodName) prog_1_method_45_code (5 : Nat) (Option.some Jvm.ClassFile.FieldType.long)) ∈ gW := gW_in 355 (by decide +kernel) (by decide +kernel)
theorem mt_X10_digest : gMt yX10_digest cX10_digest 5 (some .long) 0 := ⟨tw_355, tw_37, by decide +kernel, by decide +kernel⟩
theorem tw_361 : (Jvm.Cond.code ({ cls := "MarlStore", name := "stepAt", desc := "(I)I" } : Jvm.MethodName) prog_1_method_7_code (2 : Nat) (Option.some Jvm.ClassFile.FieldType.int)) ∈ gW := gW_in 361 (by decide +kernel) (by decide +kernel)
theorem mt_X10_stepAt : gMt yX10_stepAt cX10_stepAt 2 (some .int) 1 := ⟨tw_361, tw_37, by decide +kernel, by decide +kernel⟩
theorem tw_433 : (Jvm.Cond.code ({ cls := "MarlStore", name := "wholeOf", desc := "(I)LMarlStore$Value;" } : Jvm.MethodName) prog_1_method_46_code (2 : Nat) (Option.some (Jvm.ClassFile.FieldType.object "MarlStore$Value"))) ∈ gW := gW_in 433 (by decide +kernel) (by decide +kernel)
theorem mt_X10_wholeOf : gMt yX10_wholeOf cX10_wholeOf 2 (some (.object "MarlStore$Value")) 1 := ⟨tw_433, tw_37, by decide +kernel, by decide +kernel⟩
theorem tw_438 : (Jvm.Cond.code ({ cls := "MarlStore", name := "digestValue", desc := "(JLMarlStore$Value;)J" } : Jvm.MethodName) prog_1_method_61_code (9 : Nat) (Option.some Jvm.ClassFile.FieldType.long)) ∈ gW := gW_in 438 (by decide +kernel) (by decide +kernel)
theorem mt_X10_digestValue : gMt yX10_digestValue cX10_digestValue 9 (some .long) 2 := ⟨tw_438, tw_37, by decide +kernel, by decide +kernel⟩
theorem tw_442 : (Jvm.Cond.code ({ cls := "MarlStore$Walk", name := "fill", desc := "(LMarlStore$Value;)V" } : Jvm.MethodName) prog_11_method_2_code (7 : Nat) (Option.none : Option Jvm.ClassFile.FieldType)) ∈ gW := gW_in 442 (by decide +kernel) (by decide +kernel)
theorem mt_X9_fill : gMt yX9_fill cX9_fill 7 none 1 := ⟨tw_442, tw_45, by decide +kernel, by decide +kernel⟩
theorem tw_445 : (Jvm.Cond.code ({ cls := "java/lang/Math", name := "min", desc := "(II)I" } : Jvm.MethodName) prog_22_method_69_code (2 : Nat) (Option.some Jvm.ClassFile.FieldType.int)) ∈ gW := gW_in 445 (by decide +kernel) (by decide +kernel)
theorem mt_J9_min_7cf53 : gMt yJ9_min_7cf53 cJ9_min_7cf53 2 (some .int) 2 := ⟨tw_445, tw_39, by decide +kernel, by decide +kernel⟩
theorem tw_449 : (Jvm.Cond.code ({ cls := "MarlStore$Walk", name := "enter", desc := "(ILMarlStore$Value;III)V" } : Jvm.MethodName) prog_11_method_3_code (6 : Nat) (Option.none : Option Jvm.ClassFile.FieldType)) ∈ gW := gW_in 449 (by decide +kernel) (by decide +kernel)
theorem mt_X9_enter : gMt yX9_enter cX9_enter 6 none 5 := ⟨tw_449, tw_45, by decide +kernel, by decide +kernel⟩
theorem tw_453 : (Jvm.Cond.code ({ cls := "MarlStore$Value", name := "width", desc := "()I" } : Jvm.MethodName) prog_10_method_2_code (1 : Nat) (Option.some Jvm.ClassFile.FieldType.int)) ∈ gW := gW_in 453 (by decide +kernel) (by decide +kernel)
theorem mt_X8_width : gMt yX8_width cX8_width 1 (some .int) 0 := ⟨tw_453, tw_38, by decide +kernel, by decide +kernel⟩
theorem tw_457 : (Jvm.Cond.code ({ cls := "MarlStore$Value", name := "partAt", desc := "(I)LMarlStore$Value;" } : Jvm.MethodName) prog_10_method_3_code (2 : Nat) (Option.some (Jvm.ClassFile.FieldType.object "MarlStore$Value"))) ∈ gW := gW_in 457 (by decide +kernel) (by decide +kernel)
theorem mt_X8_partAt : gMt yX8_partAt cX8_partAt 2 (some (.object "MarlStore$Value")) 1 := ⟨tw_457, tw_38, by decide +kernel, by decide +kernel⟩
theorem tw_461 : (Jvm.Cond.code ({ cls := "MarlStore$Value", name := "stepOf", desc := "(I)I" } : Jvm.MethodName) prog_10_method_4_code (2 : Nat) (Option.some Jvm.ClassFile.FieldType.int)) ∈ gW := gW_in 461 (by decide +kernel) (by decide +kernel)
theorem mt_X8_stepOf : gMt yX8_stepOf cX8_stepOf 2 (some .int) 1 := ⟨tw_461, tw_38, by decide +kernel, by decide +kernel⟩
theorem tw_465 : (Jvm.Cond.code ({ cls := "MarlStore$Walk", name := "valueAt", desc := "(I)LMarlStore$Value;" } : Jvm.MethodName) prog_11_method_4_code (2 : Nat) (Option.some (Jvm.ClassFile.FieldType.object "MarlStore$Value"))) ∈ gW := gW_in 465 (by decide +kernel) (by decide +kernel)
theorem mt_X9_valueAt : gMt yX9_valueAt cX9_valueAt 2 (some (.object "MarlStore$Value")) 1 := ⟨tw_465, tw_45, by decide +kernel, by decide +kernel⟩
theorem tw_471 : (Jvm.Cond.code ({ cls := "MarlStore", name := "difference", desc := "(II)I" } : Jvm.MethodName) prog_1_method_29_code (3 : Nat) (Option.some Jvm.ClassFile.FieldType.int)) ∈ gW := gW_in 471 (by decide +kernel) (by decide +kernel)
theorem mt_X10_difference : gMt yX10_difference cX10_difference 3 (some .int) 2 := ⟨tw_471, tw_37, by decide +kernel, by decide +kernel⟩
theorem tw_475 : (Jvm.Cond.code ({ cls := "MarlStore$Differ", name := "compare", desc := "(LMarlStore$Value;LMarlStore$Value;)I" } : Jvm.MethodName) prog_3_method_2_code (3 : Nat) (Option.some Jvm.ClassFile.FieldType.int)) ∈ gW := gW_in 475 (by decide +kernel) (by decide +kernel)
theorem mt_X1_compare : gMt yX1_compare cX1_compare 3 (some .int) 2 := ⟨tw_475, tw_43, by decide +kernel, by decide +kernel⟩
theorem tw_479 : (Jvm.Cond.code ({ cls := "MarlStore$Differ", name := "between", desc := "(LMarlStore$Value;LMarlStore$Value;II)I" } : Jvm.MethodName) prog_3_method_3_code (5 : Nat) (Option.some Jvm.ClassFile.FieldType.int)) ∈ gW := gW_in 479 (by decide +kernel) (by decide +kernel)
theorem mt_X1_between : gMt yX1_between cX1_between 5 (some .int) 4 := ⟨tw_479, tw_43, by decide +kernel, by decide +kernel⟩
theorem tw_483 : (Jvm.Cond.code ({ cls := "MarlStore$Differ", name := "fillTable", desc := "(LMarlStore$Value;LMarlStore$Value;II)Z" } : Jvm.MethodName) prog_3_method_7_code (9 : Nat) (Option.some Jvm.ClassFile.FieldType.boolean)) ∈ gW := gW_in 483 (by decide +kernel) (by decide +kernel)
theorem mt_X1_fillTable : gMt yX1_fillTable cX1_fillTable 9 (some .boolean) 4 := ⟨tw_483, tw_43, by decide +kernel, by decide +kernel⟩
theorem tw_488 : (Jvm.Cond.code ({ cls := "MarlStore$Differ", name := "leastFrom", desc := "(LMarlStore$Value;ILMarlStore$Value;III)I" } : Jvm.MethodName) prog_3_method_8_code (8 : Nat) (Option.some Jvm.ClassFile.FieldType.int)) ∈ gW := gW_in 488 (by decide +kernel) (by decide +kernel)
theorem mt_X1_leastFrom : gMt yX1_leastFrom cX1_leastFrom 8 (some .int) 6 := ⟨tw_488, tw_43, by decide +kernel, by decide +kernel⟩
theorem tw_491 : (Jvm.Cond.code ({ cls := "MarlStore$Differ", name := "sizeAt", desc := "(LMarlStore$Value;I)I" } : Jvm.MethodName) prog_3_method_6_code (3 : Nat) (Option.some Jvm.ClassFile.FieldType.int)) ∈ gW := gW_in 491 (by decide +kernel) (by decide +kernel)
theorem mt_X1_sizeAt : gMt yX1_sizeAt cX1_sizeAt 3 (some .int) 2 := ⟨tw_491, tw_43, by decide +kernel, by decide +kernel⟩
theorem tw_496 : (Jvm.Cond.code ({ cls := "MarlStore$Differ", name := "cell", desc := "(LMarlStore$Value;ILMarlStore$Value;II)I" } : Jvm.MethodName) prog_3_method_11_code (7 : Nat) (Option.some Jvm.ClassFile.FieldType.int)) ∈ gW := gW_in 496 (by decide +kernel) (by decide +kernel)
theorem mt_X1_cell : gMt yX1_cell cX1_cell 7 (some .int) 5 := ⟨tw_496, tw_43, by decide +kernel, by decide +kernel⟩
theorem tw_501 : (Jvm.Cond.code ({ cls := "MarlStore$Differ", name := "pairedFrom", desc := "(LMarlStore$Value;ILMarlStore$Value;III)I" } : Jvm.MethodName) prog_3_method_9_code (7 : Nat) (Option.some Jvm.ClassFile.FieldType.int)) ∈ gW := gW_in 501 (by decide +kernel) (by decide +kernel)
theorem mt_X1_pairedFrom : gMt yX1_pairedFrom cX1_pairedFrom 7 (some .int) 6 := ⟨tw_501, tw_43, by decide +kernel, by decide +kernel⟩
theorem tw_504 : (Jvm.Cond.code ({ cls := "MarlStore$Differ", name := "freeBehind", desc := "(LMarlStore$Value;LMarlStore$Value;I)I" } : Jvm.MethodName) prog_3_method_10_code (3 : Nat) (Option.some Jvm.ClassFile.FieldType.int)) ∈ gW := gW_in 504 (by decide +kernel) (by decide +kernel)
theorem mt_X1_freeBehind : gMt yX1_freeBehind cX1_freeBehind 3 (some .int) 3 := ⟨tw_504, tw_43, by decide +kernel, by decide +kernel⟩
theorem tw_508 : (Jvm.Cond.code ({ cls := "MarlStore$Differ", name := "betweenObjects", desc := "(LMarlStore$Value;LMarlStore$Value;II)I" } : Jvm.MethodName) prog_3_method_4_code (10 : Nat) (Option.some Jvm.ClassFile.FieldType.int)) ∈ gW := gW_in 508 (by decide +kernel) (by decide +kernel)
theorem mt_X1_betweenObjects : gMt yX1_betweenObjects cX1_betweenObjects 10 (some .int) 4 := ⟨tw_508, tw_43, by decide +kernel, by decide +kernel⟩
theorem tw_511 : (Jvm.Cond.code ({ cls := "MarlStore$Differ", name := "order", desc := "(LMarlStore$Value;ILMarlStore$Value;I)I" } : Jvm.MethodName) prog_3_method_5_code (6 : Nat) (Option.some Jvm.ClassFile.FieldType.int)) ∈ gW := gW_in 511 (by decide +kernel) (by decide +kernel)
theorem mt_X1_order : gMt yX1_order cX1_order 6 (some .int) 4 := ⟨tw_511, tw_43, by decide +kernel, by decide +kernel⟩
theorem tw_516 : (Jvm.Cond.code ({ cls := "MarlStore", name := "digestPatches", desc := "(J)J" } : Jvm.MethodName) prog_1_method_62_code (9 : Nat) (Option.some Jvm.ClassFile.FieldType.long)) ∈ gW := gW_in 516 (by decide +kernel) (by decide +kernel)
theorem mt_X10_digestPatches : gMt yX10_digestPatches cX10_digestPatches 9 (some .long) 1 := ⟨tw_516, tw_37, by decide +kernel, by decide +kernel⟩
theorem tw_520 : (Jvm.Cond.code ({ cls := "MarlStore", name := "operations", desc := "(I)I" } : Jvm.MethodName) prog_1_method_27_code (2 : Nat) (Option.some Jvm.ClassFile.FieldType.int)) ∈ gW := gW_in 520 (by decide +kernel) (by decide +kernel)
theorem mt_X10_operations : gMt yX10_operations cX10_operations 2 (some .int) 1 := ⟨tw_520, tw_37, by decide +kernel, by decide +kernel⟩
theorem tw_524 : (Jvm.Cond.code ({ cls := "MarlStore", name := "patchOf", desc := "(I)LMarlStore$Patch;" } : Jvm.MethodName) prog_1_method_47_code (2 : Nat) (Option.some (Jvm.ClassFile.FieldType.object "MarlStore$Patch"))) ∈ gW := gW_in 524 (by decide +kernel) (by decide +kernel)
theorem mt_X10_patchOf : gMt yX10_patchOf cX10_patchOf 2 (some (.object "MarlStore$Patch")) 1 := ⟨tw_524, tw_37, by decide +kernel, by decide +kernel⟩
theorem tw_529 : (Jvm.Cond.code ({ cls := "MarlStore", name := "ofOperation", desc := "(III)I" } : Jvm.MethodName) prog_1_method_28_code (5 : Nat) (Option.some Jvm.ClassFile.FieldType.int)) ∈ gW := gW_in 529 (by decide +kernel) (by decide +kernel)
theorem mt_X10_ofOperation : gMt yX10_ofOperation cX10_ofOperation 5 (some .int) 3 := ⟨tw_529, tw_37, by decide +kernel, by decide +kernel⟩
theorem tw_533 : (Jvm.Cond.code ({ cls := "MarlStore$Patch", name := "operationAt", desc := "(I)LMarlStore$Operation;" } : Jvm.MethodName) prog_6_method_4_code (2 : Nat) (Option.some (Jvm.ClassFile.FieldType.object "MarlStore$Operation"))) ∈ gW := gW_in 533 (by decide +kernel) (by decide +kernel)
theorem mt_X4_operationAt : gMt yX4_operationAt cX4_operationAt 2 (some (.object "MarlStore$Operation")) 1 := ⟨tw_533, tw_42, by decide +kernel, by decide +kernel⟩
theorem tw_554 : (Jvm.Cond.code ({ cls := "MarlStore$Operation", name := "tell", desc := "(I)I" } : Jvm.MethodName) prog_5_method_3_code (2 : Nat) (Option.some Jvm.ClassFile.FieldType.int)) ∈ gW := gW_in 554 (by decide +kernel) (by decide +kernel)
theorem tw_54 : (Jvm.Cond.initialized "MarlStore$Operation") ∈ gW := gW_in 54 (by decide +kernel) (by decide +kernel)
theorem mt_X3_tell : gMt yX3_tell cX3_tell 2 (some .int) 1 := ⟨tw_554, tw_54, by decide +kernel, by decide +kernel⟩
theorem tw_558 : (Jvm.Cond.code ({ cls := "MarlStore", name := "fitting", desc := "(I)I" } : Jvm.MethodName) prog_1_method_37_code (4 : Nat) (Option.some Jvm.ClassFile.FieldType.int)) ∈ gW := gW_in 558 (by decide +kernel) (by decide +kernel)
theorem mt_X10_fitting : gMt yX10_fitting cX10_fitting 4 (some .int) 1 := ⟨tw_558, tw_37, by decide +kernel, by decide +kernel⟩
theorem tw_562 : (Jvm.Cond.code ({ cls := "MarlStore", name := "countFailures", desc := "(III)I" } : Jvm.MethodName) prog_1_method_56_code (4 : Nat) (Option.some Jvm.ClassFile.FieldType.int)) ∈ gW := gW_in 562 (by decide +kernel) (by decide +kernel)
theorem mt_X10_countFailures : gMt yX10_countFailures cX10_countFailures 4 (some .int) 3 := ⟨tw_562, tw_37, by decide +kernel, by decide +kernel⟩
theorem tw_566 : (Jvm.Cond.code ({ cls := "MarlStore", name := "schemaOf", desc := "(I)LMarlStore$Schema;" } : Jvm.MethodName) prog_1_method_48_code (2 : Nat) (Option.some (Jvm.ClassFile.FieldType.object "MarlStore$Schema"))) ∈ gW := gW_in 566 (by decide +kernel) (by decide +kernel)
theorem mt_X10_schemaOf : gMt yX10_schemaOf cX10_schemaOf 2 (some (.object "MarlStore$Schema")) 1 := ⟨tw_566, tw_37, by decide +kernel, by decide +kernel⟩
theorem tw_571 : (Jvm.Cond.code ({ cls := "MarlStore$Checker", name := "countFailures", desc := "(II)I" } : Jvm.MethodName) prog_2_method_2_code (5 : Nat) (Option.some Jvm.ClassFile.FieldType.int)) ∈ gW := gW_in 571 (by decide +kernel) (by decide +kernel)
theorem mt_X0_countFailures : gMt yX0_countFailures cX0_countFailures 5 (some .int) 2 := ⟨tw_571, tw_46, by decide +kernel, by decide +kernel⟩
theorem tw_576 : (Jvm.Cond.code ({ cls := "MarlStore$Walk", name := "above", desc := "(I)I" } : Jvm.MethodName) prog_11_method_5_code (2 : Nat) (Option.some Jvm.ClassFile.FieldType.int)) ∈ gW := gW_in 576 (by decide +kernel) (by decide +kernel)
theorem mt_X9_above : gMt yX9_above cX9_above 2 (some .int) 1 := ⟨tw_576, tw_45, by decide +kernel, by decide +kernel⟩
theorem tw_580 : (Jvm.Cond.code ({ cls := "MarlStore$Checker", name := "schemaBelow", desc := "(II)I" } : Jvm.MethodName) prog_2_method_3_code (4 : Nat) (Option.some Jvm.ClassFile.FieldType.int)) ∈ gW := gW_in 580 (by decide +kernel) (by decide +kernel)
theorem mt_X0_schemaBelow : gMt yX0_schemaBelow cX0_schemaBelow 4 (some .int) 2 := ⟨tw_580, tw_46, by decide +kernel, by decide +kernel⟩
theorem tw_584 : (Jvm.Cond.code ({ cls := "MarlStore$Walk", name := "stepTo", desc := "(I)I" } : Jvm.MethodName) prog_11_method_6_code (2 : Nat) (Option.some Jvm.ClassFile.FieldType.int)) ∈ gW := gW_in 584 (by decide +kernel) (by decide +kernel)
theorem mt_X9_stepTo : gMt yX9_stepTo cX9_stepTo 2 (some .int) 1 := ⟨tw_584, tw_45, by decide +kernel, by decide +kernel⟩
theorem tw_588 : (Jvm.Cond.code ({ cls := "MarlStore$Schema", name := "forChild", desc := "(II)I" } : Jvm.MethodName) prog_9_method_5_code (4 : Nat) (Option.some Jvm.ClassFile.FieldType.int)) ∈ gW := gW_in 588 (by decide +kernel) (by decide +kernel)
theorem mt_X7_forChild : gMt yX7_forChild cX7_forChild 4 (some .int) 2 := ⟨tw_588, tw_44, by decide +kernel, by decide +kernel⟩
theorem tw_592 : (Jvm.Cond.code ({ cls := "MarlStore$Schema", name := "placeOfKey", desc := "(I)I" } : Jvm.MethodName) prog_9_method_4_code (3 : Nat) (Option.some Jvm.ClassFile.FieldType.int)) ∈ gW := gW_in 592 (by decide +kernel) (by decide +kernel)
theorem mt_X7_placeOfKey : gMt yX7_placeOfKey cX7_placeOfKey 3 (some .int) 1 := ⟨tw_592, tw_44, by decide +kernel, by decide +kernel⟩
theorem tw_596 : (Jvm.Cond.code ({ cls := "MarlStore$Checker", name := "note", desc := "(II)V" } : Jvm.MethodName) prog_2_method_5_code (3 : Nat) (Option.none : Option Jvm.ClassFile.FieldType)) ∈ gW := gW_in 596 (by decide +kernel) (by decide +kernel)
theorem mt_X0_note : gMt yX0_note cX0_note 3 none 2 := ⟨tw_596, tw_46, by decide +kernel, by decide +kernel⟩
theorem tw_600 : (Jvm.Cond.code ({ cls := "MarlStore$Checker", name := "isOfKind", desc := "(ILMarlStore$Value;LMarlStore$Schema;)Z" } : Jvm.MethodName) prog_2_method_4_code (7 : Nat) (Option.some Jvm.ClassFile.FieldType.boolean)) ∈ gW := gW_in 600 (by decide +kernel) (by decide +kernel)
theorem mt_X0_isOfKind : gMt yX0_isOfKind cX0_isOfKind 7 (some .boolean) 3 := ⟨tw_600, tw_46, by decide +kernel, by decide +kernel⟩
theorem tw_605 : (Jvm.Cond.code ({ cls := "MarlStore$Schema", name := "countMissing", desc := "(LMarlStore$Value;)I" } : Jvm.MethodName) prog_9_method_6_code (4 : Nat) (Option.some Jvm.ClassFile.FieldType.int)) ∈ gW := gW_in 605 (by decide +kernel) (by decide +kernel)
theorem mt_X7_countMissing : gMt yX7_countMissing cX7_countMissing 4 (some .int) 1 := ⟨tw_605, tw_44, by decide +kernel, by decide +kernel⟩
theorem tw_609 : (Jvm.Cond.code ({ cls := "MarlStore$Value", name := "placeOf", desc := "(I)I" } : Jvm.MethodName) prog_10_method_5_code (3 : Nat) (Option.some Jvm.ClassFile.FieldType.int)) ∈ gW := gW_in 609 (by decide +kernel) (by decide +kernel)
theorem mt_X8_placeOf : gMt yX8_placeOf cX8_placeOf 3 (some .int) 1 := ⟨tw_609, tw_38, by decide +kernel, by decide +kernel⟩
theorem tw_613 : (Jvm.Cond.code ({ cls := "MarlStore", name := "found", desc := "(II)I" } : Jvm.MethodName) prog_1_method_40_code (3 : Nat) (Option.some Jvm.ClassFile.FieldType.int)) ∈ gW := gW_in 613 (by decide +kernel) (by decide +kernel)
theorem mt_X10_found : gMt yX10_found cX10_found 3 (some .int) 2 := ⟨tw_613, tw_37, by decide +kernel, by decide +kernel⟩
theorem tw_617 : (Jvm.Cond.code ({ cls := "MarlStore", name := "findIn", desc := "(II)J" } : Jvm.MethodName) prog_1_method_58_code (4 : Nat) (Option.some Jvm.ClassFile.FieldType.long)) ∈ gW := gW_in 617 (by decide +kernel) (by decide +kernel)
theorem mt_X10_findIn : gMt yX10_findIn cX10_findIn 4 (some .long) 2 := ⟨tw_617, tw_37, by decide +kernel, by decide +kernel⟩
theorem tw_621 : (Jvm.Cond.code ({ cls := "MarlStore", name := "queryOf", desc := "(I)LMarlStore$Query;" } : Jvm.MethodName) prog_1_method_49_code (2 : Nat) (Option.some (Jvm.ClassFile.FieldType.object "MarlStore$Query"))) ∈ gW := gW_in 621 (by decide +kernel) (by decide +kernel)
theorem mt_X10_queryOf : gMt yX10_queryOf cX10_queryOf 2 (some (.object "MarlStore$Query")) 1 := ⟨tw_621, tw_37, by decide +kernel, by decide +kernel⟩
theorem tw_626 : (Jvm.Cond.code ({ cls := "MarlStore$Query", name := "findIn", desc := "(LMarlStore$Walk;)J" } : Jvm.MethodName) prog_8_method_3_code (5 : Nat) (Option.some Jvm.ClassFile.FieldType.long)) ∈ gW := gW_in 626 (by decide +kernel) (by decide +kernel)
theorem mt_X6_findIn : gMt yX6_findIn cX6_findIn 5 (some .long) 1 := ⟨tw_626, tw_47, by decide +kernel, by decide +kernel⟩
theorem tw_630 : (Jvm.Cond.code ({ cls := "MarlStore$Walk", name := "pick", desc := "(JII)J" } : Jvm.MethodName) prog_11_method_8_code (9 : Nat) (Option.some Jvm.ClassFile.FieldType.long)) ∈ gW := gW_in 630 (by decide +kernel) (by decide +kernel)
theorem mt_X9_pick : gMt yX9_pick cX9_pick 9 (some .long) 3 := ⟨tw_630, tw_45, by decide +kernel, by decide +kernel⟩
theorem tw_635 : (Jvm.Cond.code ({ cls := "MarlStore$Walk", name := "isPicked", desc := "(JJILMarlStore$Value;II)Z" } : Jvm.MethodName) prog_11_method_9_code (11 : Nat) (Option.some Jvm.ClassFile.FieldType.boolean)) ∈ gW := gW_in 635 (by decide +kernel) (by decide +kernel)
theorem mt_X9_isPicked : gMt yX9_isPicked cX9_isPicked 11 (some .boolean) 6 := ⟨tw_635, tw_45, by decide +kernel, by decide +kernel⟩
theorem tw_638 : (Jvm.Cond.code ({ cls := "MarlStore", name := "isIn", desc := "(JI)Z" } : Jvm.MethodName) prog_1_method_59_code (3 : Nat) (Option.some Jvm.ClassFile.FieldType.boolean)) ∈ gW := gW_in 638 (by decide +kernel) (by decide +kernel)
theorem mt_X10_isIn : gMt yX10_isIn cX10_isIn 3 (some .boolean) 2 := ⟨tw_638, tw_37, by decide +kernel, by decide +kernel⟩
theorem tw_644 : (Jvm.Cond.code ({ cls := "MarlStore$Walk", name := "isLast", desc := "(ILMarlStore$Value;)Z" } : Jvm.MethodName) prog_11_method_10_code (4 : Nat) (Option.some Jvm.ClassFile.FieldType.boolean)) ∈ gW := gW_in 644 (by decide +kernel) (by decide +kernel)
theorem mt_X9_isLast : gMt yX9_isLast cX9_isLast 4 (some .boolean) 2 := ⟨tw_644, tw_45, by decide +kernel, by decide +kernel⟩
theorem tw_648 : (Jvm.Cond.code ({ cls := "java/lang/Long", name := "bitCount", desc := "(J)I" } : Jvm.MethodName) prog_21_method_50_code (2 : Nat) (Option.some Jvm.ClassFile.FieldType.int)) ∈ gW := gW_in 648 (by decide +kernel) (by decide +kernel)
theorem tw_57 : (Jvm.Cond.initialized "java/lang/Long") ∈ gW := gW_in 57 (by decide +kernel) (by decide +kernel)
theorem mt_J13_bitCount_95d88 : gMt yJ13_bitCount_95d88 cJ13_bitCount_95d88 2 (some .int) 1 := ⟨tw_648, tw_57, by decide +kernel, by decide +kernel⟩
theorem tw_654 : (Jvm.Cond.code ({ cls := "MarlStoreLaw", name := "cell", desc := "([II)I" } : Jvm.MethodName) method_3_code (2 : Nat) (Option.some Jvm.ClassFile.FieldType.int)) ∈ gW := gW_in 654 (by decide +kernel) (by decide +kernel)
theorem tw_36 : (Jvm.Cond.initialized "MarlStoreLaw") ∈ gW := gW_in 36 (by decide +kernel) (by decide +kernel)
theorem mt_L_cell : gMt yL_cell cL_cell 2 (some .int) 2 := ⟨tw_654, tw_36, by decide +kernel, by decide +kernel⟩
theorem tw_664 : (Jvm.Cond.code ({ cls := "MarlStore", name := "document", desc := "()I" } : Jvm.MethodName) prog_1_method_5_code (1 : Nat) (Option.some Jvm.ClassFile.FieldType.int)) ∈ gW := gW_in 664 (by decide +kernel) (by decide +kernel)
theorem mt_X10_document : gMt yX10_document cX10_document 1 (some .int) 0 := ⟨tw_664, tw_37, by decide +kernel, by decide +kernel⟩
theorem tw_668 : (Jvm.Cond.code ({ cls := "MarlStore", name := "size", desc := "(I)I" } : Jvm.MethodName) prog_1_method_17_code (2 : Nat) (Option.some Jvm.ClassFile.FieldType.int)) ∈ gW := gW_in 668 (by decide +kernel) (by decide +kernel)
theorem mt_X10_size : gMt yX10_size cX10_size 2 (some .int) 1 := ⟨tw_668, tw_37, by decide +kernel, by decide +kernel⟩
theorem tw_671 : (Jvm.Cond.code ({ cls := "MarlStoreLaw", name := "below", desc := "(II)I" } : Jvm.MethodName) method_2_code (2 : Nat) (Option.some Jvm.ClassFile.FieldType.int)) ∈ gW := gW_in 671 (by decide +kernel) (by decide +kernel)
theorem mt_L_below : gMt yL_below cL_below 2 (some .int) 2 := ⟨tw_671, tw_36, by decide +kernel, by decide +kernel⟩
theorem tw_676 : (Jvm.Cond.code ({ cls := "MarlStore", name := "point", desc := "(I)I" } : Jvm.MethodName) prog_1_method_2_code (3 : Nat) (Option.some Jvm.ClassFile.FieldType.int)) ∈ gW := gW_in 676 (by decide +kernel) (by decide +kernel)
theorem mt_X10_point : gMt yX10_point cX10_point 3 (some .int) 1 := ⟨tw_676, tw_37, by decide +kernel, by decide +kernel⟩
theorem tw_680 : (Jvm.Cond.code ({ cls := "MarlStore$Pointer", name := "goToWhole", desc := "(I)V" } : Jvm.MethodName) prog_7_method_3_code (2 : Nat) (Option.none : Option Jvm.ClassFile.FieldType)) ∈ gW := gW_in 680 (by decide +kernel) (by decide +kernel)
theorem mt_X5_goToWhole : gMt yX5_goToWhole cX5_goToWhole 2 none 1 := ⟨tw_680, tw_40, by decide +kernel, by decide +kernel⟩
theorem tw_684 : (Jvm.Cond.code ({ cls := "MarlStore", name := "children", desc := "()I" } : Jvm.MethodName) prog_1_method_15_code (1 : Nat) (Option.some Jvm.ClassFile.FieldType.int)) ∈ gW := gW_in 684 (by decide +kernel) (by decide +kernel)
theorem mt_X10_children : gMt yX10_children cX10_children 1 (some .int) 0 := ⟨tw_684, tw_37, by decide +kernel, by decide +kernel⟩
theorem tw_688 : (Jvm.Cond.code ({ cls := "MarlStore", name := "pointed", desc := "()LMarlStore$Value;" } : Jvm.MethodName) prog_1_method_51_code (3 : Nat) (Option.some (Jvm.ClassFile.FieldType.object "MarlStore$Value"))) ∈ gW := gW_in 688 (by decide +kernel) (by decide +kernel)
theorem mt_X10_pointed : gMt yX10_pointed cX10_pointed 3 (some (.object "MarlStore$Value")) 0 := ⟨tw_688, tw_37, by decide +kernel, by decide +kernel⟩
theorem tw_692 : (Jvm.Cond.code ({ cls := "MarlStore$Value", name := "below", desc := "([II)LMarlStore$Value;" } : Jvm.MethodName) prog_10_method_7_code (5 : Nat) (Option.some (Jvm.ClassFile.FieldType.object "MarlStore$Value"))) ∈ gW := gW_in 692 (by decide +kernel) (by decide +kernel)
theorem mt_X8_below : gMt yX8_below cX8_below 5 (some (.object "MarlStore$Value")) 2 := ⟨tw_692, tw_38, by decide +kernel, by decide +kernel⟩
theorem tw_699 : (Jvm.Cond.code ({ cls := "MarlStore", name := "childStep", desc := "(I)I" } : Jvm.MethodName) prog_1_method_16_code (3 : Nat) (Option.some Jvm.ClassFile.FieldType.int)) ∈ gW := gW_in 699 (by decide +kernel) (by decide +kernel)
theorem mt_X10_childStep : gMt yX10_childStep cX10_childStep 3 (some .int) 1 := ⟨tw_699, tw_37, by decide +kernel, by decide +kernel⟩
theorem tw_704 : (Jvm.Cond.code ({ cls := "MarlStore", name := "steps", desc := "()I" } : Jvm.MethodName) prog_1_method_6_code (1 : Nat) (Option.some Jvm.ClassFile.FieldType.int)) ∈ gW := gW_in 704 (by decide +kernel) (by decide +kernel)
theorem mt_X10_steps : gMt yX10_steps cX10_steps 1 (some .int) 0 := ⟨tw_704, tw_37, by decide +kernel, by decide +kernel⟩
theorem tw_708 : (Jvm.Cond.code ({ cls := "MarlStore", name := "into", desc := "(I)I" } : Jvm.MethodName) prog_1_method_3_code (4 : Nat) (Option.some Jvm.ClassFile.FieldType.int)) ∈ gW := gW_in 708 (by decide +kernel) (by decide +kernel)
theorem mt_X10_into : gMt yX10_into cX10_into 4 (some .int) 1 := ⟨tw_708, tw_37, by decide +kernel, by decide +kernel⟩
theorem tw_714 : (Jvm.Cond.code ({ cls := "MarlStore$Pointer", name := "goDown", desc := "(I)Z" } : Jvm.MethodName) prog_7_method_4_code (2 : Nat) (Option.some Jvm.ClassFile.FieldType.boolean)) ∈ gW := gW_in 714 (by decide +kernel) (by decide +kernel)
theorem mt_X5_goDown : gMt yX5_goDown cX5_goDown 2 (some .boolean) 1 := ⟨tw_714, tw_40, by decide +kernel, by decide +kernel⟩
theorem tw_719 : (Jvm.Cond.code ({ cls := "MarlStore", name := "kind", desc := "()I" } : Jvm.MethodName) prog_1_method_13_code (1 : Nat) (Option.some Jvm.ClassFile.FieldType.int)) ∈ gW := gW_in 719 (by decide +kernel) (by decide +kernel)
theorem mt_X10_kind : gMt yX10_kind cX10_kind 1 (some .int) 0 := ⟨tw_719, tw_37, by decide +kernel, by decide +kernel⟩
theorem tw_724 : (Jvm.Cond.code ({ cls := "MarlStore", name := "up", desc := "()I" } : Jvm.MethodName) prog_1_method_4_code (1 : Nat) (Option.some Jvm.ClassFile.FieldType.int)) ∈ gW := gW_in 724 (by decide +kernel) (by decide +kernel)
theorem mt_X10_up : gMt yX10_up cX10_up 1 (some .int) 0 := ⟨tw_724, tw_37, by decide +kernel, by decide +kernel⟩
theorem tw_728 : (Jvm.Cond.code ({ cls := "MarlStore$Pointer", name := "goUp", desc := "()Z" } : Jvm.MethodName) prog_7_method_5_code (1 : Nat) (Option.some Jvm.ClassFile.FieldType.boolean)) ∈ gW := gW_in 728 (by decide +kernel) (by decide +kernel)
theorem mt_X5_goUp : gMt yX5_goUp cX5_goUp 1 (some .boolean) 0 := ⟨tw_728, tw_40, by decide +kernel, by decide +kernel⟩
theorem tw_748 : (Jvm.Cond.code ({ cls := "MarlStore", name := "set", desc := "(II)I" } : Jvm.MethodName) prog_1_method_8_code (7 : Nat) (Option.some Jvm.ClassFile.FieldType.int)) ∈ gW := gW_in 748 (by decide +kernel) (by decide +kernel)
theorem mt_X10_set : gMt yX10_set cX10_set 7 (some .int) 2 := ⟨tw_748, tw_37, by decide +kernel, by decide +kernel⟩
theorem tw_753 : (Jvm.Cond.code ({ cls := "MarlStore$Editor", name := "begin", desc := "(LMarlStore$Value;)V" } : Jvm.MethodName) prog_4_method_2_code (2 : Nat) (Option.none : Option Jvm.ClassFile.FieldType)) ∈ gW := gW_in 753 (by decide +kernel) (by decide +kernel)
theorem mt_X2_begin : gMt yX2_begin cX2_begin 2 none 1 := ⟨tw_753, tw_41, by decide +kernel, by decide +kernel⟩
theorem tw_757 : (Jvm.Cond.code ({ cls := "MarlStore$Editor", name := "putAt", desc := "([IILMarlStore$Value;)Z" } : Jvm.MethodName) prog_4_method_7_code (5 : Nat) (Option.some Jvm.ClassFile.FieldType.boolean)) ∈ gW := gW_in 757 (by decide +kernel) (by decide +kernel)
theorem mt_X2_putAt : gMt yX2_putAt cX2_putAt 5 (some .boolean) 3 := ⟨tw_757, tw_41, by decide +kernel, by decide +kernel⟩
theorem tw_761 : (Jvm.Cond.code ({ cls := "MarlStore$Editor", name := "follow", desc := "([II)LMarlStore$Value;" } : Jvm.MethodName) prog_4_method_9_code (5 : Nat) (Option.some (Jvm.ClassFile.FieldType.object "MarlStore$Value"))) ∈ gW := gW_in 761 (by decide +kernel) (by decide +kernel)
theorem mt_X2_follow : gMt yX2_follow cX2_follow 5 (some (.object "MarlStore$Value")) 2 := ⟨tw_761, tw_41, by decide +kernel, by decide +kernel⟩
theorem tw_767 : (Jvm.Cond.code ({ cls := "MarlStore$Editor", name := "rebuild", desc := "(LMarlStore$Value;)V" } : Jvm.MethodName) prog_4_method_10_code (5 : Nat) (Option.none : Option Jvm.ClassFile.FieldType)) ∈ gW := gW_in 767 (by decide +kernel) (by decide +kernel)
theorem mt_X2_rebuild : gMt yX2_rebuild cX2_rebuild 5 none 1 := ⟨tw_767, tw_41, by decide +kernel, by decide +kernel⟩
theorem tw_771 : (Jvm.Cond.code ({ cls := "MarlStore$Value", name := "withPart", desc := "(ILMarlStore$Value;)LMarlStore$Value;" } : Jvm.MethodName) prog_10_method_8_code (6 : Nat) (Option.some (Jvm.ClassFile.FieldType.object "MarlStore$Value"))) ∈ gW := gW_in 771 (by decide +kernel) (by decide +kernel)
theorem mt_X8_withPart : gMt yX8_withPart cX8_withPart 6 (some (.object "MarlStore$Value")) 2 := ⟨tw_771, tw_38, by decide +kernel, by decide +kernel⟩
theorem tw_778 : (Jvm.Cond.code ({ cls := "MarlStore", name := "finish", desc := "(Z)I" } : Jvm.MethodName) prog_1_method_53_code (2 : Nat) (Option.some Jvm.ClassFile.FieldType.int)) ∈ gW := gW_in 778 (by decide +kernel) (by decide +kernel)
theorem mt_X10_finish : gMt yX10_finish cX10_finish 2 (some .int) 1 := ⟨tw_778, tw_37, by decide +kernel, by decide +kernel⟩
theorem tw_782 : (Jvm.Cond.code ({ cls := "MarlStore$Editor", name := "isAllowed", desc := "()Z" } : Jvm.MethodName) prog_4_method_3_code (1 : Nat) (Option.some Jvm.ClassFile.FieldType.boolean)) ∈ gW := gW_in 782 (by decide +kernel) (by decide +kernel)
theorem mt_X2_isAllowed : gMt yX2_isAllowed cX2_isAllowed 1 (some .boolean) 0 := ⟨tw_782, tw_41, by decide +kernel, by decide +kernel⟩
theorem tw_786 : (Jvm.Cond.code ({ cls := "MarlStore", name := "changeTo", desc := "(ILMarlStore$Value;)V" } : Jvm.MethodName) prog_1_method_52_code (3 : Nat) (Option.none : Option Jvm.ClassFile.FieldType)) ∈ gW := gW_in 786 (by decide +kernel) (by decide +kernel)
theorem mt_X10_changeTo : gMt yX10_changeTo cX10_changeTo 3 none 2 := ⟨tw_786, tw_37, by decide +kernel, by decide +kernel⟩
theorem tw_790 : (Jvm.Cond.code ({ cls := "MarlStore$Pointer", name := "settle", desc := "(LMarlStore$Value;)V" } : Jvm.MethodName) prog_7_method_7_code (5 : Nat) (Option.none : Option Jvm.ClassFile.FieldType)) ∈ gW := gW_in 790 (by decide +kernel) (by decide +kernel)
theorem mt_X5_settle : gMt yX5_settle cX5_settle 5 none 1 := ⟨tw_790, tw_40, by decide +kernel, by decide +kernel⟩
theorem tw_796 : (Jvm.Cond.code ({ cls := "MarlStore", name := "copy", desc := "()I" } : Jvm.MethodName) prog_1_method_9_code (1 : Nat) (Option.some Jvm.ClassFile.FieldType.int)) ∈ gW := gW_in 796 (by decide +kernel) (by decide +kernel)
theorem mt_X10_copy : gMt yX10_copy cX10_copy 1 (some .int) 0 := ⟨tw_796, tw_37, by decide +kernel, by decide +kernel⟩
theorem tw_800 : (Jvm.Cond.code ({ cls := "MarlStore", name := "insert", desc := "(I)I" } : Jvm.MethodName) prog_1_method_11_code (2 : Nat) (Option.some Jvm.ClassFile.FieldType.int)) ∈ gW := gW_in 800 (by decide +kernel) (by decide +kernel)
theorem mt_X10_insert : gMt yX10_insert cX10_insert 2 (some .int) 1 := ⟨tw_800, tw_37, by decide +kernel, by decide +kernel⟩
theorem tw_804 : (Jvm.Cond.code ({ cls := "MarlStore$Editor", name := "addAt", desc := "([IIILMarlStore$Value;)Z" } : Jvm.MethodName) prog_4_method_5_code (7 : Nat) (Option.some Jvm.ClassFile.FieldType.boolean)) ∈ gW := gW_in 804 (by decide +kernel) (by decide +kernel)
theorem mt_X2_addAt : gMt yX2_addAt cX2_addAt 7 (some .boolean) 4 := ⟨tw_804, tw_41, by decide +kernel, by decide +kernel⟩
theorem tw_808 : (Jvm.Cond.code ({ cls := "MarlStore$Value", name := "placeToAdd", desc := "(I)I" } : Jvm.MethodName) prog_10_method_6_code (3 : Nat) (Option.some Jvm.ClassFile.FieldType.int)) ∈ gW := gW_in 808 (by decide +kernel) (by decide +kernel)
theorem mt_X8_placeToAdd : gMt yX8_placeToAdd cX8_placeToAdd 3 (some .int) 1 := ⟨tw_808, tw_38, by decide +kernel, by decide +kernel⟩
theorem tw_812 : (Jvm.Cond.code ({ cls := "MarlStore$Value", name := "withAdded", desc := "(IILMarlStore$Value;)LMarlStore$Value;" } : Jvm.MethodName) prog_10_method_9_code (9 : Nat) (Option.some (Jvm.ClassFile.FieldType.object "MarlStore$Value"))) ∈ gW := gW_in 812 (by decide +kernel) (by decide +kernel)
theorem mt_X8_withAdded : gMt yX8_withAdded cX8_withAdded 9 (some (.object "MarlStore$Value")) 3 := ⟨tw_812, tw_38, by decide +kernel, by decide +kernel⟩
theorem tw_817 : (Jvm.Cond.code ({ cls := "MarlStore", name := "clip", desc := "()I" } : Jvm.MethodName) prog_1_method_19_code (1 : Nat) (Option.some Jvm.ClassFile.FieldType.int)) ∈ gW := gW_in 817 (by decide +kernel) (by decide +kernel)
theorem mt_X10_clip : gMt yX10_clip cX10_clip 1 (some .int) 0 := ⟨tw_817, tw_37, by decide +kernel, by decide +kernel⟩
theorem tw_821 : (Jvm.Cond.code ({ cls := "MarlStore", name := "drop", desc := "(I)I" } : Jvm.MethodName) prog_1_method_12_code (2 : Nat) (Option.some Jvm.ClassFile.FieldType.int)) ∈ gW := gW_in 821 (by decide +kernel) (by decide +kernel)
theorem mt_X10_drop : gMt yX10_drop cX10_drop 2 (some .int) 1 := ⟨tw_821, tw_37, by decide +kernel, by decide +kernel⟩
theorem tw_825 : (Jvm.Cond.code ({ cls := "MarlStore$Editor", name := "dropAt", desc := "([III)Z" } : Jvm.MethodName) prog_4_method_6_code (6 : Nat) (Option.some Jvm.ClassFile.FieldType.boolean)) ∈ gW := gW_in 825 (by decide +kernel) (by decide +kernel)
theorem mt_X2_dropAt : gMt yX2_dropAt cX2_dropAt 6 (some .boolean) 3 := ⟨tw_825, tw_41, by decide +kernel, by decide +kernel⟩
theorem tw_829 : (Jvm.Cond.code ({ cls := "MarlStore$Value", name := "withoutPart", desc := "(I)LMarlStore$Value;" } : Jvm.MethodName) prog_10_method_10_code (7 : Nat) (Option.some (Jvm.ClassFile.FieldType.object "MarlStore$Value"))) ∈ gW := gW_in 829 (by decide +kernel) (by decide +kernel)
theorem mt_X8_withoutPart : gMt yX8_withoutPart cX8_withoutPart 7 (some (.object "MarlStore$Value")) 1 := ⟨tw_829, tw_38, by decide +kernel, by decide +kernel⟩
theorem tw_833 : (Jvm.Cond.code ({ cls := "MarlStore", name := "diff", desc := "(II)I" } : Jvm.MethodName) prog_1_method_24_code (6 : Nat) (Option.some Jvm.ClassFile.FieldType.int)) ∈ gW := gW_in 833 (by decide +kernel) (by decide +kernel)
theorem mt_X10_diff : gMt yX10_diff cX10_diff 6 (some .int) 2 := ⟨tw_833, tw_37, by decide +kernel, by decide +kernel⟩
theorem tw_837 : (Jvm.Cond.code ({ cls := "MarlStore$Differ", name := "write", desc := "(LMarlStore$Value;LMarlStore$Value;)I" } : Jvm.MethodName) prog_3_method_12_code (3 : Nat) (Option.some Jvm.ClassFile.FieldType.int)) ∈ gW := gW_in 837 (by decide +kernel) (by decide +kernel)
theorem mt_X1_write : gMt yX1_write cX1_write 3 (some .int) 2 := ⟨tw_837, tw_43, by decide +kernel, by decide +kernel⟩
theorem tw_841 : (Jvm.Cond.code ({ cls := "MarlStore$Differ", name := "writeAt", desc := "(LMarlStore$Value;LMarlStore$Value;II)V" } : Jvm.MethodName) prog_3_method_14_code (6 : Nat) (Option.none : Option Jvm.ClassFile.FieldType)) ∈ gW := gW_in 841 (by decide +kernel) (by decide +kernel)
theorem mt_X1_writeAt : gMt yX1_writeAt cX1_writeAt 6 none 4 := ⟨tw_841, tw_43, by decide +kernel, by decide +kernel⟩
theorem tw_845 : (Jvm.Cond.code ({ cls := "MarlStore$Value", name := "isSameAs", desc := "(LMarlStore$Value;)Z" } : Jvm.MethodName) prog_10_method_11_code (2 : Nat) (Option.some Jvm.ClassFile.FieldType.boolean)) ∈ gW := gW_in 845 (by decide +kernel) (by decide +kernel)
theorem mt_X8_isSameAs : gMt yX8_isSameAs cX8_isSameAs 2 (some .boolean) 1 := ⟨tw_845, tw_38, by decide +kernel, by decide +kernel⟩
theorem tw_848 : (Jvm.Cond.code ({ cls := "MarlStore$Value", name := "areSame", desc := "(LMarlStore$Value;LMarlStore$Value;I)Z" } : Jvm.MethodName) prog_10_method_12_code (4 : Nat) (Option.some Jvm.ClassFile.FieldType.boolean)) ∈ gW := gW_in 848 (by decide +kernel) (by decide +kernel)
theorem mt_X8_areSame : gMt yX8_areSame cX8_areSame 4 (some .boolean) 3 := ⟨tw_848, tw_38, by decide +kernel, by decide +kernel⟩
theorem tw_852 : (Jvm.Cond.code ({ cls := "MarlStore$Differ", name := "writeLists", desc := "(LMarlStore$Value;LMarlStore$Value;II)V" } : Jvm.MethodName) prog_3_method_17_code (11 : Nat) (Option.none : Option Jvm.ClassFile.FieldType)) ∈ gW := gW_in 852 (by decide +kernel) (by decide +kernel)
theorem mt_X1_writeLists : gMt yX1_writeLists cX1_writeLists 11 none 4 := ⟨tw_852, tw_43, by decide +kernel, by decide +kernel⟩
theorem tw_856 : (Jvm.Cond.code ({ cls := "MarlStore$Differ", name := "writeBelow", desc := "(LMarlStore$Value;LMarlStore$Value;III)V" } : Jvm.MethodName) prog_3_method_16_code (6 : Nat) (Option.none : Option Jvm.ClassFile.FieldType)) ∈ gW := gW_in 856 (by decide +kernel) (by decide +kernel)
theorem mt_X1_writeBelow : gMt yX1_writeBelow cX1_writeBelow 6 none 5 := ⟨tw_856, tw_43, by decide +kernel, by decide +kernel⟩
theorem tw_860 : (Jvm.Cond.code ({ cls := "MarlStore$Differ", name := "note", desc := "(IIILMarlStore$Value;)V" } : Jvm.MethodName) prog_3_method_18_code (5 : Nat) (Option.none : Option Jvm.ClassFile.FieldType)) ∈ gW := gW_in 860 (by decide +kernel) (by decide +kernel)
theorem mt_X1_note : gMt yX1_note cX1_note 5 none 4 := ⟨tw_860, tw_43, by decide +kernel, by decide +kernel⟩
theorem tw_864 : (Jvm.Cond.code ({ cls := "java/util/Arrays", name := "copyOf", desc := "([II)[I" } : Jvm.MethodName) prog_27_method_123_code (3 : Nat) (Option.some (Jvm.ClassFile.FieldType.array Jvm.ClassFile.FieldType.int))) ∈ gW := gW_in 864 (by decide +kernel) (by decide +kernel)
theorem tw_55 : (Jvm.Cond.initialized "java/util/Arrays") ∈ gW := gW_in 55 (by decide +kernel) (by decide +kernel)
theorem mt_J7_copyOf_59c91 : gMt yJ7_copyOf_59c91 cJ7_copyOf_59c91 3 (some (.array .int)) 2 := ⟨tw_864, tw_55, by decide +kernel, by decide +kernel⟩
theorem tw_878 : (Jvm.Cond.code ({ cls := "MarlStore$Operation", name := "<init>", desc := "(I[IILMarlStore$Value;)V" } : Jvm.MethodName) prog_5_method_1_code (5 : Nat) (Option.none : Option Jvm.ClassFile.FieldType)) ∈ gW := gW_in 878 (by decide +kernel) (by decide +kernel)
theorem mt_X3_init : gMt yX3_init cX3_init 5 none 4 := ⟨tw_878, tw_54, by decide +kernel, by decide +kernel⟩
theorem tw_900 : (Jvm.Cond.code ({ cls := "MarlStore$Differ", name := "writeObjects", desc := "(LMarlStore$Value;LMarlStore$Value;II)V" } : Jvm.MethodName) prog_3_method_15_code (9 : Nat) (Option.none : Option Jvm.ClassFile.FieldType)) ∈ gW := gW_in 900 (by decide +kernel) (by decide +kernel)
theorem mt_X1_writeObjects : gMt yX1_writeObjects cX1_writeObjects 9 none 4 := ⟨tw_900, tw_43, by decide +kernel, by decide +kernel⟩
theorem tw_905 : (Jvm.Cond.code ({ cls := "MarlStore", name := "beginPatch", desc := "()I" } : Jvm.MethodName) prog_1_method_50_code (1 : Nat) (Option.some Jvm.ClassFile.FieldType.int)) ∈ gW := gW_in 905 (by decide +kernel) (by decide +kernel)
theorem mt_X10_beginPatch : gMt yX10_beginPatch cX10_beginPatch 1 (some .int) 0 := ⟨tw_905, tw_37, by decide +kernel, by decide +kernel⟩
theorem tw_910 : (Jvm.Cond.code ({ cls := "MarlStore$Patch", name := "clear", desc := "()V" } : Jvm.MethodName) prog_6_method_2_code (1 : Nat) (Option.none : Option Jvm.ClassFile.FieldType)) ∈ gW := gW_in 910 (by decide +kernel) (by decide +kernel)
theorem mt_X4_clear : gMt yX4_clear cX4_clear 1 none 0 := ⟨tw_910, tw_42, by decide +kernel, by decide +kernel⟩
theorem tw_914 : (Jvm.Cond.code ({ cls := "MarlStore$Differ", name := "operationAt", desc := "(I)LMarlStore$Operation;" } : Jvm.MethodName) prog_3_method_13_code (2 : Nat) (Option.some (Jvm.ClassFile.FieldType.object "MarlStore$Operation"))) ∈ gW := gW_in 914 (by decide +kernel) (by decide +kernel)
theorem mt_X1_operationAt : gMt yX1_operationAt cX1_operationAt 2 (some (.object "MarlStore$Operation")) 1 := ⟨tw_914, tw_43, by decide +kernel, by decide +kernel⟩
theorem tw_918 : (Jvm.Cond.code ({ cls := "MarlStore$Patch", name := "append", desc := "(LMarlStore$Operation;)V" } : Jvm.MethodName) prog_6_method_3_code (2 : Nat) (Option.none : Option Jvm.ClassFile.FieldType)) ∈ gW := gW_in 918 (by decide +kernel) (by decide +kernel)
theorem mt_X4_append : gMt yX4_append cX4_append 2 none 1 := ⟨tw_918, tw_42, by decide +kernel, by decide +kernel⟩
theorem tw_922 : (Jvm.Cond.code ({ cls := "MarlStore", name := "failsAt", desc := "(II)I" } : Jvm.MethodName) prog_1_method_23_code (4 : Nat) (Option.some Jvm.ClassFile.FieldType.int)) ∈ gW := gW_in 922 (by decide +kernel) (by decide +kernel)
theorem mt_X10_failsAt : gMt yX10_failsAt cX10_failsAt 4 (some .int) 2 := ⟨tw_922, tw_37, by decide +kernel, by decide +kernel⟩
theorem tw_926 : (Jvm.Cond.code ({ cls := "MarlStore", name := "tryOut", desc := "(LMarlStore$Patch;LMarlStore$Value;)I" } : Jvm.MethodName) prog_1_method_54_code (5 : Nat) (Option.some Jvm.ClassFile.FieldType.int)) ∈ gW := gW_in 926 (by decide +kernel) (by decide +kernel)
theorem mt_X10_tryOut : gMt yX10_tryOut cX10_tryOut 5 (some .int) 2 := ⟨tw_926, tw_37, by decide +kernel, by decide +kernel⟩
theorem tw_930 : (Jvm.Cond.code ({ cls := "MarlStore$Editor", name := "perform", desc := "(LMarlStore$Operation;)Z" } : Jvm.MethodName) prog_4_method_4_code (3 : Nat) (Option.some Jvm.ClassFile.FieldType.boolean)) ∈ gW := gW_in 930 (by decide +kernel) (by decide +kernel)
theorem mt_X2_perform : gMt yX2_perform cX2_perform 3 (some .boolean) 1 := ⟨tw_930, tw_41, by decide +kernel, by decide +kernel⟩
theorem tw_937 : (Jvm.Cond.code ({ cls := "MarlStore$Editor", name := "testAt", desc := "([IILMarlStore$Value;)Z" } : Jvm.MethodName) prog_4_method_8_code (5 : Nat) (Option.some Jvm.ClassFile.FieldType.boolean)) ∈ gW := gW_in 937 (by decide +kernel) (by decide +kernel)
theorem mt_X2_testAt : gMt yX2_testAt cX2_testAt 5 (some .boolean) 3 := ⟨tw_937, tw_41, by decide +kernel, by decide +kernel⟩
theorem tw_943 : (Jvm.Cond.code ({ cls := "MarlStore", name := "changes", desc := "(II)I" } : Jvm.MethodName) prog_1_method_30_code (3 : Nat) (Option.some Jvm.ClassFile.FieldType.int)) ∈ gW := gW_in 943 (by decide +kernel) (by decide +kernel)
theorem mt_X10_changes : gMt yX10_changes cX10_changes 3 (some .int) 2 := ⟨tw_943, tw_37, by decide +kernel, by decide +kernel⟩
theorem tw_947 : (Jvm.Cond.code ({ cls := "MarlStore", name := "patches", desc := "()I" } : Jvm.MethodName) prog_1_method_26_code (1 : Nat) (Option.some Jvm.ClassFile.FieldType.int)) ∈ gW := gW_in 947 (by decide +kernel) (by decide +kernel)
theorem mt_X10_patches : gMt yX10_patches cX10_patches 1 (some .int) 0 := ⟨tw_947, tw_37, by decide +kernel, by decide +kernel⟩
theorem tw_950 : (Jvm.Cond.code ({ cls := "MarlStoreLaw", name := "isTurnedBack", desc := "(LMarlStore;II)Z" } : Jvm.MethodName) method_6_code (9 : Nat) (Option.some Jvm.ClassFile.FieldType.boolean)) ∈ gW := gW_in 950 (by decide +kernel) (by decide +kernel)
theorem mt_L_isTurnedBack : gMt yL_isTurnedBack cL_isTurnedBack 9 (some .boolean) 3 := ⟨tw_950, tw_36, by decide +kernel, by decide +kernel⟩
theorem tw_954 : (Jvm.Cond.code ({ cls := "MarlStore", name := "apply", desc := "(II)I" } : Jvm.MethodName) prog_1_method_22_code (5 : Nat) (Option.some Jvm.ClassFile.FieldType.int)) ∈ gW := gW_in 954 (by decide +kernel) (by decide +kernel)
theorem mt_X10_apply : gMt yX10_apply cX10_apply 5 (some .int) 2 := ⟨tw_954, tw_37, by decide +kernel, by decide +kernel⟩
theorem tw_958 : (Jvm.Cond.code ({ cls := "MarlStore", name := "writeInverse", desc := "(LMarlStore$Patch;LMarlStore$Patch;)V" } : Jvm.MethodName) prog_1_method_55_code (5 : Nat) (Option.none : Option Jvm.ClassFile.FieldType)) ∈ gW := gW_in 958 (by decide +kernel) (by decide +kernel)
theorem mt_X10_writeInverse : gMt yX10_writeInverse cX10_writeInverse 5 none 2 := ⟨tw_958, tw_37, by decide +kernel, by decide +kernel⟩
theorem tw_962 : (Jvm.Cond.code ({ cls := "MarlStore$Operation", name := "inverse", desc := "(LMarlStore$Value;)LMarlStore$Operation;" } : Jvm.MethodName) prog_5_method_2_code (2 : Nat) (Option.some (Jvm.ClassFile.FieldType.object "MarlStore$Operation"))) ∈ gW := gW_in 962 (by decide +kernel) (by decide +kernel)
theorem mt_X3_inverse : gMt yX3_inverse cX3_inverse 2 (some (.object "MarlStore$Operation")) 1 := ⟨tw_962, tw_54, by decide +kernel, by decide +kernel⟩
theorem tw_968 : (Jvm.Cond.code ({ cls := "MarlStore", name := "forget", desc := "()I" } : Jvm.MethodName) prog_1_method_25_code (1 : Nat) (Option.some Jvm.ClassFile.FieldType.int)) ∈ gW := gW_in 968 (by decide +kernel) (by decide +kernel)
theorem mt_X10_forget : gMt yX10_forget cX10_forget 1 (some .int) 0 := ⟨tw_968, tw_37, by decide +kernel, by decide +kernel⟩
theorem tw_973 : (Jvm.Cond.code ({ cls := "MarlStore", name := "addQuery", desc := "()I" } : Jvm.MethodName) prog_1_method_38_code (1 : Nat) (Option.some Jvm.ClassFile.FieldType.int)) ∈ gW := gW_in 973 (by decide +kernel) (by decide +kernel)
theorem mt_X10_addQuery : gMt yX10_addQuery cX10_addQuery 1 (some .int) 0 := ⟨tw_973, tw_37, by decide +kernel, by decide +kernel⟩
theorem tw_978 : (Jvm.Cond.code ({ cls := "MarlStore", name := "addPart", desc := "(III)I" } : Jvm.MethodName) prog_1_method_39_code (5 : Nat) (Option.some Jvm.ClassFile.FieldType.int)) ∈ gW := gW_in 978 (by decide +kernel) (by decide +kernel)
theorem mt_X10_addPart : gMt yX10_addPart cX10_addPart 5 (some .int) 3 := ⟨tw_978, tw_37, by decide +kernel, by decide +kernel⟩
theorem tw_981 : (Jvm.Cond.code ({ cls := "MarlStore", name := "isPart", desc := "(II)Z" } : Jvm.MethodName) prog_1_method_57_code (2 : Nat) (Option.some Jvm.ClassFile.FieldType.boolean)) ∈ gW := gW_in 981 (by decide +kernel) (by decide +kernel)
theorem mt_X10_isPart : gMt yX10_isPart cX10_isPart 2 (some .boolean) 2 := ⟨tw_981, tw_37, by decide +kernel, by decide +kernel⟩
theorem tw_986 : (Jvm.Cond.code ({ cls := "MarlStore$Query", name := "append", desc := "(II)Z" } : Jvm.MethodName) prog_8_method_2_code (3 : Nat) (Option.some Jvm.ClassFile.FieldType.boolean)) ∈ gW := gW_in 986 (by decide +kernel) (by decide +kernel)
theorem mt_X6_append : gMt yX6_append cX6_append 3 (some .boolean) 2 := ⟨tw_986, tw_47, by decide +kernel, by decide +kernel⟩
theorem tw_991 : (Jvm.Cond.code ({ cls := "MarlStore", name := "dropFound", desc := "(II)I" } : Jvm.MethodName) prog_1_method_44_code (3 : Nat) (Option.some Jvm.ClassFile.FieldType.int)) ∈ gW := gW_in 991 (by decide +kernel) (by decide +kernel)
theorem mt_X10_dropFound : gMt yX10_dropFound cX10_dropFound 3 (some .int) 2 := ⟨tw_991, tw_37, by decide +kernel, by decide +kernel⟩
theorem tw_995 : (Jvm.Cond.code ({ cls := "MarlStore$Walk", name := "without", desc := "(J)LMarlStore$Value;" } : Jvm.MethodName) prog_11_method_14_code (7 : Nat) (Option.some (Jvm.ClassFile.FieldType.object "MarlStore$Value"))) ∈ gW := gW_in 995 (by decide +kernel) (by decide +kernel)
theorem mt_X9_without : gMt yX9_without cX9_without 7 (some (.object "MarlStore$Value")) 1 := ⟨tw_995, tw_45, by decide +kernel, by decide +kernel⟩
theorem tw_1000 : (Jvm.Cond.code ({ cls := "MarlStoreLaw", name := "areDocumentsRight", desc := "(LMarlStore;)Z" } : Jvm.MethodName) method_7_code (4 : Nat) (Option.some Jvm.ClassFile.FieldType.boolean)) ∈ gW := gW_in 1000 (by decide +kernel) (by decide +kernel)
theorem mt_L_areDocumentsRight : gMt yL_areDocumentsRight cL_areDocumentsRight 4 (some .boolean) 1 := ⟨tw_1000, tw_36, by decide +kernel, by decide +kernel⟩
theorem tw_1004 : (Jvm.Cond.code ({ cls := "MarlStore", name := "depth", desc := "(I)I" } : Jvm.MethodName) prog_1_method_18_code (2 : Nat) (Option.some Jvm.ClassFile.FieldType.int)) ∈ gW := gW_in 1004 (by decide +kernel) (by decide +kernel)
theorem mt_X10_depth : gMt yX10_depth cX10_depth 2 (some .int) 1 := ⟨tw_1004, tw_37, by decide +kernel, by decide +kernel⟩
theorem tw_1008 : (Jvm.Cond.code ({ cls := "MarlStoreLaw", name := "areFewRight", desc := "(LMarlStore;)Z" } : Jvm.MethodName) method_8_code (2 : Nat) (Option.some Jvm.ClassFile.FieldType.boolean)) ∈ gW := gW_in 1008 (by decide +kernel) (by decide +kernel)
theorem mt_L_areFewRight : gMt yL_areFewRight cL_areFewRight 2 (some .boolean) 1 := ⟨tw_1008, tw_36, by decide +kernel, by decide +kernel⟩
theorem tw_1012 : (Jvm.Cond.code ({ cls := "MarlStore", name := "number", desc := "()I" } : Jvm.MethodName) prog_1_method_14_code (1 : Nat) (Option.some Jvm.ClassFile.FieldType.int)) ∈ gW := gW_in 1012 (by decide +kernel) (by decide +kernel)
theorem mt_X10_number : gMt yX10_number cX10_number 1 (some .int) 0 := ⟨tw_1012, tw_37, by decide +kernel, by decide +kernel⟩
theorem tw_66 : (Jvm.Cond.classLink "MarlStore" (7 : Nat) "MarlStore$Value") ∈ gW := gW_in 66 (by decide +kernel) (by decide +kernel)
theorem tw_67 : (Jvm.Cond.instantiable "MarlStore$Value" (6 : Nat)) ∈ gW := gW_in 67 (by decide +kernel) (by decide +kernel)
theorem nw_X10_7 : gNw RX10 7 8 RX8 TX8 6 tyX8 := ⟨kl_8, tw_66, tw_67, tw_38⟩
theorem tw_68 : (Jvm.Cond.methodLink "MarlStore" (11 : Nat) ({ cls := "MarlStore$Value", name := "<init>", desc := "(II[I[LMarlStore$Value;)V" } : Jvm.MethodName)) ∈ gW := gW_in 68 (by decide +kernel) (by decide +kernel)
theorem tw_69 : (Jvm.Cond.instanceMethod ({ cls := "MarlStore$Value", name := "<init>", desc := "(II[I[LMarlStore$Value;)V" } : Jvm.MethodName)) ∈ gW := gW_in 69 (by decide +kernel) (by decide +kernel)
theorem ci_X10_11 : gCi RX10 11 yX8_init := ⟨tw_68, tw_69, by decide +kernel⟩
theorem tw_309 : (Jvm.Cond.fieldLink "MarlStore" (14 : Nat) "MarlStore" "wholes" "[LMarlStore$Value;") ∈ gW := gW_in 309 (by decide +kernel) (by decide +kernel)
theorem fl_X10_14 : gFl RX10 14 10 0 RX10 TX10 14 tyX10 := ⟨kl_10, by decide, tw_309⟩
theorem tw_310 : (Jvm.Cond.fieldLink "MarlStore" (18 : Nat) "MarlStore" "clipped" "LMarlStore$Value;") ∈ gW := gW_in 310 (by decide +kernel) (by decide +kernel)
theorem fl_X10_18 : gFl RX10 18 10 1 RX10 TX10 14 tyX10 := ⟨kl_10, by decide, tw_310⟩
theorem tw_110 : (Jvm.Cond.classLink "MarlStore" (22 : Nat) "MarlStore$Pointer") ∈ gW := gW_in 110 (by decide +kernel) (by decide +kernel)
theorem tw_111 : (Jvm.Cond.instantiable "MarlStore$Pointer" (3 : Nat)) ∈ gW := gW_in 111 (by decide +kernel) (by decide +kernel)
theorem nw_X10_22 : gNw RX10 22 5 RX5 TX5 3 tyX5 := ⟨kl_5, tw_110, tw_111, tw_40⟩
theorem tw_311 : (Jvm.Cond.fieldLink "MarlStore" (25 : Nat) "MarlStore" "pointer" "LMarlStore$Pointer;") ∈ gW := gW_in 311 (by decide +kernel) (by decide +kernel)
theorem fl_X10_25 : gFl RX10 25 10 2 RX10 TX10 14 tyX10 := ⟨kl_10, by decide, tw_311⟩
theorem tw_130 : (Jvm.Cond.classLink "MarlStore" (29 : Nat) "MarlStore$Editor") ∈ gW := gW_in 130 (by decide +kernel) (by decide +kernel)
theorem tw_131 : (Jvm.Cond.instantiable "MarlStore$Editor" (5 : Nat)) ∈ gW := gW_in 131 (by decide +kernel) (by decide +kernel)
theorem nw_X10_29 : gNw RX10 29 2 RX2 TX2 5 tyX2 := ⟨kl_2, tw_130, tw_131, tw_41⟩
theorem tw_132 : (Jvm.Cond.methodLink "MarlStore" (31 : Nat) ({ cls := "MarlStore$Editor", name := "<init>", desc := "(LMarlStore$Value;)V" } : Jvm.MethodName)) ∈ gW := gW_in 132 (by decide +kernel) (by decide +kernel)
theorem tw_133 : (Jvm.Cond.instanceMethod ({ cls := "MarlStore$Editor", name := "<init>", desc := "(LMarlStore$Value;)V" } : Jvm.MethodName)) ∈ gW := gW_in 133 (by decide +kernel) (by decide +kernel)
theorem ci_X10_31 : gCi RX10 31 yX2_init := ⟨tw_132, tw_133, by decide +kernel⟩
theorem tw_312 : (Jvm.Cond.fieldLink "MarlStore" (34 : Nat) "MarlStore" "editor" "LMarlStore$Editor;") ∈ gW := gW_in 312 (by decide +kernel) (by decide +kernel)
theorem fl_X10_34 : gFl RX10 34 10 3 RX10 TX10 14 tyX10 := ⟨kl_10, by decide, tw_312⟩
theorem tw_155 : (Jvm.Cond.classLink "MarlStore" (38 : Nat) "MarlStore$Patch") ∈ gW := gW_in 155 (by decide +kernel) (by decide +kernel)
theorem tw_157 : (Jvm.Cond.instantiable "MarlStore$Patch" (2 : Nat)) ∈ gW := gW_in 157 (by decide +kernel) (by decide +kernel)
theorem nw_X10_38 : gNw RX10 38 4 RX4 TX4 2 tyX4 := ⟨kl_4, tw_155, tw_157, tw_42⟩
theorem tw_313 : (Jvm.Cond.fieldLink "MarlStore" (40 : Nat) "MarlStore" "allPatches" "[LMarlStore$Patch;") ∈ gW := gW_in 313 (by decide +kernel) (by decide +kernel)
theorem fl_X10_40 : gFl RX10 40 10 4 RX10 TX10 14 tyX10 := ⟨kl_10, by decide, tw_313⟩
theorem tw_315 : (Jvm.Cond.fieldLink "MarlStore" (45 : Nat) "MarlStore" "takenOut" "[LMarlStore$Value;") ∈ gW := gW_in 315 (by decide +kernel) (by decide +kernel)
theorem fl_X10_45 : gFl RX10 45 10 6 RX10 TX10 14 tyX10 := ⟨kl_10, by decide, tw_315⟩
theorem tw_172 : (Jvm.Cond.classLink "MarlStore" (48 : Nat) "MarlStore$Differ") ∈ gW := gW_in 172 (by decide +kernel) (by decide +kernel)
theorem tw_173 : (Jvm.Cond.instantiable "MarlStore$Differ" (4 : Nat)) ∈ gW := gW_in 173 (by decide +kernel) (by decide +kernel)
theorem nw_X10_48 : gNw RX10 48 1 RX1 TX1 4 tyX1 := ⟨kl_1, tw_172, tw_173, tw_43⟩
theorem tw_316 : (Jvm.Cond.fieldLink "MarlStore" (51 : Nat) "MarlStore" "differ" "LMarlStore$Differ;") ∈ gW := gW_in 316 (by decide +kernel) (by decide +kernel)
theorem fl_X10_51 : gFl RX10 51 10 7 RX10 TX10 14 tyX10 := ⟨kl_10, by decide, tw_316⟩
theorem tw_192 : (Jvm.Cond.classLink "MarlStore" (55 : Nat) "MarlStore$Schema") ∈ gW := gW_in 192 (by decide +kernel) (by decide +kernel)
theorem tw_194 : (Jvm.Cond.instantiable "MarlStore$Schema" (11 : Nat)) ∈ gW := gW_in 194 (by decide +kernel) (by decide +kernel)
theorem nw_X10_55 : gNw RX10 55 7 RX7 TX7 11 tyX7 := ⟨kl_7, tw_192, tw_194, tw_44⟩
theorem tw_317 : (Jvm.Cond.fieldLink "MarlStore" (57 : Nat) "MarlStore" "schemas" "[LMarlStore$Schema;") ∈ gW := gW_in 317 (by decide +kernel) (by decide +kernel)
theorem fl_X10_57 : gFl RX10 57 10 8 RX10 TX10 14 tyX10 := ⟨kl_10, by decide, tw_317⟩
theorem tw_238 : (Jvm.Cond.classLink "MarlStore" (62 : Nat) "MarlStore$Walk") ∈ gW := gW_in 238 (by decide +kernel) (by decide +kernel)
theorem tw_239 : (Jvm.Cond.instantiable "MarlStore$Walk" (5 : Nat)) ∈ gW := gW_in 239 (by decide +kernel) (by decide +kernel)
theorem nw_X10_62 : gNw RX10 62 9 RX9 TX9 5 tyX9 := ⟨kl_9, tw_238, tw_239, tw_45⟩
theorem tw_322 : (Jvm.Cond.fieldLink "MarlStore" (65 : Nat) "MarlStore" "walk" "LMarlStore$Walk;") ∈ gW := gW_in 322 (by decide +kernel) (by decide +kernel)
theorem fl_X10_65 : gFl RX10 65 10 13 RX10 TX10 14 tyX10 := ⟨kl_10, by decide, tw_322⟩
theorem tw_263 : (Jvm.Cond.classLink "MarlStore" (69 : Nat) "MarlStore$Checker") ∈ gW := gW_in 263 (by decide +kernel) (by decide +kernel)
theorem tw_264 : (Jvm.Cond.instantiable "MarlStore$Checker" (7 : Nat)) ∈ gW := gW_in 264 (by decide +kernel) (by decide +kernel)
theorem nw_X10_69 : gNw RX10 69 0 RX0 TX0 7 tyX0 := ⟨kl_0, tw_263, tw_264, tw_46⟩
theorem tw_265 : (Jvm.Cond.methodLink "MarlStore" (71 : Nat) ({ cls := "MarlStore$Checker", name := "<init>", desc := "(LMarlStore$Walk;[LMarlStore$Schema;)V" } : Jvm.MethodName)) ∈ gW := gW_in 265 (by decide +kernel) (by decide +kernel)
theorem tw_266 : (Jvm.Cond.instanceMethod ({ cls := "MarlStore$Checker", name := "<init>", desc := "(LMarlStore$Walk;[LMarlStore$Schema;)V" } : Jvm.MethodName)) ∈ gW := gW_in 266 (by decide +kernel) (by decide +kernel)
theorem ci_X10_71 : gCi RX10 71 yX0_init := ⟨tw_265, tw_266, by decide +kernel⟩
theorem tw_319 : (Jvm.Cond.fieldLink "MarlStore" (74 : Nat) "MarlStore" "checker" "LMarlStore$Checker;") ∈ gW := gW_in 319 (by decide +kernel) (by decide +kernel)
theorem fl_X10_74 : gFl RX10 74 10 10 RX10 TX10 14 tyX10 := ⟨kl_10, by decide, tw_319⟩
theorem tw_291 : (Jvm.Cond.classLink "MarlStore" (78 : Nat) "MarlStore$Query") ∈ gW := gW_in 291 (by decide +kernel) (by decide +kernel)
theorem tw_293 : (Jvm.Cond.instantiable "MarlStore$Query" (3 : Nat)) ∈ gW := gW_in 293 (by decide +kernel) (by decide +kernel)
theorem nw_X10_78 : gNw RX10 78 6 RX6 TX6 3 tyX6 := ⟨kl_6, tw_291, tw_293, tw_47⟩
theorem tw_320 : (Jvm.Cond.fieldLink "MarlStore" (80 : Nat) "MarlStore" "queries" "[LMarlStore$Query;") ∈ gW := gW_in 320 (by decide +kernel) (by decide +kernel)
theorem fl_X10_80 : gFl RX10 80 10 11 RX10 TX10 14 tyX10 := ⟨kl_10, by decide, tw_320⟩
theorem tw_430 : (Jvm.Cond.methodLink "MarlStore" (85 : Nat) ({ cls := "MarlStore", name := "wholeOf", desc := "(I)LMarlStore$Value;" } : Jvm.MethodName)) ∈ gW := gW_in 430 (by decide +kernel) (by decide +kernel)
theorem tw_432 : (Jvm.Cond.instanceMethod ({ cls := "MarlStore", name := "wholeOf", desc := "(I)LMarlStore$Value;" } : Jvm.MethodName)) ∈ gW := gW_in 432 (by decide +kernel) (by decide +kernel)
theorem tw_1 : (Jvm.Cond.selects "MarlStore" ({ cls := "MarlStore", name := "wholeOf", desc := "(I)LMarlStore$Value;" } : Jvm.MethodName) ({ cls := "MarlStore", name := "wholeOf", desc := "(I)LMarlStore$Value;" } : Jvm.MethodName)) ∈ gW := gW_in 1 (by decide +kernel) (by decide +kernel)
theorem cv_X10_85 : gCv RX10 85 yX10_wholeOf := ⟨tw_430, tw_432, tw_1⟩
theorem tw_677 : (Jvm.Cond.methodLink "MarlStore" (89 : Nat) ({ cls := "MarlStore$Pointer", name := "goToWhole", desc := "(I)V" } : Jvm.MethodName)) ∈ gW := gW_in 677 (by decide +kernel) (by decide +kernel)
theorem tw_678 : (Jvm.Cond.instanceMethod ({ cls := "MarlStore$Pointer", name := "goToWhole", desc := "(I)V" } : Jvm.MethodName)) ∈ gW := gW_in 678 (by decide +kernel) (by decide +kernel)
theorem tw_679 : (Jvm.Cond.selects "MarlStore$Pointer" ({ cls := "MarlStore$Pointer", name := "goToWhole", desc := "(I)V" } : Jvm.MethodName) ({ cls := "MarlStore$Pointer", name := "goToWhole", desc := "(I)V" } : Jvm.MethodName)) ∈ gW := gW_in 679 (by decide +kernel) (by decide +kernel)
theorem cv_X10_89 : gCv RX10 89 yX5_goToWhole := ⟨tw_677, tw_678, tw_679⟩
theorem tw_76 : (Jvm.Cond.fieldLink "MarlStore" (93 : Nat) "MarlStore$Value" "kind" "I") ∈ gW := gW_in 76 (by decide +kernel) (by decide +kernel)
theorem fl_X10_93 : gFl RX10 93 8 0 RX8 TX8 6 tyX8 := ⟨kl_8, by decide, tw_76⟩
theorem tw_685 : (Jvm.Cond.methodLink "MarlStore" (97 : Nat) ({ cls := "MarlStore", name := "pointed", desc := "()LMarlStore$Value;" } : Jvm.MethodName)) ∈ gW := gW_in 685 (by decide +kernel) (by decide +kernel)
theorem tw_687 : (Jvm.Cond.instanceMethod ({ cls := "MarlStore", name := "pointed", desc := "()LMarlStore$Value;" } : Jvm.MethodName)) ∈ gW := gW_in 687 (by decide +kernel) (by decide +kernel)
theorem tw_22 : (Jvm.Cond.selects "MarlStore" ({ cls := "MarlStore", name := "pointed", desc := "()LMarlStore$Value;" } : Jvm.MethodName) ({ cls := "MarlStore", name := "pointed", desc := "()LMarlStore$Value;" } : Jvm.MethodName)) ∈ gW := gW_in 22 (by decide +kernel) (by decide +kernel)
theorem cv_X10_97 : gCv RX10 97 yX10_pointed := ⟨tw_685, tw_687, tw_22⟩
theorem tw_709 : (Jvm.Cond.methodLink "MarlStore" (101 : Nat) ({ cls := "MarlStore$Value", name := "placeOf", desc := "(I)I" } : Jvm.MethodName)) ∈ gW := gW_in 709 (by decide +kernel) (by decide +kernel)
theorem tw_607 : (Jvm.Cond.instanceMethod ({ cls := "MarlStore$Value", name := "placeOf", desc := "(I)I" } : Jvm.MethodName)) ∈ gW := gW_in 607 (by decide +kernel) (by decide +kernel)
theorem tw_608 : (Jvm.Cond.selects "MarlStore$Value" ({ cls := "MarlStore$Value", name := "placeOf", desc := "(I)I" } : Jvm.MethodName) ({ cls := "MarlStore$Value", name := "placeOf", desc := "(I)I" } : Jvm.MethodName)) ∈ gW := gW_in 608 (by decide +kernel) (by decide +kernel)
theorem cv_X10_101 : gCv RX10 101 yX8_placeOf := ⟨tw_709, tw_607, tw_608⟩
theorem tw_710 : (Jvm.Cond.methodLink "MarlStore" (105 : Nat) ({ cls := "MarlStore$Value", name := "partAt", desc := "(I)LMarlStore$Value;" } : Jvm.MethodName)) ∈ gW := gW_in 710 (by decide +kernel) (by decide +kernel)
theorem tw_455 : (Jvm.Cond.instanceMethod ({ cls := "MarlStore$Value", name := "partAt", desc := "(I)LMarlStore$Value;" } : Jvm.MethodName)) ∈ gW := gW_in 455 (by decide +kernel) (by decide +kernel)
theorem tw_456 : (Jvm.Cond.selects "MarlStore$Value" ({ cls := "MarlStore$Value", name := "partAt", desc := "(I)LMarlStore$Value;" } : Jvm.MethodName) ({ cls := "MarlStore$Value", name := "partAt", desc := "(I)LMarlStore$Value;" } : Jvm.MethodName)) ∈ gW := gW_in 456 (by decide +kernel) (by decide +kernel)
theorem cv_X10_105 : gCv RX10 105 yX8_partAt := ⟨tw_710, tw_455, tw_456⟩
theorem tw_711 : (Jvm.Cond.methodLink "MarlStore" (108 : Nat) ({ cls := "MarlStore$Pointer", name := "goDown", desc := "(I)Z" } : Jvm.MethodName)) ∈ gW := gW_in 711 (by decide +kernel) (by decide +kernel)
theorem tw_712 : (Jvm.Cond.instanceMethod ({ cls := "MarlStore$Pointer", name := "goDown", desc := "(I)Z" } : Jvm.MethodName)) ∈ gW := gW_in 712 (by decide +kernel) (by decide +kernel)
theorem tw_713 : (Jvm.Cond.selects "MarlStore$Pointer" ({ cls := "MarlStore$Pointer", name := "goDown", desc := "(I)Z" } : Jvm.MethodName) ({ cls := "MarlStore$Pointer", name := "goDown", desc := "(I)Z" } : Jvm.MethodName)) ∈ gW := gW_in 713 (by decide +kernel) (by decide +kernel)
theorem cv_X10_108 : gCv RX10 108 yX5_goDown := ⟨tw_711, tw_712, tw_713⟩
theorem tw_725 : (Jvm.Cond.methodLink "MarlStore" (119 : Nat) ({ cls := "MarlStore$Pointer", name := "goUp", desc := "()Z" } : Jvm.MethodName)) ∈ gW := gW_in 725 (by decide +kernel) (by decide +kernel)
theorem tw_726 : (Jvm.Cond.instanceMethod ({ cls := "MarlStore$Pointer", name := "goUp", desc := "()Z" } : Jvm.MethodName)) ∈ gW := gW_in 726 (by decide +kernel) (by decide +kernel)
theorem tw_727 : (Jvm.Cond.selects "MarlStore$Pointer" ({ cls := "MarlStore$Pointer", name := "goUp", desc := "()Z" } : Jvm.MethodName) ({ cls := "MarlStore$Pointer", name := "goUp", desc := "()Z" } : Jvm.MethodName)) ∈ gW := gW_in 727 (by decide +kernel) (by decide +kernel)
theorem cv_X10_119 : gCv RX10 119 yX5_goUp := ⟨tw_725, tw_726, tw_727⟩
theorem tw_119 : (Jvm.Cond.fieldLink "MarlStore" (128 : Nat) "MarlStore$Pointer" "length" "I") ∈ gW := gW_in 119 (by decide +kernel) (by decide +kernel)
theorem fl_X10_128 : gFl RX10 128 5 1 RX5 TX5 3 tyX5 := ⟨kl_5, by decide, tw_119⟩
theorem tw_117 : (Jvm.Cond.fieldLink "MarlStore" (131 : Nat) "MarlStore$Pointer" "at" "I") ∈ gW := gW_in 117 (by decide +kernel) (by decide +kernel)
theorem fl_X10_131 : gFl RX10 131 5 0 RX5 TX5 3 tyX5 := ⟨kl_5, by decide, tw_117⟩
theorem tw_121 : (Jvm.Cond.fieldLink "MarlStore" (134 : Nat) "MarlStore$Pointer" "path" "[I") ∈ gW := gW_in 121 (by decide +kernel) (by decide +kernel)
theorem fl_X10_134 : gFl RX10 134 5 2 RX5 TX5 3 tyX5 := ⟨kl_5, by decide, tw_121⟩
theorem tw_92 : (Jvm.Cond.fieldLink "MarlStore" (145 : Nat) "MarlStore$Value" "size" "I") ∈ gW := gW_in 92 (by decide +kernel) (by decide +kernel)
theorem fl_X10_145 : gFl RX10 145 8 4 RX8 TX8 6 tyX8 := ⟨kl_8, by decide, tw_92⟩
theorem tw_750 : (Jvm.Cond.methodLink "MarlStore" (148 : Nat) ({ cls := "MarlStore$Editor", name := "begin", desc := "(LMarlStore$Value;)V" } : Jvm.MethodName)) ∈ gW := gW_in 750 (by decide +kernel) (by decide +kernel)
theorem tw_751 : (Jvm.Cond.instanceMethod ({ cls := "MarlStore$Editor", name := "begin", desc := "(LMarlStore$Value;)V" } : Jvm.MethodName)) ∈ gW := gW_in 751 (by decide +kernel) (by decide +kernel)
theorem tw_752 : (Jvm.Cond.selects "MarlStore$Editor" ({ cls := "MarlStore$Editor", name := "begin", desc := "(LMarlStore$Value;)V" } : Jvm.MethodName) ({ cls := "MarlStore$Editor", name := "begin", desc := "(LMarlStore$Value;)V" } : Jvm.MethodName)) ∈ gW := gW_in 752 (by decide +kernel) (by decide +kernel)
theorem cv_X10_148 : gCv RX10 148 yX2_begin := ⟨tw_750, tw_751, tw_752⟩
theorem tw_754 : (Jvm.Cond.methodLink "MarlStore" (151 : Nat) ({ cls := "MarlStore$Editor", name := "putAt", desc := "([IILMarlStore$Value;)Z" } : Jvm.MethodName)) ∈ gW := gW_in 754 (by decide +kernel) (by decide +kernel)
theorem tw_755 : (Jvm.Cond.instanceMethod ({ cls := "MarlStore$Editor", name := "putAt", desc := "([IILMarlStore$Value;)Z" } : Jvm.MethodName)) ∈ gW := gW_in 755 (by decide +kernel) (by decide +kernel)
theorem tw_756 : (Jvm.Cond.selects "MarlStore$Editor" ({ cls := "MarlStore$Editor", name := "putAt", desc := "([IILMarlStore$Value;)Z" } : Jvm.MethodName) ({ cls := "MarlStore$Editor", name := "putAt", desc := "([IILMarlStore$Value;)Z" } : Jvm.MethodName)) ∈ gW := gW_in 756 (by decide +kernel) (by decide +kernel)
theorem cv_X10_151 : gCv RX10 151 yX2_putAt := ⟨tw_754, tw_755, tw_756⟩
theorem tw_775 : (Jvm.Cond.methodLink "MarlStore" (155 : Nat) ({ cls := "MarlStore", name := "finish", desc := "(Z)I" } : Jvm.MethodName)) ∈ gW := gW_in 775 (by decide +kernel) (by decide +kernel)
theorem tw_777 : (Jvm.Cond.instanceMethod ({ cls := "MarlStore", name := "finish", desc := "(Z)I" } : Jvm.MethodName)) ∈ gW := gW_in 777 (by decide +kernel) (by decide +kernel)
theorem tw_25 : (Jvm.Cond.selects "MarlStore" ({ cls := "MarlStore", name := "finish", desc := "(Z)I" } : Jvm.MethodName) ({ cls := "MarlStore", name := "finish", desc := "(Z)I" } : Jvm.MethodName)) ∈ gW := gW_in 25 (by decide +kernel) (by decide +kernel)
theorem cv_X10_155 : gCv RX10 155 yX10_finish := ⟨tw_775, tw_777, tw_25⟩
theorem tw_801 : (Jvm.Cond.methodLink "MarlStore" (159 : Nat) ({ cls := "MarlStore$Editor", name := "addAt", desc := "([IIILMarlStore$Value;)Z" } : Jvm.MethodName)) ∈ gW := gW_in 801 (by decide +kernel) (by decide +kernel)
theorem tw_802 : (Jvm.Cond.instanceMethod ({ cls := "MarlStore$Editor", name := "addAt", desc := "([IIILMarlStore$Value;)Z" } : Jvm.MethodName)) ∈ gW := gW_in 802 (by decide +kernel) (by decide +kernel)
theorem tw_803 : (Jvm.Cond.selects "MarlStore$Editor" ({ cls := "MarlStore$Editor", name := "addAt", desc := "([IIILMarlStore$Value;)Z" } : Jvm.MethodName) ({ cls := "MarlStore$Editor", name := "addAt", desc := "([IIILMarlStore$Value;)Z" } : Jvm.MethodName)) ∈ gW := gW_in 803 (by decide +kernel) (by decide +kernel)
theorem cv_X10_159 : gCv RX10 159 yX2_addAt := ⟨tw_801, tw_802, tw_803⟩
theorem tw_822 : (Jvm.Cond.methodLink "MarlStore" (163 : Nat) ({ cls := "MarlStore$Editor", name := "dropAt", desc := "([III)Z" } : Jvm.MethodName)) ∈ gW := gW_in 822 (by decide +kernel) (by decide +kernel)
theorem tw_823 : (Jvm.Cond.instanceMethod ({ cls := "MarlStore$Editor", name := "dropAt", desc := "([III)Z" } : Jvm.MethodName)) ∈ gW := gW_in 823 (by decide +kernel) (by decide +kernel)
theorem tw_824 : (Jvm.Cond.selects "MarlStore$Editor" ({ cls := "MarlStore$Editor", name := "dropAt", desc := "([III)Z" } : Jvm.MethodName) ({ cls := "MarlStore$Editor", name := "dropAt", desc := "([III)Z" } : Jvm.MethodName)) ∈ gW := gW_in 824 (by decide +kernel) (by decide +kernel)
theorem cv_X10_163 : gCv RX10 163 yX2_dropAt := ⟨tw_822, tw_823, tw_824⟩
theorem tw_84 : (Jvm.Cond.fieldLink "MarlStore" (167 : Nat) "MarlStore$Value" "number" "I") ∈ gW := gW_in 84 (by decide +kernel) (by decide +kernel)
theorem fl_X10_167 : gFl RX10 167 8 1 RX8 TX8 6 tyX8 := ⟨kl_8, by decide, tw_84⟩
theorem tw_466 : (Jvm.Cond.methodLink "MarlStore" (170 : Nat) ({ cls := "MarlStore$Value", name := "width", desc := "()I" } : Jvm.MethodName)) ∈ gW := gW_in 466 (by decide +kernel) (by decide +kernel)
theorem tw_451 : (Jvm.Cond.instanceMethod ({ cls := "MarlStore$Value", name := "width", desc := "()I" } : Jvm.MethodName)) ∈ gW := gW_in 451 (by decide +kernel) (by decide +kernel)
theorem tw_452 : (Jvm.Cond.selects "MarlStore$Value" ({ cls := "MarlStore$Value", name := "width", desc := "()I" } : Jvm.MethodName) ({ cls := "MarlStore$Value", name := "width", desc := "()I" } : Jvm.MethodName)) ∈ gW := gW_in 452 (by decide +kernel) (by decide +kernel)
theorem cv_X10_170 : gCv RX10 170 yX8_width := ⟨tw_466, tw_451, tw_452⟩
theorem tw_467 : (Jvm.Cond.methodLink "MarlStore" (176 : Nat) ({ cls := "MarlStore$Value", name := "stepOf", desc := "(I)I" } : Jvm.MethodName)) ∈ gW := gW_in 467 (by decide +kernel) (by decide +kernel)
theorem tw_459 : (Jvm.Cond.instanceMethod ({ cls := "MarlStore$Value", name := "stepOf", desc := "(I)I" } : Jvm.MethodName)) ∈ gW := gW_in 459 (by decide +kernel) (by decide +kernel)
theorem tw_460 : (Jvm.Cond.selects "MarlStore$Value" ({ cls := "MarlStore$Value", name := "stepOf", desc := "(I)I" } : Jvm.MethodName) ({ cls := "MarlStore$Value", name := "stepOf", desc := "(I)I" } : Jvm.MethodName)) ∈ gW := gW_in 460 (by decide +kernel) (by decide +kernel)
theorem cv_X10_176 : gCv RX10 176 yX8_stepOf := ⟨tw_467, tw_459, tw_460⟩
theorem tw_95 : (Jvm.Cond.fieldLink "MarlStore" (179 : Nat) "MarlStore$Value" "depth" "I") ∈ gW := gW_in 95 (by decide +kernel) (by decide +kernel)
theorem fl_X10_179 : gFl RX10 179 8 5 RX8 TX8 6 tyX8 := ⟨kl_8, by decide, tw_95⟩
theorem tw_521 : (Jvm.Cond.methodLink "MarlStore" (185 : Nat) ({ cls := "MarlStore", name := "patchOf", desc := "(I)LMarlStore$Patch;" } : Jvm.MethodName)) ∈ gW := gW_in 521 (by decide +kernel) (by decide +kernel)
theorem tw_523 : (Jvm.Cond.instanceMethod ({ cls := "MarlStore", name := "patchOf", desc := "(I)LMarlStore$Patch;" } : Jvm.MethodName)) ∈ gW := gW_in 523 (by decide +kernel) (by decide +kernel)
theorem tw_11 : (Jvm.Cond.selects "MarlStore" ({ cls := "MarlStore", name := "patchOf", desc := "(I)LMarlStore$Patch;" } : Jvm.MethodName) ({ cls := "MarlStore", name := "patchOf", desc := "(I)LMarlStore$Patch;" } : Jvm.MethodName)) ∈ gW := gW_in 11 (by decide +kernel) (by decide +kernel)
theorem cv_X10_185 : gCv RX10 185 yX10_patchOf := ⟨tw_521, tw_523, tw_11⟩
theorem tw_923 : (Jvm.Cond.methodLink "MarlStore" (209 : Nat) ({ cls := "MarlStore", name := "tryOut", desc := "(LMarlStore$Patch;LMarlStore$Value;)I" } : Jvm.MethodName)) ∈ gW := gW_in 923 (by decide +kernel) (by decide +kernel)
theorem tw_925 : (Jvm.Cond.instanceMethod ({ cls := "MarlStore", name := "tryOut", desc := "(LMarlStore$Patch;LMarlStore$Value;)I" } : Jvm.MethodName)) ∈ gW := gW_in 925 (by decide +kernel) (by decide +kernel)
theorem tw_33 : (Jvm.Cond.selects "MarlStore" ({ cls := "MarlStore", name := "tryOut", desc := "(LMarlStore$Patch;LMarlStore$Value;)I" } : Jvm.MethodName) ({ cls := "MarlStore", name := "tryOut", desc := "(LMarlStore$Patch;LMarlStore$Value;)I" } : Jvm.MethodName)) ∈ gW := gW_in 33 (by decide +kernel) (by decide +kernel)
theorem cv_X10_209 : gCv RX10 209 yX10_tryOut := ⟨tw_923, tw_925, tw_33⟩
theorem tw_138 : (Jvm.Cond.fieldLink "MarlStore" (213 : Nat) "MarlStore$Editor" "whole" "LMarlStore$Value;") ∈ gW := gW_in 138 (by decide +kernel) (by decide +kernel)
theorem fl_X10_213 : gFl RX10 213 2 0 RX2 TX2 5 tyX2 := ⟨kl_2, by decide, tw_138⟩
theorem tw_783 : (Jvm.Cond.methodLink "MarlStore" (216 : Nat) ({ cls := "MarlStore", name := "changeTo", desc := "(ILMarlStore$Value;)V" } : Jvm.MethodName)) ∈ gW := gW_in 783 (by decide +kernel) (by decide +kernel)
theorem tw_785 : (Jvm.Cond.instanceMethod ({ cls := "MarlStore", name := "changeTo", desc := "(ILMarlStore$Value;)V" } : Jvm.MethodName)) ∈ gW := gW_in 785 (by decide +kernel) (by decide +kernel)
theorem tw_26 : (Jvm.Cond.selects "MarlStore" ({ cls := "MarlStore", name := "changeTo", desc := "(ILMarlStore$Value;)V" } : Jvm.MethodName) ({ cls := "MarlStore", name := "changeTo", desc := "(ILMarlStore$Value;)V" } : Jvm.MethodName)) ∈ gW := gW_in 26 (by decide +kernel) (by decide +kernel)
theorem cv_X10_216 : gCv RX10 216 yX10_changeTo := ⟨tw_783, tw_785, tw_26⟩
theorem tw_314 : (Jvm.Cond.fieldLink "MarlStore" (220 : Nat) "MarlStore" "patchCount" "I") ∈ gW := gW_in 314 (by decide +kernel) (by decide +kernel)
theorem fl_X10_220 : gFl RX10 220 10 5 RX10 TX10 14 tyX10 := ⟨kl_10, by decide, tw_314⟩
theorem tw_902 : (Jvm.Cond.methodLink "MarlStore" (182 : Nat) ({ cls := "MarlStore", name := "beginPatch", desc := "()I" } : Jvm.MethodName)) ∈ gW := gW_in 902 (by decide +kernel) (by decide +kernel)
theorem tw_904 : (Jvm.Cond.instanceMethod ({ cls := "MarlStore", name := "beginPatch", desc := "()I" } : Jvm.MethodName)) ∈ gW := gW_in 904 (by decide +kernel) (by decide +kernel)
theorem tw_32 : (Jvm.Cond.selects "MarlStore" ({ cls := "MarlStore", name := "beginPatch", desc := "()I" } : Jvm.MethodName) ({ cls := "MarlStore", name := "beginPatch", desc := "()I" } : Jvm.MethodName)) ∈ gW := gW_in 32 (by decide +kernel) (by decide +kernel)
theorem cv_X10_182 : gCv RX10 182 yX10_beginPatch := ⟨tw_902, tw_904, tw_32⟩
theorem tw_955 : (Jvm.Cond.methodLink "MarlStore" (223 : Nat) ({ cls := "MarlStore", name := "writeInverse", desc := "(LMarlStore$Patch;LMarlStore$Patch;)V" } : Jvm.MethodName)) ∈ gW := gW_in 955 (by decide +kernel) (by decide +kernel)
theorem tw_957 : (Jvm.Cond.instanceMethod ({ cls := "MarlStore", name := "writeInverse", desc := "(LMarlStore$Patch;LMarlStore$Patch;)V" } : Jvm.MethodName)) ∈ gW := gW_in 957 (by decide +kernel) (by decide +kernel)
theorem tw_35 : (Jvm.Cond.selects "MarlStore" ({ cls := "MarlStore", name := "writeInverse", desc := "(LMarlStore$Patch;LMarlStore$Patch;)V" } : Jvm.MethodName) ({ cls := "MarlStore", name := "writeInverse", desc := "(LMarlStore$Patch;LMarlStore$Patch;)V" } : Jvm.MethodName)) ∈ gW := gW_in 35 (by decide +kernel) (by decide +kernel)
theorem cv_X10_223 : gCv RX10 223 yX10_writeInverse := ⟨tw_955, tw_957, tw_35⟩
theorem tw_834 : (Jvm.Cond.methodLink "MarlStore" (227 : Nat) ({ cls := "MarlStore$Differ", name := "write", desc := "(LMarlStore$Value;LMarlStore$Value;)I" } : Jvm.MethodName)) ∈ gW := gW_in 834 (by decide +kernel) (by decide +kernel)
theorem tw_835 : (Jvm.Cond.instanceMethod ({ cls := "MarlStore$Differ", name := "write", desc := "(LMarlStore$Value;LMarlStore$Value;)I" } : Jvm.MethodName)) ∈ gW := gW_in 835 (by decide +kernel) (by decide +kernel)
theorem tw_836 : (Jvm.Cond.selects "MarlStore$Differ" ({ cls := "MarlStore$Differ", name := "write", desc := "(LMarlStore$Value;LMarlStore$Value;)I" } : Jvm.MethodName) ({ cls := "MarlStore$Differ", name := "write", desc := "(LMarlStore$Value;LMarlStore$Value;)I" } : Jvm.MethodName)) ∈ gW := gW_in 836 (by decide +kernel) (by decide +kernel)
theorem cv_X10_227 : gCv RX10 227 yX1_write := ⟨tw_834, tw_835, tw_836⟩
theorem tw_911 : (Jvm.Cond.methodLink "MarlStore" (233 : Nat) ({ cls := "MarlStore$Differ", name := "operationAt", desc := "(I)LMarlStore$Operation;" } : Jvm.MethodName)) ∈ gW := gW_in 911 (by decide +kernel) (by decide +kernel)
theorem tw_912 : (Jvm.Cond.instanceMethod ({ cls := "MarlStore$Differ", name := "operationAt", desc := "(I)LMarlStore$Operation;" } : Jvm.MethodName)) ∈ gW := gW_in 912 (by decide +kernel) (by decide +kernel)
theorem tw_913 : (Jvm.Cond.selects "MarlStore$Differ" ({ cls := "MarlStore$Differ", name := "operationAt", desc := "(I)LMarlStore$Operation;" } : Jvm.MethodName) ({ cls := "MarlStore$Differ", name := "operationAt", desc := "(I)LMarlStore$Operation;" } : Jvm.MethodName)) ∈ gW := gW_in 913 (by decide +kernel) (by decide +kernel)
theorem cv_X10_233 : gCv RX10 233 yX1_operationAt := ⟨tw_911, tw_912, tw_913⟩
theorem tw_915 : (Jvm.Cond.methodLink "MarlStore" (205 : Nat) ({ cls := "MarlStore$Patch", name := "append", desc := "(LMarlStore$Operation;)V" } : Jvm.MethodName)) ∈ gW := gW_in 915 (by decide +kernel) (by decide +kernel)
theorem tw_916 : (Jvm.Cond.instanceMethod ({ cls := "MarlStore$Patch", name := "append", desc := "(LMarlStore$Operation;)V" } : Jvm.MethodName)) ∈ gW := gW_in 916 (by decide +kernel) (by decide +kernel)
theorem tw_917 : (Jvm.Cond.selects "MarlStore$Patch" ({ cls := "MarlStore$Patch", name := "append", desc := "(LMarlStore$Operation;)V" } : Jvm.MethodName) ({ cls := "MarlStore$Patch", name := "append", desc := "(LMarlStore$Operation;)V" } : Jvm.MethodName)) ∈ gW := gW_in 917 (by decide +kernel) (by decide +kernel)
theorem cv_X10_205 : gCv RX10 205 yX4_append := ⟨tw_915, tw_916, tw_917⟩
theorem tw_165 : (Jvm.Cond.fieldLink "MarlStore" (191 : Nat) "MarlStore$Patch" "count" "I") ∈ gW := gW_in 165 (by decide +kernel) (by decide +kernel)
theorem fl_X10_191 : gFl RX10 191 4 0 RX4 TX4 2 tyX4 := ⟨kl_4, by decide, tw_165⟩
theorem tw_530 : (Jvm.Cond.methodLink "MarlStore" (239 : Nat) ({ cls := "MarlStore$Patch", name := "operationAt", desc := "(I)LMarlStore$Operation;" } : Jvm.MethodName)) ∈ gW := gW_in 530 (by decide +kernel) (by decide +kernel)
theorem tw_531 : (Jvm.Cond.instanceMethod ({ cls := "MarlStore$Patch", name := "operationAt", desc := "(I)LMarlStore$Operation;" } : Jvm.MethodName)) ∈ gW := gW_in 531 (by decide +kernel) (by decide +kernel)
theorem tw_532 : (Jvm.Cond.selects "MarlStore$Patch" ({ cls := "MarlStore$Patch", name := "operationAt", desc := "(I)LMarlStore$Operation;" } : Jvm.MethodName) ({ cls := "MarlStore$Patch", name := "operationAt", desc := "(I)LMarlStore$Operation;" } : Jvm.MethodName)) ∈ gW := gW_in 532 (by decide +kernel) (by decide +kernel)
theorem cv_X10_239 : gCv RX10 239 yX4_operationAt := ⟨tw_530, tw_531, tw_532⟩
theorem tw_551 : (Jvm.Cond.methodLink "MarlStore" (244 : Nat) ({ cls := "MarlStore$Operation", name := "tell", desc := "(I)I" } : Jvm.MethodName)) ∈ gW := gW_in 551 (by decide +kernel) (by decide +kernel)
theorem tw_552 : (Jvm.Cond.instanceMethod ({ cls := "MarlStore$Operation", name := "tell", desc := "(I)I" } : Jvm.MethodName)) ∈ gW := gW_in 552 (by decide +kernel) (by decide +kernel)
theorem tw_553 : (Jvm.Cond.selects "MarlStore$Operation" ({ cls := "MarlStore$Operation", name := "tell", desc := "(I)I" } : Jvm.MethodName) ({ cls := "MarlStore$Operation", name := "tell", desc := "(I)I" } : Jvm.MethodName)) ∈ gW := gW_in 553 (by decide +kernel) (by decide +kernel)
theorem cv_X10_244 : gCv RX10 244 yX3_tell := ⟨tw_551, tw_552, tw_553⟩
theorem tw_472 : (Jvm.Cond.methodLink "MarlStore" (247 : Nat) ({ cls := "MarlStore$Differ", name := "compare", desc := "(LMarlStore$Value;LMarlStore$Value;)I" } : Jvm.MethodName)) ∈ gW := gW_in 472 (by decide +kernel) (by decide +kernel)
theorem tw_473 : (Jvm.Cond.instanceMethod ({ cls := "MarlStore$Differ", name := "compare", desc := "(LMarlStore$Value;LMarlStore$Value;)I" } : Jvm.MethodName)) ∈ gW := gW_in 473 (by decide +kernel) (by decide +kernel)
theorem tw_474 : (Jvm.Cond.selects "MarlStore$Differ" ({ cls := "MarlStore$Differ", name := "compare", desc := "(LMarlStore$Value;LMarlStore$Value;)I" } : Jvm.MethodName) ({ cls := "MarlStore$Differ", name := "compare", desc := "(LMarlStore$Value;LMarlStore$Value;)I" } : Jvm.MethodName)) ∈ gW := gW_in 474 (by decide +kernel) (by decide +kernel)
theorem cv_X10_247 : gCv RX10 247 yX1_compare := ⟨tw_472, tw_473, tw_474⟩
theorem tw_559 : (Jvm.Cond.methodLink "MarlStore" (295 : Nat) ({ cls := "MarlStore", name := "countFailures", desc := "(III)I" } : Jvm.MethodName)) ∈ gW := gW_in 559 (by decide +kernel) (by decide +kernel)
theorem tw_561 : (Jvm.Cond.instanceMethod ({ cls := "MarlStore", name := "countFailures", desc := "(III)I" } : Jvm.MethodName)) ∈ gW := gW_in 561 (by decide +kernel) (by decide +kernel)
theorem tw_12 : (Jvm.Cond.selects "MarlStore" ({ cls := "MarlStore", name := "countFailures", desc := "(III)I" } : Jvm.MethodName) ({ cls := "MarlStore", name := "countFailures", desc := "(III)I" } : Jvm.MethodName)) ∈ gW := gW_in 12 (by decide +kernel) (by decide +kernel)
theorem cv_X10_295 : gCv RX10 295 yX10_countFailures := ⟨tw_559, tw_561, tw_12⟩
theorem tw_321 : (Jvm.Cond.fieldLink "MarlStore" (311 : Nat) "MarlStore" "queryCount" "I") ∈ gW := gW_in 321 (by decide +kernel) (by decide +kernel)
theorem fl_X10_311 : gFl RX10 311 10 12 RX10 TX10 14 tyX10 := ⟨kl_10, by decide, tw_321⟩
theorem tw_618 : (Jvm.Cond.methodLink "MarlStore" (316 : Nat) ({ cls := "MarlStore", name := "queryOf", desc := "(I)LMarlStore$Query;" } : Jvm.MethodName)) ∈ gW := gW_in 618 (by decide +kernel) (by decide +kernel)
theorem tw_620 : (Jvm.Cond.instanceMethod ({ cls := "MarlStore", name := "queryOf", desc := "(I)LMarlStore$Query;" } : Jvm.MethodName)) ∈ gW := gW_in 620 (by decide +kernel) (by decide +kernel)
theorem tw_19 : (Jvm.Cond.selects "MarlStore" ({ cls := "MarlStore", name := "queryOf", desc := "(I)LMarlStore$Query;" } : Jvm.MethodName) ({ cls := "MarlStore", name := "queryOf", desc := "(I)LMarlStore$Query;" } : Jvm.MethodName)) ∈ gW := gW_in 19 (by decide +kernel) (by decide +kernel)
theorem cv_X10_316 : gCv RX10 316 yX10_queryOf := ⟨tw_618, tw_620, tw_19⟩
theorem tw_979 : (Jvm.Cond.methodLink "MarlStore" (320 : Nat) ({ cls := "MarlStore", name := "isPart", desc := "(II)Z" } : Jvm.MethodName)) ∈ gW := gW_in 979 (by decide +kernel) (by decide +kernel)
theorem tw_980 : (Jvm.Cond.static ({ cls := "MarlStore", name := "isPart", desc := "(II)Z" } : Jvm.MethodName)) ∈ gW := gW_in 980 (by decide +kernel) (by decide +kernel)
theorem cs_X10_320 : gCs RX10 320 yX10_isPart := ⟨tw_979, tw_980⟩
theorem tw_983 : (Jvm.Cond.methodLink "MarlStore" (326 : Nat) ({ cls := "MarlStore$Query", name := "append", desc := "(II)Z" } : Jvm.MethodName)) ∈ gW := gW_in 983 (by decide +kernel) (by decide +kernel)
theorem tw_984 : (Jvm.Cond.instanceMethod ({ cls := "MarlStore$Query", name := "append", desc := "(II)Z" } : Jvm.MethodName)) ∈ gW := gW_in 984 (by decide +kernel) (by decide +kernel)
theorem tw_985 : (Jvm.Cond.selects "MarlStore$Query" ({ cls := "MarlStore$Query", name := "append", desc := "(II)Z" } : Jvm.MethodName) ({ cls := "MarlStore$Query", name := "append", desc := "(II)Z" } : Jvm.MethodName)) ∈ gW := gW_in 985 (by decide +kernel) (by decide +kernel)
theorem cv_X10_326 : gCv RX10 326 yX6_append := ⟨tw_983, tw_984, tw_985⟩
theorem tw_299 : (Jvm.Cond.fieldLink "MarlStore" (330 : Nat) "MarlStore$Query" "count" "I") ∈ gW := gW_in 299 (by decide +kernel) (by decide +kernel)
theorem fl_X10_330 : gFl RX10 330 6 0 RX6 TX6 3 tyX6 := ⟨kl_6, by decide, tw_299⟩
theorem tw_614 : (Jvm.Cond.methodLink "MarlStore" (331 : Nat) ({ cls := "MarlStore", name := "findIn", desc := "(II)J" } : Jvm.MethodName)) ∈ gW := gW_in 614 (by decide +kernel) (by decide +kernel)
theorem tw_616 : (Jvm.Cond.instanceMethod ({ cls := "MarlStore", name := "findIn", desc := "(II)J" } : Jvm.MethodName)) ∈ gW := gW_in 616 (by decide +kernel) (by decide +kernel)
theorem tw_18 : (Jvm.Cond.selects "MarlStore" ({ cls := "MarlStore", name := "findIn", desc := "(II)J" } : Jvm.MethodName) ({ cls := "MarlStore", name := "findIn", desc := "(II)J" } : Jvm.MethodName)) ∈ gW := gW_in 18 (by decide +kernel) (by decide +kernel)
theorem cv_X10_331 : gCv RX10 331 yX10_findIn := ⟨tw_614, tw_616, tw_18⟩
theorem tw_646 : (Jvm.Cond.methodLink "MarlStore" (335 : Nat) ({ cls := "java/lang/Long", name := "bitCount", desc := "(J)I" } : Jvm.MethodName)) ∈ gW := gW_in 646 (by decide +kernel) (by decide +kernel)
theorem tw_647 : (Jvm.Cond.static ({ cls := "java/lang/Long", name := "bitCount", desc := "(J)I" } : Jvm.MethodName)) ∈ gW := gW_in 647 (by decide +kernel) (by decide +kernel)
theorem cs_X10_335 : gCs RX10 335 yJ13_bitCount_95d88 := ⟨tw_646, tw_647⟩
theorem tw_992 : (Jvm.Cond.methodLink "MarlStore" (363 : Nat) ({ cls := "MarlStore$Walk", name := "without", desc := "(J)LMarlStore$Value;" } : Jvm.MethodName)) ∈ gW := gW_in 992 (by decide +kernel) (by decide +kernel)
theorem tw_993 : (Jvm.Cond.instanceMethod ({ cls := "MarlStore$Walk", name := "without", desc := "(J)LMarlStore$Value;" } : Jvm.MethodName)) ∈ gW := gW_in 993 (by decide +kernel) (by decide +kernel)
theorem tw_994 : (Jvm.Cond.selects "MarlStore$Walk" ({ cls := "MarlStore$Walk", name := "without", desc := "(J)LMarlStore$Value;" } : Jvm.MethodName) ({ cls := "MarlStore$Walk", name := "without", desc := "(J)LMarlStore$Value;" } : Jvm.MethodName)) ∈ gW := gW_in 994 (by decide +kernel) (by decide +kernel)
theorem cv_X10_363 : gCv RX10 363 yX9_without := ⟨tw_992, tw_993, tw_994⟩
theorem tw_356 : (Jvm.Cond.constantLong "MarlStore" (367 : Nat) (58048 : Int64)) ∈ gW := gW_in 356 (by decide +kernel) (by decide +kernel)
theorem kc_X10_367 : (Jvm.Cond.constantLong "MarlStore" (367 : Nat) (58048 : Int64)) ∈ gW := tw_356
theorem tw_357 : (Jvm.Cond.constantLong "MarlStore" (369 : Nat) (31 : Int64)) ∈ gW := gW_in 357 (by decide +kernel) (by decide +kernel)
theorem kc_X10_369 : (Jvm.Cond.constantLong "MarlStore" (369 : Nat) (31 : Int64)) ∈ gW := tw_357
theorem tw_358 : (Jvm.Cond.methodLink "MarlStore" (371 : Nat) ({ cls := "MarlStore", name := "stepAt", desc := "(I)I" } : Jvm.MethodName)) ∈ gW := gW_in 358 (by decide +kernel) (by decide +kernel)
theorem tw_359 : (Jvm.Cond.instanceMethod ({ cls := "MarlStore", name := "stepAt", desc := "(I)I" } : Jvm.MethodName)) ∈ gW := gW_in 359 (by decide +kernel) (by decide +kernel)
theorem tw_360 : (Jvm.Cond.selects "MarlStore" ({ cls := "MarlStore", name := "stepAt", desc := "(I)I" } : Jvm.MethodName) ({ cls := "MarlStore", name := "stepAt", desc := "(I)I" } : Jvm.MethodName)) ∈ gW := gW_in 360 (by decide +kernel) (by decide +kernel)
theorem cv_X10_371 : gCv RX10 371 yX10_stepAt := ⟨tw_358, tw_359, tw_360⟩
theorem tw_435 : (Jvm.Cond.methodLink "MarlStore" (374 : Nat) ({ cls := "MarlStore", name := "digestValue", desc := "(JLMarlStore$Value;)J" } : Jvm.MethodName)) ∈ gW := gW_in 435 (by decide +kernel) (by decide +kernel)
theorem tw_437 : (Jvm.Cond.instanceMethod ({ cls := "MarlStore", name := "digestValue", desc := "(JLMarlStore$Value;)J" } : Jvm.MethodName)) ∈ gW := gW_in 437 (by decide +kernel) (by decide +kernel)
theorem tw_2 : (Jvm.Cond.selects "MarlStore" ({ cls := "MarlStore", name := "digestValue", desc := "(JLMarlStore$Value;)J" } : Jvm.MethodName) ({ cls := "MarlStore", name := "digestValue", desc := "(JLMarlStore$Value;)J" } : Jvm.MethodName)) ∈ gW := gW_in 2 (by decide +kernel) (by decide +kernel)
theorem cv_X10_374 : gCv RX10 374 yX10_digestValue := ⟨tw_435, tw_437, tw_2⟩
theorem tw_468 : (Jvm.Cond.methodLink "MarlStore" (378 : Nat) ({ cls := "MarlStore", name := "difference", desc := "(II)I" } : Jvm.MethodName)) ∈ gW := gW_in 468 (by decide +kernel) (by decide +kernel)
theorem tw_469 : (Jvm.Cond.instanceMethod ({ cls := "MarlStore", name := "difference", desc := "(II)I" } : Jvm.MethodName)) ∈ gW := gW_in 469 (by decide +kernel) (by decide +kernel)
theorem tw_470 : (Jvm.Cond.selects "MarlStore" ({ cls := "MarlStore", name := "difference", desc := "(II)I" } : Jvm.MethodName) ({ cls := "MarlStore", name := "difference", desc := "(II)I" } : Jvm.MethodName)) ∈ gW := gW_in 470 (by decide +kernel) (by decide +kernel)
theorem cv_X10_378 : gCv RX10 378 yX10_difference := ⟨tw_468, tw_469, tw_470⟩
theorem tw_513 : (Jvm.Cond.methodLink "MarlStore" (382 : Nat) ({ cls := "MarlStore", name := "digestPatches", desc := "(J)J" } : Jvm.MethodName)) ∈ gW := gW_in 513 (by decide +kernel) (by decide +kernel)
theorem tw_515 : (Jvm.Cond.instanceMethod ({ cls := "MarlStore", name := "digestPatches", desc := "(J)J" } : Jvm.MethodName)) ∈ gW := gW_in 515 (by decide +kernel) (by decide +kernel)
theorem tw_10 : (Jvm.Cond.selects "MarlStore" ({ cls := "MarlStore", name := "digestPatches", desc := "(J)J" } : Jvm.MethodName) ({ cls := "MarlStore", name := "digestPatches", desc := "(J)J" } : Jvm.MethodName)) ∈ gW := gW_in 10 (by decide +kernel) (by decide +kernel)
theorem cv_X10_382 : gCv RX10 382 yX10_digestPatches := ⟨tw_513, tw_515, tw_10⟩
theorem tw_318 : (Jvm.Cond.fieldLink "MarlStore" (250 : Nat) "MarlStore" "schemaCount" "I") ∈ gW := gW_in 318 (by decide +kernel) (by decide +kernel)
theorem fl_X10_250 : gFl RX10 250 10 9 RX10 TX10 14 tyX10 := ⟨kl_10, by decide, tw_318⟩
theorem tw_555 : (Jvm.Cond.methodLink "MarlStore" (385 : Nat) ({ cls := "MarlStore", name := "fitting", desc := "(I)I" } : Jvm.MethodName)) ∈ gW := gW_in 555 (by decide +kernel) (by decide +kernel)
theorem tw_556 : (Jvm.Cond.instanceMethod ({ cls := "MarlStore", name := "fitting", desc := "(I)I" } : Jvm.MethodName)) ∈ gW := gW_in 556 (by decide +kernel) (by decide +kernel)
theorem tw_557 : (Jvm.Cond.selects "MarlStore" ({ cls := "MarlStore", name := "fitting", desc := "(I)I" } : Jvm.MethodName) ({ cls := "MarlStore", name := "fitting", desc := "(I)I" } : Jvm.MethodName)) ∈ gW := gW_in 557 (by decide +kernel) (by decide +kernel)
theorem cv_X10_385 : gCv RX10 385 yX10_fitting := ⟨tw_555, tw_556, tw_557⟩
theorem tw_610 : (Jvm.Cond.methodLink "MarlStore" (388 : Nat) ({ cls := "MarlStore", name := "found", desc := "(II)I" } : Jvm.MethodName)) ∈ gW := gW_in 610 (by decide +kernel) (by decide +kernel)
theorem tw_611 : (Jvm.Cond.instanceMethod ({ cls := "MarlStore", name := "found", desc := "(II)I" } : Jvm.MethodName)) ∈ gW := gW_in 611 (by decide +kernel) (by decide +kernel)
theorem tw_612 : (Jvm.Cond.selects "MarlStore" ({ cls := "MarlStore", name := "found", desc := "(II)I" } : Jvm.MethodName) ({ cls := "MarlStore", name := "found", desc := "(II)I" } : Jvm.MethodName)) ∈ gW := gW_in 612 (by decide +kernel) (by decide +kernel)
theorem cv_X10_388 : gCv RX10 388 yX10_found := ⟨tw_610, tw_611, tw_612⟩
theorem tw_907 : (Jvm.Cond.methodLink "MarlStore" (401 : Nat) ({ cls := "MarlStore$Patch", name := "clear", desc := "()V" } : Jvm.MethodName)) ∈ gW := gW_in 907 (by decide +kernel) (by decide +kernel)
theorem tw_908 : (Jvm.Cond.instanceMethod ({ cls := "MarlStore$Patch", name := "clear", desc := "()V" } : Jvm.MethodName)) ∈ gW := gW_in 908 (by decide +kernel) (by decide +kernel)
theorem tw_909 : (Jvm.Cond.selects "MarlStore$Patch" ({ cls := "MarlStore$Patch", name := "clear", desc := "()V" } : Jvm.MethodName) ({ cls := "MarlStore$Patch", name := "clear", desc := "()V" } : Jvm.MethodName)) ∈ gW := gW_in 909 (by decide +kernel) (by decide +kernel)
theorem cv_X10_401 : gCv RX10 401 yX4_clear := ⟨tw_907, tw_908, tw_909⟩
theorem tw_689 : (Jvm.Cond.methodLink "MarlStore" (404 : Nat) ({ cls := "MarlStore$Value", name := "below", desc := "([II)LMarlStore$Value;" } : Jvm.MethodName)) ∈ gW := gW_in 689 (by decide +kernel) (by decide +kernel)
theorem tw_690 : (Jvm.Cond.instanceMethod ({ cls := "MarlStore$Value", name := "below", desc := "([II)LMarlStore$Value;" } : Jvm.MethodName)) ∈ gW := gW_in 690 (by decide +kernel) (by decide +kernel)
theorem tw_691 : (Jvm.Cond.selects "MarlStore$Value" ({ cls := "MarlStore$Value", name := "below", desc := "([II)LMarlStore$Value;" } : Jvm.MethodName) ({ cls := "MarlStore$Value", name := "below", desc := "([II)LMarlStore$Value;" } : Jvm.MethodName)) ∈ gW := gW_in 691 (by decide +kernel) (by decide +kernel)
theorem cv_X10_404 : gCv RX10 404 yX8_below := ⟨tw_689, tw_690, tw_691⟩
theorem tw_787 : (Jvm.Cond.methodLink "MarlStore" (408 : Nat) ({ cls := "MarlStore$Pointer", name := "settle", desc := "(LMarlStore$Value;)V" } : Jvm.MethodName)) ∈ gW := gW_in 787 (by decide +kernel) (by decide +kernel)
theorem tw_788 : (Jvm.Cond.instanceMethod ({ cls := "MarlStore$Pointer", name := "settle", desc := "(LMarlStore$Value;)V" } : Jvm.MethodName)) ∈ gW := gW_in 788 (by decide +kernel) (by decide +kernel)
theorem tw_789 : (Jvm.Cond.selects "MarlStore$Pointer" ({ cls := "MarlStore$Pointer", name := "settle", desc := "(LMarlStore$Value;)V" } : Jvm.MethodName) ({ cls := "MarlStore$Pointer", name := "settle", desc := "(LMarlStore$Value;)V" } : Jvm.MethodName)) ∈ gW := gW_in 789 (by decide +kernel) (by decide +kernel)
theorem cv_X10_408 : gCv RX10 408 yX5_settle := ⟨tw_787, tw_788, tw_789⟩
theorem tw_779 : (Jvm.Cond.methodLink "MarlStore" (411 : Nat) ({ cls := "MarlStore$Editor", name := "isAllowed", desc := "()Z" } : Jvm.MethodName)) ∈ gW := gW_in 779 (by decide +kernel) (by decide +kernel)
theorem tw_780 : (Jvm.Cond.instanceMethod ({ cls := "MarlStore$Editor", name := "isAllowed", desc := "()Z" } : Jvm.MethodName)) ∈ gW := gW_in 780 (by decide +kernel) (by decide +kernel)
theorem tw_781 : (Jvm.Cond.selects "MarlStore$Editor" ({ cls := "MarlStore$Editor", name := "isAllowed", desc := "()Z" } : Jvm.MethodName) ({ cls := "MarlStore$Editor", name := "isAllowed", desc := "()Z" } : Jvm.MethodName)) ∈ gW := gW_in 781 (by decide +kernel) (by decide +kernel)
theorem cv_X10_411 : gCv RX10 411 yX2_isAllowed := ⟨tw_779, tw_780, tw_781⟩
theorem tw_927 : (Jvm.Cond.methodLink "MarlStore" (414 : Nat) ({ cls := "MarlStore$Editor", name := "perform", desc := "(LMarlStore$Operation;)Z" } : Jvm.MethodName)) ∈ gW := gW_in 927 (by decide +kernel) (by decide +kernel)
theorem tw_928 : (Jvm.Cond.instanceMethod ({ cls := "MarlStore$Editor", name := "perform", desc := "(LMarlStore$Operation;)Z" } : Jvm.MethodName)) ∈ gW := gW_in 928 (by decide +kernel) (by decide +kernel)
theorem tw_929 : (Jvm.Cond.selects "MarlStore$Editor" ({ cls := "MarlStore$Editor", name := "perform", desc := "(LMarlStore$Operation;)Z" } : Jvm.MethodName) ({ cls := "MarlStore$Editor", name := "perform", desc := "(LMarlStore$Operation;)Z" } : Jvm.MethodName)) ∈ gW := gW_in 929 (by decide +kernel) (by decide +kernel)
theorem cv_X10_414 : gCv RX10 414 yX2_perform := ⟨tw_927, tw_928, tw_929⟩
theorem tw_140 : (Jvm.Cond.fieldLink "MarlStore" (418 : Nat) "MarlStore$Editor" "taken" "LMarlStore$Value;") ∈ gW := gW_in 140 (by decide +kernel) (by decide +kernel)
theorem fl_X10_418 : gFl RX10 418 2 1 RX2 TX2 5 tyX2 := ⟨kl_2, by decide, tw_140⟩
theorem tw_959 : (Jvm.Cond.methodLink "MarlStore" (421 : Nat) ({ cls := "MarlStore$Operation", name := "inverse", desc := "(LMarlStore$Value;)LMarlStore$Operation;" } : Jvm.MethodName)) ∈ gW := gW_in 959 (by decide +kernel) (by decide +kernel)
theorem tw_960 : (Jvm.Cond.instanceMethod ({ cls := "MarlStore$Operation", name := "inverse", desc := "(LMarlStore$Value;)LMarlStore$Operation;" } : Jvm.MethodName)) ∈ gW := gW_in 960 (by decide +kernel) (by decide +kernel)
theorem tw_961 : (Jvm.Cond.selects "MarlStore$Operation" ({ cls := "MarlStore$Operation", name := "inverse", desc := "(LMarlStore$Value;)LMarlStore$Operation;" } : Jvm.MethodName) ({ cls := "MarlStore$Operation", name := "inverse", desc := "(LMarlStore$Value;)LMarlStore$Operation;" } : Jvm.MethodName)) ∈ gW := gW_in 961 (by decide +kernel) (by decide +kernel)
theorem cv_X10_421 : gCv RX10 421 yX3_inverse := ⟨tw_959, tw_960, tw_961⟩
theorem tw_439 : (Jvm.Cond.methodLink "MarlStore" (425 : Nat) ({ cls := "MarlStore$Walk", name := "fill", desc := "(LMarlStore$Value;)V" } : Jvm.MethodName)) ∈ gW := gW_in 439 (by decide +kernel) (by decide +kernel)
theorem tw_440 : (Jvm.Cond.instanceMethod ({ cls := "MarlStore$Walk", name := "fill", desc := "(LMarlStore$Value;)V" } : Jvm.MethodName)) ∈ gW := gW_in 440 (by decide +kernel) (by decide +kernel)
theorem tw_441 : (Jvm.Cond.selects "MarlStore$Walk" ({ cls := "MarlStore$Walk", name := "fill", desc := "(LMarlStore$Value;)V" } : Jvm.MethodName) ({ cls := "MarlStore$Walk", name := "fill", desc := "(LMarlStore$Value;)V" } : Jvm.MethodName)) ∈ gW := gW_in 441 (by decide +kernel) (by decide +kernel)
theorem cv_X10_425 : gCv RX10 425 yX9_fill := ⟨tw_439, tw_440, tw_441⟩
theorem tw_563 : (Jvm.Cond.methodLink "MarlStore" (255 : Nat) ({ cls := "MarlStore", name := "schemaOf", desc := "(I)LMarlStore$Schema;" } : Jvm.MethodName)) ∈ gW := gW_in 563 (by decide +kernel) (by decide +kernel)
theorem tw_565 : (Jvm.Cond.instanceMethod ({ cls := "MarlStore", name := "schemaOf", desc := "(I)LMarlStore$Schema;" } : Jvm.MethodName)) ∈ gW := gW_in 565 (by decide +kernel) (by decide +kernel)
theorem tw_13 : (Jvm.Cond.selects "MarlStore" ({ cls := "MarlStore", name := "schemaOf", desc := "(I)LMarlStore$Schema;" } : Jvm.MethodName) ({ cls := "MarlStore", name := "schemaOf", desc := "(I)LMarlStore$Schema;" } : Jvm.MethodName)) ∈ gW := gW_in 13 (by decide +kernel) (by decide +kernel)
theorem cv_X10_255 : gCv RX10 255 yX10_schemaOf := ⟨tw_563, tw_565, tw_13⟩
theorem tw_568 : (Jvm.Cond.methodLink "MarlStore" (428 : Nat) ({ cls := "MarlStore$Checker", name := "countFailures", desc := "(II)I" } : Jvm.MethodName)) ∈ gW := gW_in 568 (by decide +kernel) (by decide +kernel)
theorem tw_569 : (Jvm.Cond.instanceMethod ({ cls := "MarlStore$Checker", name := "countFailures", desc := "(II)I" } : Jvm.MethodName)) ∈ gW := gW_in 569 (by decide +kernel) (by decide +kernel)
theorem tw_570 : (Jvm.Cond.selects "MarlStore$Checker" ({ cls := "MarlStore$Checker", name := "countFailures", desc := "(II)I" } : Jvm.MethodName) ({ cls := "MarlStore$Checker", name := "countFailures", desc := "(II)I" } : Jvm.MethodName)) ∈ gW := gW_in 570 (by decide +kernel) (by decide +kernel)
theorem cv_X10_428 : gCv RX10 428 yX0_countFailures := ⟨tw_568, tw_569, tw_570⟩
theorem tw_623 : (Jvm.Cond.methodLink "MarlStore" (430 : Nat) ({ cls := "MarlStore$Query", name := "findIn", desc := "(LMarlStore$Walk;)J" } : Jvm.MethodName)) ∈ gW := gW_in 623 (by decide +kernel) (by decide +kernel)
theorem tw_624 : (Jvm.Cond.instanceMethod ({ cls := "MarlStore$Query", name := "findIn", desc := "(LMarlStore$Walk;)J" } : Jvm.MethodName)) ∈ gW := gW_in 624 (by decide +kernel) (by decide +kernel)
theorem tw_625 : (Jvm.Cond.selects "MarlStore$Query" ({ cls := "MarlStore$Query", name := "findIn", desc := "(LMarlStore$Walk;)J" } : Jvm.MethodName) ({ cls := "MarlStore$Query", name := "findIn", desc := "(LMarlStore$Walk;)J" } : Jvm.MethodName)) ∈ gW := gW_in 625 (by decide +kernel) (by decide +kernel)
theorem cv_X10_430 : gCv RX10 430 yX6_findIn := ⟨tw_623, tw_624, tw_625⟩
theorem tw_247 : (Jvm.Cond.fieldLink "MarlStore" (437 : Nat) "MarlStore$Walk" "count" "I") ∈ gW := gW_in 247 (by decide +kernel) (by decide +kernel)
theorem fl_X10_437 : gFl RX10 437 9 0 RX9 TX9 5 tyX9 := ⟨kl_9, by decide, tw_247⟩
theorem tw_462 : (Jvm.Cond.methodLink "MarlStore" (345 : Nat) ({ cls := "MarlStore$Walk", name := "valueAt", desc := "(I)LMarlStore$Value;" } : Jvm.MethodName)) ∈ gW := gW_in 462 (by decide +kernel) (by decide +kernel)
theorem tw_463 : (Jvm.Cond.instanceMethod ({ cls := "MarlStore$Walk", name := "valueAt", desc := "(I)LMarlStore$Value;" } : Jvm.MethodName)) ∈ gW := gW_in 463 (by decide +kernel) (by decide +kernel)
theorem tw_464 : (Jvm.Cond.selects "MarlStore$Walk" ({ cls := "MarlStore$Walk", name := "valueAt", desc := "(I)LMarlStore$Value;" } : Jvm.MethodName) ({ cls := "MarlStore$Walk", name := "valueAt", desc := "(I)LMarlStore$Value;" } : Jvm.MethodName)) ∈ gW := gW_in 464 (by decide +kernel) (by decide +kernel)
theorem cv_X10_345 : gCv RX10 345 yX9_valueAt := ⟨tw_462, tw_463, tw_464⟩
theorem tw_517 : (Jvm.Cond.methodLink "MarlStore" (438 : Nat) ({ cls := "MarlStore", name := "operations", desc := "(I)I" } : Jvm.MethodName)) ∈ gW := gW_in 517 (by decide +kernel) (by decide +kernel)
theorem tw_518 : (Jvm.Cond.instanceMethod ({ cls := "MarlStore", name := "operations", desc := "(I)I" } : Jvm.MethodName)) ∈ gW := gW_in 518 (by decide +kernel) (by decide +kernel)
theorem tw_519 : (Jvm.Cond.selects "MarlStore" ({ cls := "MarlStore", name := "operations", desc := "(I)I" } : Jvm.MethodName) ({ cls := "MarlStore", name := "operations", desc := "(I)I" } : Jvm.MethodName)) ∈ gW := gW_in 519 (by decide +kernel) (by decide +kernel)
theorem cv_X10_438 : gCv RX10 438 yX10_operations := ⟨tw_517, tw_518, tw_519⟩
theorem tw_526 : (Jvm.Cond.methodLink "MarlStore" (441 : Nat) ({ cls := "MarlStore", name := "ofOperation", desc := "(III)I" } : Jvm.MethodName)) ∈ gW := gW_in 526 (by decide +kernel) (by decide +kernel)
theorem tw_527 : (Jvm.Cond.instanceMethod ({ cls := "MarlStore", name := "ofOperation", desc := "(III)I" } : Jvm.MethodName)) ∈ gW := gW_in 527 (by decide +kernel) (by decide +kernel)
theorem tw_528 : (Jvm.Cond.selects "MarlStore" ({ cls := "MarlStore", name := "ofOperation", desc := "(III)I" } : Jvm.MethodName) ({ cls := "MarlStore", name := "ofOperation", desc := "(III)I" } : Jvm.MethodName)) ∈ gW := gW_in 528 (by decide +kernel) (by decide +kernel)
theorem cv_X10_441 : gCv RX10 441 yX10_ofOperation := ⟨tw_526, tw_527, tw_528⟩
theorem tw_275 : (Jvm.Cond.fieldLink "MarlStore$Checker" (9 : Nat) "MarlStore$Checker" "by" "[I") ∈ gW := gW_in 275 (by decide +kernel) (by decide +kernel)
theorem fl_X0_9 : gFl RX0 9 0 6 RX0 TX0 7 tyX0 := ⟨kl_0, by decide, tw_275⟩
theorem tw_273 : (Jvm.Cond.fieldLink "MarlStore$Checker" (15 : Nat) "MarlStore$Checker" "walk" "LMarlStore$Walk;") ∈ gW := gW_in 273 (by decide +kernel) (by decide +kernel)
theorem fl_X0_15 : gFl RX0 15 0 4 RX0 TX0 7 tyX0 := ⟨kl_0, by decide, tw_273⟩
theorem tw_274 : (Jvm.Cond.fieldLink "MarlStore$Checker" (19 : Nat) "MarlStore$Checker" "schemas" "[LMarlStore$Schema;") ∈ gW := gW_in 274 (by decide +kernel) (by decide +kernel)
theorem fl_X0_19 : gFl RX0 19 0 5 RX0 TX0 7 tyX0 := ⟨kl_0, by decide, tw_274⟩
theorem tw_271 : (Jvm.Cond.fieldLink "MarlStore$Checker" (23 : Nat) "MarlStore$Checker" "wanted" "I") ∈ gW := gW_in 271 (by decide +kernel) (by decide +kernel)
theorem fl_X0_23 : gFl RX0 23 0 2 RX0 TX0 7 tyX0 := ⟨kl_0, by decide, tw_271⟩
theorem tw_272 : (Jvm.Cond.fieldLink "MarlStore$Checker" (27 : Nat) "MarlStore$Checker" "count" "I") ∈ gW := gW_in 272 (by decide +kernel) (by decide +kernel)
theorem fl_X0_27 : gFl RX0 27 0 3 RX0 TX0 7 tyX0 := ⟨kl_0, by decide, tw_272⟩
theorem tw_246 : (Jvm.Cond.fieldLink "MarlStore$Checker" (30 : Nat) "MarlStore$Walk" "count" "I") ∈ gW := gW_in 246 (by decide +kernel) (by decide +kernel)
theorem fl_X0_30 : gFl RX0 30 9 0 RX9 TX9 5 tyX9 := ⟨kl_9, by decide, tw_246⟩
theorem tw_572 : (Jvm.Cond.methodLink "MarlStore$Checker" (33 : Nat) ({ cls := "MarlStore$Walk", name := "valueAt", desc := "(I)LMarlStore$Value;" } : Jvm.MethodName)) ∈ gW := gW_in 572 (by decide +kernel) (by decide +kernel)
theorem cv_X0_33 : gCv RX0 33 yX9_valueAt := ⟨tw_572, tw_463, tw_464⟩
theorem tw_573 : (Jvm.Cond.methodLink "MarlStore$Checker" (37 : Nat) ({ cls := "MarlStore$Walk", name := "above", desc := "(I)I" } : Jvm.MethodName)) ∈ gW := gW_in 573 (by decide +kernel) (by decide +kernel)
theorem tw_574 : (Jvm.Cond.instanceMethod ({ cls := "MarlStore$Walk", name := "above", desc := "(I)I" } : Jvm.MethodName)) ∈ gW := gW_in 574 (by decide +kernel) (by decide +kernel)
theorem tw_575 : (Jvm.Cond.selects "MarlStore$Walk" ({ cls := "MarlStore$Walk", name := "above", desc := "(I)I" } : Jvm.MethodName) ({ cls := "MarlStore$Walk", name := "above", desc := "(I)I" } : Jvm.MethodName)) ∈ gW := gW_in 575 (by decide +kernel) (by decide +kernel)
theorem cv_X0_37 : gCv RX0 37 yX9_above := ⟨tw_573, tw_574, tw_575⟩
theorem tw_577 : (Jvm.Cond.methodLink "MarlStore$Checker" (41 : Nat) ({ cls := "MarlStore$Checker", name := "schemaBelow", desc := "(II)I" } : Jvm.MethodName)) ∈ gW := gW_in 577 (by decide +kernel) (by decide +kernel)
theorem tw_579 : (Jvm.Cond.instanceMethod ({ cls := "MarlStore$Checker", name := "schemaBelow", desc := "(II)I" } : Jvm.MethodName)) ∈ gW := gW_in 579 (by decide +kernel) (by decide +kernel)
theorem tw_14 : (Jvm.Cond.selects "MarlStore$Checker" ({ cls := "MarlStore$Checker", name := "schemaBelow", desc := "(II)I" } : Jvm.MethodName) ({ cls := "MarlStore$Checker", name := "schemaBelow", desc := "(II)I" } : Jvm.MethodName)) ∈ gW := gW_in 14 (by decide +kernel) (by decide +kernel)
theorem cv_X0_41 : gCv RX0 41 yX0_schemaBelow := ⟨tw_577, tw_579, tw_14⟩
theorem tw_593 : (Jvm.Cond.methodLink "MarlStore$Checker" (45 : Nat) ({ cls := "MarlStore$Checker", name := "note", desc := "(II)V" } : Jvm.MethodName)) ∈ gW := gW_in 593 (by decide +kernel) (by decide +kernel)
theorem tw_595 : (Jvm.Cond.instanceMethod ({ cls := "MarlStore$Checker", name := "note", desc := "(II)V" } : Jvm.MethodName)) ∈ gW := gW_in 595 (by decide +kernel) (by decide +kernel)
theorem tw_16 : (Jvm.Cond.selects "MarlStore$Checker" ({ cls := "MarlStore$Checker", name := "note", desc := "(II)V" } : Jvm.MethodName) ({ cls := "MarlStore$Checker", name := "note", desc := "(II)V" } : Jvm.MethodName)) ∈ gW := gW_in 16 (by decide +kernel) (by decide +kernel)
theorem cv_X0_45 : gCv RX0 45 yX0_note := ⟨tw_593, tw_595, tw_16⟩
theorem tw_597 : (Jvm.Cond.methodLink "MarlStore$Checker" (49 : Nat) ({ cls := "MarlStore$Checker", name := "isOfKind", desc := "(ILMarlStore$Value;LMarlStore$Schema;)Z" } : Jvm.MethodName)) ∈ gW := gW_in 597 (by decide +kernel) (by decide +kernel)
theorem tw_599 : (Jvm.Cond.instanceMethod ({ cls := "MarlStore$Checker", name := "isOfKind", desc := "(ILMarlStore$Value;LMarlStore$Schema;)Z" } : Jvm.MethodName)) ∈ gW := gW_in 599 (by decide +kernel) (by decide +kernel)
theorem tw_17 : (Jvm.Cond.selects "MarlStore$Checker" ({ cls := "MarlStore$Checker", name := "isOfKind", desc := "(ILMarlStore$Value;LMarlStore$Schema;)Z" } : Jvm.MethodName) ({ cls := "MarlStore$Checker", name := "isOfKind", desc := "(ILMarlStore$Value;LMarlStore$Schema;)Z" } : Jvm.MethodName)) ∈ gW := gW_in 17 (by decide +kernel) (by decide +kernel)
theorem cv_X0_49 : gCv RX0 49 yX0_isOfKind := ⟨tw_597, tw_599, tw_17⟩
theorem tw_78 : (Jvm.Cond.fieldLink "MarlStore$Checker" (53 : Nat) "MarlStore$Value" "kind" "I") ∈ gW := gW_in 78 (by decide +kernel) (by decide +kernel)
theorem fl_X0_53 : gFl RX0 53 8 0 RX8 TX8 6 tyX8 := ⟨kl_8, by decide, tw_78⟩
theorem tw_581 : (Jvm.Cond.methodLink "MarlStore$Checker" (58 : Nat) ({ cls := "MarlStore$Walk", name := "stepTo", desc := "(I)I" } : Jvm.MethodName)) ∈ gW := gW_in 581 (by decide +kernel) (by decide +kernel)
theorem tw_582 : (Jvm.Cond.instanceMethod ({ cls := "MarlStore$Walk", name := "stepTo", desc := "(I)I" } : Jvm.MethodName)) ∈ gW := gW_in 582 (by decide +kernel) (by decide +kernel)
theorem tw_583 : (Jvm.Cond.selects "MarlStore$Walk" ({ cls := "MarlStore$Walk", name := "stepTo", desc := "(I)I" } : Jvm.MethodName) ({ cls := "MarlStore$Walk", name := "stepTo", desc := "(I)I" } : Jvm.MethodName)) ∈ gW := gW_in 583 (by decide +kernel) (by decide +kernel)
theorem cv_X0_58 : gCv RX0 58 yX9_stepTo := ⟨tw_581, tw_582, tw_583⟩
theorem tw_585 : (Jvm.Cond.methodLink "MarlStore$Checker" (61 : Nat) ({ cls := "MarlStore$Schema", name := "forChild", desc := "(II)I" } : Jvm.MethodName)) ∈ gW := gW_in 585 (by decide +kernel) (by decide +kernel)
theorem tw_586 : (Jvm.Cond.instanceMethod ({ cls := "MarlStore$Schema", name := "forChild", desc := "(II)I" } : Jvm.MethodName)) ∈ gW := gW_in 586 (by decide +kernel) (by decide +kernel)
theorem tw_587 : (Jvm.Cond.selects "MarlStore$Schema" ({ cls := "MarlStore$Schema", name := "forChild", desc := "(II)I" } : Jvm.MethodName) ({ cls := "MarlStore$Schema", name := "forChild", desc := "(II)I" } : Jvm.MethodName)) ∈ gW := gW_in 587 (by decide +kernel) (by decide +kernel)
theorem cv_X0_61 : gCv RX0 61 yX7_forChild := ⟨tw_585, tw_586, tw_587⟩
theorem tw_200 : (Jvm.Cond.fieldLink "MarlStore$Checker" (66 : Nat) "MarlStore$Schema" "kinds" "I") ∈ gW := gW_in 200 (by decide +kernel) (by decide +kernel)
theorem fl_X0_66 : gFl RX0 66 7 0 RX7 TX7 11 tyX7 := ⟨kl_7, by decide, tw_200⟩
theorem tw_82 : (Jvm.Cond.fieldLink "MarlStore$Checker" (69 : Nat) "MarlStore$Value" "number" "I") ∈ gW := gW_in 82 (by decide +kernel) (by decide +kernel)
theorem fl_X0_69 : gFl RX0 69 8 1 RX8 TX8 6 tyX8 := ⟨kl_8, by decide, tw_82⟩
theorem tw_202 : (Jvm.Cond.fieldLink "MarlStore$Checker" (72 : Nat) "MarlStore$Schema" "low" "I") ∈ gW := gW_in 202 (by decide +kernel) (by decide +kernel)
theorem fl_X0_72 : gFl RX0 72 7 1 RX7 TX7 11 tyX7 := ⟨kl_7, by decide, tw_202⟩
theorem tw_204 : (Jvm.Cond.fieldLink "MarlStore$Checker" (75 : Nat) "MarlStore$Schema" "high" "I") ∈ gW := gW_in 204 (by decide +kernel) (by decide +kernel)
theorem fl_X0_75 : gFl RX0 75 7 2 RX7 TX7 11 tyX7 := ⟨kl_7, by decide, tw_204⟩
theorem tw_601 : (Jvm.Cond.methodLink "MarlStore$Checker" (78 : Nat) ({ cls := "MarlStore$Value", name := "width", desc := "()I" } : Jvm.MethodName)) ∈ gW := gW_in 601 (by decide +kernel) (by decide +kernel)
theorem cv_X0_78 : gCv RX0 78 yX8_width := ⟨tw_601, tw_451, tw_452⟩
theorem tw_205 : (Jvm.Cond.fieldLink "MarlStore$Checker" (82 : Nat) "MarlStore$Schema" "least" "I") ∈ gW := gW_in 205 (by decide +kernel) (by decide +kernel)
theorem fl_X0_82 : gFl RX0 82 7 3 RX7 TX7 11 tyX7 := ⟨kl_7, by decide, tw_205⟩
theorem tw_207 : (Jvm.Cond.fieldLink "MarlStore$Checker" (85 : Nat) "MarlStore$Schema" "most" "I") ∈ gW := gW_in 207 (by decide +kernel) (by decide +kernel)
theorem fl_X0_85 : gFl RX0 85 7 4 RX7 TX7 11 tyX7 := ⟨kl_7, by decide, tw_207⟩
theorem tw_602 : (Jvm.Cond.methodLink "MarlStore$Checker" (88 : Nat) ({ cls := "MarlStore$Schema", name := "countMissing", desc := "(LMarlStore$Value;)I" } : Jvm.MethodName)) ∈ gW := gW_in 602 (by decide +kernel) (by decide +kernel)
theorem tw_603 : (Jvm.Cond.instanceMethod ({ cls := "MarlStore$Schema", name := "countMissing", desc := "(LMarlStore$Value;)I" } : Jvm.MethodName)) ∈ gW := gW_in 603 (by decide +kernel) (by decide +kernel)
theorem tw_604 : (Jvm.Cond.selects "MarlStore$Schema" ({ cls := "MarlStore$Schema", name := "countMissing", desc := "(LMarlStore$Value;)I" } : Jvm.MethodName) ({ cls := "MarlStore$Schema", name := "countMissing", desc := "(LMarlStore$Value;)I" } : Jvm.MethodName)) ∈ gW := gW_in 604 (by decide +kernel) (by decide +kernel)
theorem cv_X0_88 : gCv RX0 88 yX7_countMissing := ⟨tw_602, tw_603, tw_604⟩
theorem tw_269 : (Jvm.Cond.fieldLink "MarlStore$Checker" (92 : Nat) "MarlStore$Checker" "wantedPlace" "I") ∈ gW := gW_in 269 (by decide +kernel) (by decide +kernel)
theorem fl_X0_92 : gFl RX0 92 0 0 RX0 TX0 7 tyX0 := ⟨kl_0, by decide, tw_269⟩
theorem tw_270 : (Jvm.Cond.fieldLink "MarlStore$Checker" (95 : Nat) "MarlStore$Checker" "wantedCode" "I") ∈ gW := gW_in 270 (by decide +kernel) (by decide +kernel)
theorem fl_X0_95 : gFl RX0 95 0 1 RX0 TX0 7 tyX0 := ⟨kl_0, by decide, tw_270⟩
theorem tw_179 : (Jvm.Cond.fieldLink "MarlStore$Differ" (9 : Nat) "MarlStore$Differ" "table" "[I") ∈ gW := gW_in 179 (by decide +kernel) (by decide +kernel)
theorem fl_X1_9 : gFl RX1 9 1 0 RX1 TX1 4 tyX1 := ⟨kl_1, by decide, tw_179⟩
theorem tw_180 : (Jvm.Cond.fieldLink "MarlStore$Differ" (15 : Nat) "MarlStore$Differ" "path" "[I") ∈ gW := gW_in 180 (by decide +kernel) (by decide +kernel)
theorem fl_X1_15 : gFl RX1 15 1 1 RX1 TX1 4 tyX1 := ⟨kl_1, by decide, tw_180⟩
theorem tw_178 : (Jvm.Cond.classLink "MarlStore$Differ" (18 : Nat) "MarlStore$Operation") ∈ gW := gW_in 178 (by decide +kernel) (by decide +kernel)
theorem tw_861 : (Jvm.Cond.instantiable "MarlStore$Operation" (4 : Nat)) ∈ gW := gW_in 861 (by decide +kernel) (by decide +kernel)
theorem nw_X1_18 : gNw RX1 18 3 RX3 TX3 4 tyX3 := ⟨kl_3, tw_178, tw_861, tw_54⟩
theorem tw_181 : (Jvm.Cond.fieldLink "MarlStore$Differ" (20 : Nat) "MarlStore$Differ" "written" "[LMarlStore$Operation;") ∈ gW := gW_in 181 (by decide +kernel) (by decide +kernel)
theorem fl_X1_20 : gFl RX1 20 1 2 RX1 TX1 4 tyX1 := ⟨kl_1, by decide, tw_181⟩
theorem tw_476 : (Jvm.Cond.methodLink "MarlStore$Differ" (24 : Nat) ({ cls := "MarlStore$Differ", name := "between", desc := "(LMarlStore$Value;LMarlStore$Value;II)I" } : Jvm.MethodName)) ∈ gW := gW_in 476 (by decide +kernel) (by decide +kernel)
theorem tw_478 : (Jvm.Cond.instanceMethod ({ cls := "MarlStore$Differ", name := "between", desc := "(LMarlStore$Value;LMarlStore$Value;II)I" } : Jvm.MethodName)) ∈ gW := gW_in 478 (by decide +kernel) (by decide +kernel)
theorem tw_4 : (Jvm.Cond.selects "MarlStore$Differ" ({ cls := "MarlStore$Differ", name := "between", desc := "(LMarlStore$Value;LMarlStore$Value;II)I" } : Jvm.MethodName) ({ cls := "MarlStore$Differ", name := "between", desc := "(LMarlStore$Value;LMarlStore$Value;II)I" } : Jvm.MethodName)) ∈ gW := gW_in 4 (by decide +kernel) (by decide +kernel)
theorem cv_X1_24 : gCv RX1 24 yX1_between := ⟨tw_476, tw_478, tw_4⟩
theorem tw_77 : (Jvm.Cond.fieldLink "MarlStore$Differ" (28 : Nat) "MarlStore$Value" "kind" "I") ∈ gW := gW_in 77 (by decide +kernel) (by decide +kernel)
theorem fl_X1_28 : gFl RX1 28 8 0 RX8 TX8 6 tyX8 := ⟨kl_8, by decide, tw_77⟩
theorem tw_480 : (Jvm.Cond.methodLink "MarlStore$Differ" (34 : Nat) ({ cls := "MarlStore$Differ", name := "fillTable", desc := "(LMarlStore$Value;LMarlStore$Value;II)Z" } : Jvm.MethodName)) ∈ gW := gW_in 480 (by decide +kernel) (by decide +kernel)
theorem tw_482 : (Jvm.Cond.instanceMethod ({ cls := "MarlStore$Differ", name := "fillTable", desc := "(LMarlStore$Value;LMarlStore$Value;II)Z" } : Jvm.MethodName)) ∈ gW := gW_in 482 (by decide +kernel) (by decide +kernel)
theorem tw_5 : (Jvm.Cond.selects "MarlStore$Differ" ({ cls := "MarlStore$Differ", name := "fillTable", desc := "(LMarlStore$Value;LMarlStore$Value;II)Z" } : Jvm.MethodName) ({ cls := "MarlStore$Differ", name := "fillTable", desc := "(LMarlStore$Value;LMarlStore$Value;II)Z" } : Jvm.MethodName)) ∈ gW := gW_in 5 (by decide +kernel) (by decide +kernel)
theorem cv_X1_34 : gCv RX1 34 yX1_fillTable := ⟨tw_480, tw_482, tw_5⟩
theorem tw_91 : (Jvm.Cond.fieldLink "MarlStore$Differ" (38 : Nat) "MarlStore$Value" "size" "I") ∈ gW := gW_in 91 (by decide +kernel) (by decide +kernel)
theorem fl_X1_38 : gFl RX1 38 8 4 RX8 TX8 6 tyX8 := ⟨kl_8, by decide, tw_91⟩
theorem tw_505 : (Jvm.Cond.methodLink "MarlStore$Differ" (41 : Nat) ({ cls := "MarlStore$Differ", name := "betweenObjects", desc := "(LMarlStore$Value;LMarlStore$Value;II)I" } : Jvm.MethodName)) ∈ gW := gW_in 505 (by decide +kernel) (by decide +kernel)
theorem tw_507 : (Jvm.Cond.instanceMethod ({ cls := "MarlStore$Differ", name := "betweenObjects", desc := "(LMarlStore$Value;LMarlStore$Value;II)I" } : Jvm.MethodName)) ∈ gW := gW_in 507 (by decide +kernel) (by decide +kernel)
theorem tw_9 : (Jvm.Cond.selects "MarlStore$Differ" ({ cls := "MarlStore$Differ", name := "betweenObjects", desc := "(LMarlStore$Value;LMarlStore$Value;II)I" } : Jvm.MethodName) ({ cls := "MarlStore$Differ", name := "betweenObjects", desc := "(LMarlStore$Value;LMarlStore$Value;II)I" } : Jvm.MethodName)) ∈ gW := gW_in 9 (by decide +kernel) (by decide +kernel)
theorem cv_X1_41 : gCv RX1 41 yX1_betweenObjects := ⟨tw_505, tw_507, tw_9⟩
theorem tw_81 : (Jvm.Cond.fieldLink "MarlStore$Differ" (44 : Nat) "MarlStore$Value" "number" "I") ∈ gW := gW_in 81 (by decide +kernel) (by decide +kernel)
theorem fl_X1_44 : gFl RX1 44 8 1 RX8 TX8 6 tyX8 := ⟨kl_8, by decide, tw_81⟩
theorem tw_484 : (Jvm.Cond.methodLink "MarlStore$Differ" (47 : Nat) ({ cls := "MarlStore$Value", name := "width", desc := "()I" } : Jvm.MethodName)) ∈ gW := gW_in 484 (by decide +kernel) (by decide +kernel)
theorem cv_X1_47 : gCv RX1 47 yX8_width := ⟨tw_484, tw_451, tw_452⟩
theorem tw_509 : (Jvm.Cond.methodLink "MarlStore$Differ" (51 : Nat) ({ cls := "MarlStore$Differ", name := "order", desc := "(LMarlStore$Value;ILMarlStore$Value;I)I" } : Jvm.MethodName)) ∈ gW := gW_in 509 (by decide +kernel) (by decide +kernel)
theorem tw_510 : (Jvm.Cond.static ({ cls := "MarlStore$Differ", name := "order", desc := "(LMarlStore$Value;ILMarlStore$Value;I)I" } : Jvm.MethodName)) ∈ gW := gW_in 510 (by decide +kernel) (by decide +kernel)
theorem cs_X1_51 : gCs RX1 51 yX1_order := ⟨tw_509, tw_510⟩
theorem tw_492 : (Jvm.Cond.methodLink "MarlStore$Differ" (55 : Nat) ({ cls := "MarlStore$Value", name := "partAt", desc := "(I)LMarlStore$Value;" } : Jvm.MethodName)) ∈ gW := gW_in 492 (by decide +kernel) (by decide +kernel)
theorem cv_X1_55 : gCv RX1 55 yX8_partAt := ⟨tw_492, tw_455, tw_456⟩
theorem tw_489 : (Jvm.Cond.methodLink "MarlStore$Differ" (59 : Nat) ({ cls := "MarlStore$Differ", name := "sizeAt", desc := "(LMarlStore$Value;I)I" } : Jvm.MethodName)) ∈ gW := gW_in 489 (by decide +kernel) (by decide +kernel)
theorem tw_490 : (Jvm.Cond.static ({ cls := "MarlStore$Differ", name := "sizeAt", desc := "(LMarlStore$Value;I)I" } : Jvm.MethodName)) ∈ gW := gW_in 490 (by decide +kernel) (by decide +kernel)
theorem cs_X1_59 : gCs RX1 59 yX1_sizeAt := ⟨tw_489, tw_490⟩
theorem tw_512 : (Jvm.Cond.methodLink "MarlStore$Differ" (63 : Nat) ({ cls := "MarlStore$Value", name := "stepOf", desc := "(I)I" } : Jvm.MethodName)) ∈ gW := gW_in 512 (by decide +kernel) (by decide +kernel)
theorem cv_X1_63 : gCv RX1 63 yX8_stepOf := ⟨tw_512, tw_459, tw_460⟩
theorem tw_485 : (Jvm.Cond.methodLink "MarlStore$Differ" (67 : Nat) ({ cls := "MarlStore$Differ", name := "leastFrom", desc := "(LMarlStore$Value;ILMarlStore$Value;III)I" } : Jvm.MethodName)) ∈ gW := gW_in 485 (by decide +kernel) (by decide +kernel)
theorem tw_487 : (Jvm.Cond.instanceMethod ({ cls := "MarlStore$Differ", name := "leastFrom", desc := "(LMarlStore$Value;ILMarlStore$Value;III)I" } : Jvm.MethodName)) ∈ gW := gW_in 487 (by decide +kernel) (by decide +kernel)
theorem tw_6 : (Jvm.Cond.selects "MarlStore$Differ" ({ cls := "MarlStore$Differ", name := "leastFrom", desc := "(LMarlStore$Value;ILMarlStore$Value;III)I" } : Jvm.MethodName) ({ cls := "MarlStore$Differ", name := "leastFrom", desc := "(LMarlStore$Value;ILMarlStore$Value;III)I" } : Jvm.MethodName)) ∈ gW := gW_in 6 (by decide +kernel) (by decide +kernel)
theorem cv_X1_67 : gCv RX1 67 yX1_leastFrom := ⟨tw_485, tw_487, tw_6⟩
theorem tw_493 : (Jvm.Cond.methodLink "MarlStore$Differ" (71 : Nat) ({ cls := "MarlStore$Differ", name := "cell", desc := "(LMarlStore$Value;ILMarlStore$Value;II)I" } : Jvm.MethodName)) ∈ gW := gW_in 493 (by decide +kernel) (by decide +kernel)
theorem tw_495 : (Jvm.Cond.instanceMethod ({ cls := "MarlStore$Differ", name := "cell", desc := "(LMarlStore$Value;ILMarlStore$Value;II)I" } : Jvm.MethodName)) ∈ gW := gW_in 495 (by decide +kernel) (by decide +kernel)
theorem tw_7 : (Jvm.Cond.selects "MarlStore$Differ" ({ cls := "MarlStore$Differ", name := "cell", desc := "(LMarlStore$Value;ILMarlStore$Value;II)I" } : Jvm.MethodName) ({ cls := "MarlStore$Differ", name := "cell", desc := "(LMarlStore$Value;ILMarlStore$Value;II)I" } : Jvm.MethodName)) ∈ gW := gW_in 7 (by decide +kernel) (by decide +kernel)
theorem cv_X1_71 : gCv RX1 71 yX1_cell := ⟨tw_493, tw_495, tw_7⟩
theorem tw_497 : (Jvm.Cond.methodLink "MarlStore$Differ" (75 : Nat) ({ cls := "java/lang/Math", name := "min", desc := "(II)I" } : Jvm.MethodName)) ∈ gW := gW_in 497 (by decide +kernel) (by decide +kernel)
theorem tw_444 : (Jvm.Cond.static ({ cls := "java/lang/Math", name := "min", desc := "(II)I" } : Jvm.MethodName)) ∈ gW := gW_in 444 (by decide +kernel) (by decide +kernel)
theorem cs_X1_75 : gCs RX1 75 yJ9_min_7cf53 := ⟨tw_497, tw_444⟩
theorem tw_498 : (Jvm.Cond.methodLink "MarlStore$Differ" (81 : Nat) ({ cls := "MarlStore$Differ", name := "pairedFrom", desc := "(LMarlStore$Value;ILMarlStore$Value;III)I" } : Jvm.MethodName)) ∈ gW := gW_in 498 (by decide +kernel) (by decide +kernel)
theorem tw_500 : (Jvm.Cond.instanceMethod ({ cls := "MarlStore$Differ", name := "pairedFrom", desc := "(LMarlStore$Value;ILMarlStore$Value;III)I" } : Jvm.MethodName)) ∈ gW := gW_in 500 (by decide +kernel) (by decide +kernel)
theorem tw_8 : (Jvm.Cond.selects "MarlStore$Differ" ({ cls := "MarlStore$Differ", name := "pairedFrom", desc := "(LMarlStore$Value;ILMarlStore$Value;III)I" } : Jvm.MethodName) ({ cls := "MarlStore$Differ", name := "pairedFrom", desc := "(LMarlStore$Value;ILMarlStore$Value;III)I" } : Jvm.MethodName)) ∈ gW := gW_in 8 (by decide +kernel) (by decide +kernel)
theorem cv_X1_81 : gCv RX1 81 yX1_pairedFrom := ⟨tw_498, tw_500, tw_8⟩
theorem tw_502 : (Jvm.Cond.methodLink "MarlStore$Differ" (84 : Nat) ({ cls := "MarlStore$Differ", name := "freeBehind", desc := "(LMarlStore$Value;LMarlStore$Value;I)I" } : Jvm.MethodName)) ∈ gW := gW_in 502 (by decide +kernel) (by decide +kernel)
theorem tw_503 : (Jvm.Cond.static ({ cls := "MarlStore$Differ", name := "freeBehind", desc := "(LMarlStore$Value;LMarlStore$Value;I)I" } : Jvm.MethodName)) ∈ gW := gW_in 503 (by decide +kernel) (by decide +kernel)
theorem cs_X1_84 : gCs RX1 84 yX1_freeBehind := ⟨tw_502, tw_503⟩
theorem tw_182 : (Jvm.Cond.fieldLink "MarlStore$Differ" (88 : Nat) "MarlStore$Differ" "count" "I") ∈ gW := gW_in 182 (by decide +kernel) (by decide +kernel)
theorem fl_X1_88 : gFl RX1 88 1 3 RX1 TX1 4 tyX1 := ⟨kl_1, by decide, tw_182⟩
theorem tw_838 : (Jvm.Cond.methodLink "MarlStore$Differ" (91 : Nat) ({ cls := "MarlStore$Differ", name := "writeAt", desc := "(LMarlStore$Value;LMarlStore$Value;II)V" } : Jvm.MethodName)) ∈ gW := gW_in 838 (by decide +kernel) (by decide +kernel)
theorem tw_840 : (Jvm.Cond.instanceMethod ({ cls := "MarlStore$Differ", name := "writeAt", desc := "(LMarlStore$Value;LMarlStore$Value;II)V" } : Jvm.MethodName)) ∈ gW := gW_in 840 (by decide +kernel) (by decide +kernel)
theorem tw_27 : (Jvm.Cond.selects "MarlStore$Differ" ({ cls := "MarlStore$Differ", name := "writeAt", desc := "(LMarlStore$Value;LMarlStore$Value;II)V" } : Jvm.MethodName) ({ cls := "MarlStore$Differ", name := "writeAt", desc := "(LMarlStore$Value;LMarlStore$Value;II)V" } : Jvm.MethodName)) ∈ gW := gW_in 27 (by decide +kernel) (by decide +kernel)
theorem cv_X1_91 : gCv RX1 91 yX1_writeAt := ⟨tw_838, tw_840, tw_27⟩
theorem tw_842 : (Jvm.Cond.methodLink "MarlStore$Differ" (95 : Nat) ({ cls := "MarlStore$Value", name := "isSameAs", desc := "(LMarlStore$Value;)Z" } : Jvm.MethodName)) ∈ gW := gW_in 842 (by decide +kernel) (by decide +kernel)
theorem tw_843 : (Jvm.Cond.instanceMethod ({ cls := "MarlStore$Value", name := "isSameAs", desc := "(LMarlStore$Value;)Z" } : Jvm.MethodName)) ∈ gW := gW_in 843 (by decide +kernel) (by decide +kernel)
theorem tw_844 : (Jvm.Cond.selects "MarlStore$Value" ({ cls := "MarlStore$Value", name := "isSameAs", desc := "(LMarlStore$Value;)Z" } : Jvm.MethodName) ({ cls := "MarlStore$Value", name := "isSameAs", desc := "(LMarlStore$Value;)Z" } : Jvm.MethodName)) ∈ gW := gW_in 844 (by decide +kernel) (by decide +kernel)
theorem cv_X1_95 : gCv RX1 95 yX8_isSameAs := ⟨tw_842, tw_843, tw_844⟩
theorem tw_849 : (Jvm.Cond.methodLink "MarlStore$Differ" (99 : Nat) ({ cls := "MarlStore$Differ", name := "writeLists", desc := "(LMarlStore$Value;LMarlStore$Value;II)V" } : Jvm.MethodName)) ∈ gW := gW_in 849 (by decide +kernel) (by decide +kernel)
theorem tw_851 : (Jvm.Cond.instanceMethod ({ cls := "MarlStore$Differ", name := "writeLists", desc := "(LMarlStore$Value;LMarlStore$Value;II)V" } : Jvm.MethodName)) ∈ gW := gW_in 851 (by decide +kernel) (by decide +kernel)
theorem tw_28 : (Jvm.Cond.selects "MarlStore$Differ" ({ cls := "MarlStore$Differ", name := "writeLists", desc := "(LMarlStore$Value;LMarlStore$Value;II)V" } : Jvm.MethodName) ({ cls := "MarlStore$Differ", name := "writeLists", desc := "(LMarlStore$Value;LMarlStore$Value;II)V" } : Jvm.MethodName)) ∈ gW := gW_in 28 (by decide +kernel) (by decide +kernel)
theorem cv_X1_99 : gCv RX1 99 yX1_writeLists := ⟨tw_849, tw_851, tw_28⟩
theorem tw_897 : (Jvm.Cond.methodLink "MarlStore$Differ" (102 : Nat) ({ cls := "MarlStore$Differ", name := "writeObjects", desc := "(LMarlStore$Value;LMarlStore$Value;II)V" } : Jvm.MethodName)) ∈ gW := gW_in 897 (by decide +kernel) (by decide +kernel)
theorem tw_899 : (Jvm.Cond.instanceMethod ({ cls := "MarlStore$Differ", name := "writeObjects", desc := "(LMarlStore$Value;LMarlStore$Value;II)V" } : Jvm.MethodName)) ∈ gW := gW_in 899 (by decide +kernel) (by decide +kernel)
theorem tw_31 : (Jvm.Cond.selects "MarlStore$Differ" ({ cls := "MarlStore$Differ", name := "writeObjects", desc := "(LMarlStore$Value;LMarlStore$Value;II)V" } : Jvm.MethodName) ({ cls := "MarlStore$Differ", name := "writeObjects", desc := "(LMarlStore$Value;LMarlStore$Value;II)V" } : Jvm.MethodName)) ∈ gW := gW_in 31 (by decide +kernel) (by decide +kernel)
theorem cv_X1_102 : gCv RX1 102 yX1_writeObjects := ⟨tw_897, tw_899, tw_31⟩
theorem tw_857 : (Jvm.Cond.methodLink "MarlStore$Differ" (105 : Nat) ({ cls := "MarlStore$Differ", name := "note", desc := "(IIILMarlStore$Value;)V" } : Jvm.MethodName)) ∈ gW := gW_in 857 (by decide +kernel) (by decide +kernel)
theorem tw_859 : (Jvm.Cond.instanceMethod ({ cls := "MarlStore$Differ", name := "note", desc := "(IIILMarlStore$Value;)V" } : Jvm.MethodName)) ∈ gW := gW_in 859 (by decide +kernel) (by decide +kernel)
theorem tw_30 : (Jvm.Cond.selects "MarlStore$Differ" ({ cls := "MarlStore$Differ", name := "note", desc := "(IIILMarlStore$Value;)V" } : Jvm.MethodName) ({ cls := "MarlStore$Differ", name := "note", desc := "(IIILMarlStore$Value;)V" } : Jvm.MethodName)) ∈ gW := gW_in 30 (by decide +kernel) (by decide +kernel)
theorem cv_X1_105 : gCv RX1 105 yX1_note := ⟨tw_857, tw_859, tw_30⟩
theorem tw_853 : (Jvm.Cond.methodLink "MarlStore$Differ" (109 : Nat) ({ cls := "MarlStore$Differ", name := "writeBelow", desc := "(LMarlStore$Value;LMarlStore$Value;III)V" } : Jvm.MethodName)) ∈ gW := gW_in 853 (by decide +kernel) (by decide +kernel)
theorem tw_855 : (Jvm.Cond.instanceMethod ({ cls := "MarlStore$Differ", name := "writeBelow", desc := "(LMarlStore$Value;LMarlStore$Value;III)V" } : Jvm.MethodName)) ∈ gW := gW_in 855 (by decide +kernel) (by decide +kernel)
theorem tw_29 : (Jvm.Cond.selects "MarlStore$Differ" ({ cls := "MarlStore$Differ", name := "writeBelow", desc := "(LMarlStore$Value;LMarlStore$Value;III)V" } : Jvm.MethodName) ({ cls := "MarlStore$Differ", name := "writeBelow", desc := "(LMarlStore$Value;LMarlStore$Value;III)V" } : Jvm.MethodName)) ∈ gW := gW_in 29 (by decide +kernel) (by decide +kernel)
theorem cv_X1_109 : gCv RX1 109 yX1_writeBelow := ⟨tw_853, tw_855, tw_29⟩
theorem tw_862 : (Jvm.Cond.methodLink "MarlStore$Differ" (113 : Nat) ({ cls := "java/util/Arrays", name := "copyOf", desc := "([II)[I" } : Jvm.MethodName)) ∈ gW := gW_in 862 (by decide +kernel) (by decide +kernel)
theorem tw_863 : (Jvm.Cond.static ({ cls := "java/util/Arrays", name := "copyOf", desc := "([II)[I" } : Jvm.MethodName)) ∈ gW := gW_in 863 (by decide +kernel) (by decide +kernel)
theorem cs_X1_113 : gCs RX1 113 yJ7_copyOf_59c91 := ⟨tw_862, tw_863⟩
theorem tw_876 : (Jvm.Cond.methodLink "MarlStore$Differ" (119 : Nat) ({ cls := "MarlStore$Operation", name := "<init>", desc := "(I[IILMarlStore$Value;)V" } : Jvm.MethodName)) ∈ gW := gW_in 876 (by decide +kernel) (by decide +kernel)
theorem tw_877 : (Jvm.Cond.instanceMethod ({ cls := "MarlStore$Operation", name := "<init>", desc := "(I[IILMarlStore$Value;)V" } : Jvm.MethodName)) ∈ gW := gW_in 877 (by decide +kernel) (by decide +kernel)
theorem ci_X1_119 : gCi RX1 119 yX3_init := ⟨tw_876, tw_877, by decide +kernel⟩
theorem tw_136 : (Jvm.Cond.classLink "MarlStore$Editor" (9 : Nat) "MarlStore$Value") ∈ gW := gW_in 136 (by decide +kernel) (by decide +kernel)
theorem nw_X2_9 : gNw RX2 9 8 RX8 TX8 6 tyX8 := ⟨kl_8, tw_136, tw_67, tw_38⟩
theorem tw_142 : (Jvm.Cond.fieldLink "MarlStore$Editor" (11 : Nat) "MarlStore$Editor" "passed" "[LMarlStore$Value;") ∈ gW := gW_in 142 (by decide +kernel) (by decide +kernel)
theorem fl_X2_11 : gFl RX2 11 2 3 RX2 TX2 5 tyX2 := ⟨kl_2, by decide, tw_142⟩
theorem tw_143 : (Jvm.Cond.fieldLink "MarlStore$Editor" (17 : Nat) "MarlStore$Editor" "places" "[I") ∈ gW := gW_in 143 (by decide +kernel) (by decide +kernel)
theorem fl_X2_17 : gFl RX2 17 2 4 RX2 TX2 5 tyX2 := ⟨kl_2, by decide, tw_143⟩
theorem tw_137 : (Jvm.Cond.fieldLink "MarlStore$Editor" (21 : Nat) "MarlStore$Editor" "whole" "LMarlStore$Value;") ∈ gW := gW_in 137 (by decide +kernel) (by decide +kernel)
theorem fl_X2_21 : gFl RX2 21 2 0 RX2 TX2 5 tyX2 := ⟨kl_2, by decide, tw_137⟩
theorem tw_139 : (Jvm.Cond.fieldLink "MarlStore$Editor" (25 : Nat) "MarlStore$Editor" "taken" "LMarlStore$Value;") ∈ gW := gW_in 139 (by decide +kernel) (by decide +kernel)
theorem fl_X2_25 : gFl RX2 25 2 1 RX2 TX2 5 tyX2 := ⟨kl_2, by decide, tw_139⟩
theorem tw_89 : (Jvm.Cond.fieldLink "MarlStore$Editor" (28 : Nat) "MarlStore$Value" "size" "I") ∈ gW := gW_in 89 (by decide +kernel) (by decide +kernel)
theorem fl_X2_28 : gFl RX2 28 8 4 RX8 TX8 6 tyX8 := ⟨kl_8, by decide, tw_89⟩
theorem tw_94 : (Jvm.Cond.fieldLink "MarlStore$Editor" (32 : Nat) "MarlStore$Value" "depth" "I") ∈ gW := gW_in 94 (by decide +kernel) (by decide +kernel)
theorem fl_X2_32 : gFl RX2 32 8 5 RX8 TX8 6 tyX8 := ⟨kl_8, by decide, tw_94⟩
theorem tw_883 : (Jvm.Cond.fieldLink "MarlStore$Editor" (35 : Nat) "MarlStore$Operation" "path" "[I") ∈ gW := gW_in 883 (by decide +kernel) (by decide +kernel)
theorem fl_X2_35 : gFl RX2 35 3 1 RX3 TX3 4 tyX3 := ⟨kl_3, by decide, tw_883⟩
theorem tw_881 : (Jvm.Cond.fieldLink "MarlStore$Editor" (40 : Nat) "MarlStore$Operation" "code" "I") ∈ gW := gW_in 881 (by decide +kernel) (by decide +kernel)
theorem fl_X2_40 : gFl RX2 40 3 0 RX3 TX3 4 tyX3 := ⟨kl_3, by decide, tw_881⟩
theorem tw_885 : (Jvm.Cond.fieldLink "MarlStore$Editor" (43 : Nat) "MarlStore$Operation" "step" "I") ∈ gW := gW_in 885 (by decide +kernel) (by decide +kernel)
theorem fl_X2_43 : gFl RX2 43 3 2 RX3 TX3 4 tyX3 := ⟨kl_3, by decide, tw_885⟩
theorem tw_887 : (Jvm.Cond.fieldLink "MarlStore$Editor" (46 : Nat) "MarlStore$Operation" "value" "LMarlStore$Value;") ∈ gW := gW_in 887 (by decide +kernel) (by decide +kernel)
theorem fl_X2_46 : gFl RX2 46 3 3 RX3 TX3 4 tyX3 := ⟨kl_3, by decide, tw_887⟩
theorem tw_931 : (Jvm.Cond.methodLink "MarlStore$Editor" (49 : Nat) ({ cls := "MarlStore$Editor", name := "addAt", desc := "([IIILMarlStore$Value;)Z" } : Jvm.MethodName)) ∈ gW := gW_in 931 (by decide +kernel) (by decide +kernel)
theorem cv_X2_49 : gCv RX2 49 yX2_addAt := ⟨tw_931, tw_802, tw_803⟩
theorem tw_932 : (Jvm.Cond.methodLink "MarlStore$Editor" (53 : Nat) ({ cls := "MarlStore$Editor", name := "dropAt", desc := "([III)Z" } : Jvm.MethodName)) ∈ gW := gW_in 932 (by decide +kernel) (by decide +kernel)
theorem cv_X2_53 : gCv RX2 53 yX2_dropAt := ⟨tw_932, tw_823, tw_824⟩
theorem tw_933 : (Jvm.Cond.methodLink "MarlStore$Editor" (57 : Nat) ({ cls := "MarlStore$Editor", name := "putAt", desc := "([IILMarlStore$Value;)Z" } : Jvm.MethodName)) ∈ gW := gW_in 933 (by decide +kernel) (by decide +kernel)
theorem cv_X2_57 : gCv RX2 57 yX2_putAt := ⟨tw_933, tw_755, tw_756⟩
theorem tw_934 : (Jvm.Cond.methodLink "MarlStore$Editor" (61 : Nat) ({ cls := "MarlStore$Editor", name := "testAt", desc := "([IILMarlStore$Value;)Z" } : Jvm.MethodName)) ∈ gW := gW_in 934 (by decide +kernel) (by decide +kernel)
theorem tw_936 : (Jvm.Cond.instanceMethod ({ cls := "MarlStore$Editor", name := "testAt", desc := "([IILMarlStore$Value;)Z" } : Jvm.MethodName)) ∈ gW := gW_in 936 (by decide +kernel) (by decide +kernel)
theorem tw_34 : (Jvm.Cond.selects "MarlStore$Editor" ({ cls := "MarlStore$Editor", name := "testAt", desc := "([IILMarlStore$Value;)Z" } : Jvm.MethodName) ({ cls := "MarlStore$Editor", name := "testAt", desc := "([IILMarlStore$Value;)Z" } : Jvm.MethodName)) ∈ gW := gW_in 34 (by decide +kernel) (by decide +kernel)
theorem cv_X2_61 : gCv RX2 61 yX2_testAt := ⟨tw_934, tw_936, tw_34⟩
theorem tw_758 : (Jvm.Cond.methodLink "MarlStore$Editor" (64 : Nat) ({ cls := "MarlStore$Editor", name := "follow", desc := "([II)LMarlStore$Value;" } : Jvm.MethodName)) ∈ gW := gW_in 758 (by decide +kernel) (by decide +kernel)
theorem tw_760 : (Jvm.Cond.instanceMethod ({ cls := "MarlStore$Editor", name := "follow", desc := "([II)LMarlStore$Value;" } : Jvm.MethodName)) ∈ gW := gW_in 760 (by decide +kernel) (by decide +kernel)
theorem tw_23 : (Jvm.Cond.selects "MarlStore$Editor" ({ cls := "MarlStore$Editor", name := "follow", desc := "([II)LMarlStore$Value;" } : Jvm.MethodName) ({ cls := "MarlStore$Editor", name := "follow", desc := "([II)LMarlStore$Value;" } : Jvm.MethodName)) ∈ gW := gW_in 23 (by decide +kernel) (by decide +kernel)
theorem cv_X2_64 : gCv RX2 64 yX2_follow := ⟨tw_758, tw_760, tw_23⟩
theorem tw_805 : (Jvm.Cond.methodLink "MarlStore$Editor" (68 : Nat) ({ cls := "MarlStore$Value", name := "placeToAdd", desc := "(I)I" } : Jvm.MethodName)) ∈ gW := gW_in 805 (by decide +kernel) (by decide +kernel)
theorem tw_806 : (Jvm.Cond.instanceMethod ({ cls := "MarlStore$Value", name := "placeToAdd", desc := "(I)I" } : Jvm.MethodName)) ∈ gW := gW_in 806 (by decide +kernel) (by decide +kernel)
theorem tw_807 : (Jvm.Cond.selects "MarlStore$Value" ({ cls := "MarlStore$Value", name := "placeToAdd", desc := "(I)I" } : Jvm.MethodName) ({ cls := "MarlStore$Value", name := "placeToAdd", desc := "(I)I" } : Jvm.MethodName)) ∈ gW := gW_in 807 (by decide +kernel) (by decide +kernel)
theorem cv_X2_68 : gCv RX2 68 yX8_placeToAdd := ⟨tw_805, tw_806, tw_807⟩
theorem tw_809 : (Jvm.Cond.methodLink "MarlStore$Editor" (72 : Nat) ({ cls := "MarlStore$Value", name := "withAdded", desc := "(IILMarlStore$Value;)LMarlStore$Value;" } : Jvm.MethodName)) ∈ gW := gW_in 809 (by decide +kernel) (by decide +kernel)
theorem tw_810 : (Jvm.Cond.instanceMethod ({ cls := "MarlStore$Value", name := "withAdded", desc := "(IILMarlStore$Value;)LMarlStore$Value;" } : Jvm.MethodName)) ∈ gW := gW_in 810 (by decide +kernel) (by decide +kernel)
theorem tw_811 : (Jvm.Cond.selects "MarlStore$Value" ({ cls := "MarlStore$Value", name := "withAdded", desc := "(IILMarlStore$Value;)LMarlStore$Value;" } : Jvm.MethodName) ({ cls := "MarlStore$Value", name := "withAdded", desc := "(IILMarlStore$Value;)LMarlStore$Value;" } : Jvm.MethodName)) ∈ gW := gW_in 811 (by decide +kernel) (by decide +kernel)
theorem cv_X2_72 : gCv RX2 72 yX8_withAdded := ⟨tw_809, tw_810, tw_811⟩
theorem tw_764 : (Jvm.Cond.methodLink "MarlStore$Editor" (76 : Nat) ({ cls := "MarlStore$Editor", name := "rebuild", desc := "(LMarlStore$Value;)V" } : Jvm.MethodName)) ∈ gW := gW_in 764 (by decide +kernel) (by decide +kernel)
theorem tw_766 : (Jvm.Cond.instanceMethod ({ cls := "MarlStore$Editor", name := "rebuild", desc := "(LMarlStore$Value;)V" } : Jvm.MethodName)) ∈ gW := gW_in 766 (by decide +kernel) (by decide +kernel)
theorem tw_24 : (Jvm.Cond.selects "MarlStore$Editor" ({ cls := "MarlStore$Editor", name := "rebuild", desc := "(LMarlStore$Value;)V" } : Jvm.MethodName) ({ cls := "MarlStore$Editor", name := "rebuild", desc := "(LMarlStore$Value;)V" } : Jvm.MethodName)) ∈ gW := gW_in 24 (by decide +kernel) (by decide +kernel)
theorem cv_X2_76 : gCv RX2 76 yX2_rebuild := ⟨tw_764, tw_766, tw_24⟩
theorem tw_762 : (Jvm.Cond.methodLink "MarlStore$Editor" (80 : Nat) ({ cls := "MarlStore$Value", name := "placeOf", desc := "(I)I" } : Jvm.MethodName)) ∈ gW := gW_in 762 (by decide +kernel) (by decide +kernel)
theorem cv_X2_80 : gCv RX2 80 yX8_placeOf := ⟨tw_762, tw_607, tw_608⟩
theorem tw_763 : (Jvm.Cond.methodLink "MarlStore$Editor" (83 : Nat) ({ cls := "MarlStore$Value", name := "partAt", desc := "(I)LMarlStore$Value;" } : Jvm.MethodName)) ∈ gW := gW_in 763 (by decide +kernel) (by decide +kernel)
theorem cv_X2_83 : gCv RX2 83 yX8_partAt := ⟨tw_763, tw_455, tw_456⟩
theorem tw_826 : (Jvm.Cond.methodLink "MarlStore$Editor" (87 : Nat) ({ cls := "MarlStore$Value", name := "withoutPart", desc := "(I)LMarlStore$Value;" } : Jvm.MethodName)) ∈ gW := gW_in 826 (by decide +kernel) (by decide +kernel)
theorem tw_827 : (Jvm.Cond.instanceMethod ({ cls := "MarlStore$Value", name := "withoutPart", desc := "(I)LMarlStore$Value;" } : Jvm.MethodName)) ∈ gW := gW_in 827 (by decide +kernel) (by decide +kernel)
theorem tw_828 : (Jvm.Cond.selects "MarlStore$Value" ({ cls := "MarlStore$Value", name := "withoutPart", desc := "(I)LMarlStore$Value;" } : Jvm.MethodName) ({ cls := "MarlStore$Value", name := "withoutPart", desc := "(I)LMarlStore$Value;" } : Jvm.MethodName)) ∈ gW := gW_in 828 (by decide +kernel) (by decide +kernel)
theorem cv_X2_87 : gCv RX2 87 yX8_withoutPart := ⟨tw_826, tw_827, tw_828⟩
theorem tw_938 : (Jvm.Cond.methodLink "MarlStore$Editor" (90 : Nat) ({ cls := "MarlStore$Value", name := "isSameAs", desc := "(LMarlStore$Value;)Z" } : Jvm.MethodName)) ∈ gW := gW_in 938 (by decide +kernel) (by decide +kernel)
theorem cv_X2_90 : gCv RX2 90 yX8_isSameAs := ⟨tw_938, tw_843, tw_844⟩
theorem tw_141 : (Jvm.Cond.fieldLink "MarlStore$Editor" (94 : Nat) "MarlStore$Editor" "length" "I") ∈ gW := gW_in 141 (by decide +kernel) (by decide +kernel)
theorem fl_X2_94 : gFl RX2 94 2 2 RX2 TX2 5 tyX2 := ⟨kl_2, by decide, tw_141⟩
theorem tw_768 : (Jvm.Cond.methodLink "MarlStore$Editor" (97 : Nat) ({ cls := "MarlStore$Value", name := "withPart", desc := "(ILMarlStore$Value;)LMarlStore$Value;" } : Jvm.MethodName)) ∈ gW := gW_in 768 (by decide +kernel) (by decide +kernel)
theorem tw_769 : (Jvm.Cond.instanceMethod ({ cls := "MarlStore$Value", name := "withPart", desc := "(ILMarlStore$Value;)LMarlStore$Value;" } : Jvm.MethodName)) ∈ gW := gW_in 769 (by decide +kernel) (by decide +kernel)
theorem tw_770 : (Jvm.Cond.selects "MarlStore$Value" ({ cls := "MarlStore$Value", name := "withPart", desc := "(ILMarlStore$Value;)LMarlStore$Value;" } : Jvm.MethodName) ({ cls := "MarlStore$Value", name := "withPart", desc := "(ILMarlStore$Value;)LMarlStore$Value;" } : Jvm.MethodName)) ∈ gW := gW_in 770 (by decide +kernel) (by decide +kernel)
theorem cv_X2_97 : gCv RX2 97 yX8_withPart := ⟨tw_768, tw_769, tw_770⟩
theorem tw_880 : (Jvm.Cond.fieldLink "MarlStore$Operation" (9 : Nat) "MarlStore$Operation" "code" "I") ∈ gW := gW_in 880 (by decide +kernel) (by decide +kernel)
theorem fl_X3_9 : gFl RX3 9 3 0 RX3 TX3 4 tyX3 := ⟨kl_3, by decide, tw_880⟩
theorem tw_882 : (Jvm.Cond.fieldLink "MarlStore$Operation" (15 : Nat) "MarlStore$Operation" "path" "[I") ∈ gW := gW_in 882 (by decide +kernel) (by decide +kernel)
theorem fl_X3_15 : gFl RX3 15 3 1 RX3 TX3 4 tyX3 := ⟨kl_3, by decide, tw_882⟩
theorem tw_884 : (Jvm.Cond.fieldLink "MarlStore$Operation" (19 : Nat) "MarlStore$Operation" "step" "I") ∈ gW := gW_in 884 (by decide +kernel) (by decide +kernel)
theorem fl_X3_19 : gFl RX3 19 3 2 RX3 TX3 4 tyX3 := ⟨kl_3, by decide, tw_884⟩
theorem tw_886 : (Jvm.Cond.fieldLink "MarlStore$Operation" (22 : Nat) "MarlStore$Operation" "value" "LMarlStore$Value;") ∈ gW := gW_in 886 (by decide +kernel) (by decide +kernel)
theorem fl_X3_22 : gFl RX3 22 3 3 RX3 TX3 4 tyX3 := ⟨kl_3, by decide, tw_886⟩
theorem tw_963 : (Jvm.Cond.classLink "MarlStore$Operation" (10 : Nat) "MarlStore$Operation") ∈ gW := gW_in 963 (by decide +kernel) (by decide +kernel)
theorem nw_X3_10 : gNw RX3 10 3 RX3 TX3 4 tyX3 := ⟨kl_3, tw_963, tw_861, tw_54⟩
theorem tw_964 : (Jvm.Cond.methodLink "MarlStore$Operation" (26 : Nat) ({ cls := "MarlStore$Operation", name := "<init>", desc := "(I[IILMarlStore$Value;)V" } : Jvm.MethodName)) ∈ gW := gW_in 964 (by decide +kernel) (by decide +kernel)
theorem ci_X3_26 : gCi RX3 26 yX3_init := ⟨tw_964, tw_877, by decide +kernel⟩
theorem tw_90 : (Jvm.Cond.fieldLink "MarlStore$Operation" (29 : Nat) "MarlStore$Value" "size" "I") ∈ gW := gW_in 90 (by decide +kernel) (by decide +kernel)
theorem fl_X3_29 : gFl RX3 29 8 4 RX8 TX8 6 tyX8 := ⟨kl_8, by decide, tw_90⟩
theorem tw_162 : (Jvm.Cond.classLink "MarlStore$Patch" (9 : Nat) "MarlStore$Operation") ∈ gW := gW_in 162 (by decide +kernel) (by decide +kernel)
theorem nw_X4_9 : gNw RX4 9 3 RX3 TX3 4 tyX3 := ⟨kl_3, tw_162, tw_861, tw_54⟩
theorem tw_166 : (Jvm.Cond.fieldLink "MarlStore$Patch" (11 : Nat) "MarlStore$Patch" "held" "[LMarlStore$Operation;") ∈ gW := gW_in 166 (by decide +kernel) (by decide +kernel)
theorem fl_X4_11 : gFl RX4 11 4 1 RX4 TX4 2 tyX4 := ⟨kl_4, by decide, tw_166⟩
theorem tw_164 : (Jvm.Cond.fieldLink "MarlStore$Patch" (17 : Nat) "MarlStore$Patch" "count" "I") ∈ gW := gW_in 164 (by decide +kernel) (by decide +kernel)
theorem fl_X4_17 : gFl RX4 17 4 0 RX4 TX4 2 tyX4 := ⟨kl_4, by decide, tw_164⟩
theorem tw_120 : (Jvm.Cond.fieldLink "MarlStore$Pointer" (9 : Nat) "MarlStore$Pointer" "path" "[I") ∈ gW := gW_in 120 (by decide +kernel) (by decide +kernel)
theorem fl_X5_9 : gFl RX5 9 5 2 RX5 TX5 3 tyX5 := ⟨kl_5, by decide, tw_120⟩
theorem tw_116 : (Jvm.Cond.fieldLink "MarlStore$Pointer" (34 : Nat) "MarlStore$Pointer" "at" "I") ∈ gW := gW_in 116 (by decide +kernel) (by decide +kernel)
theorem fl_X5_34 : gFl RX5 34 5 0 RX5 TX5 3 tyX5 := ⟨kl_5, by decide, tw_116⟩
theorem tw_118 : (Jvm.Cond.fieldLink "MarlStore$Pointer" (15 : Nat) "MarlStore$Pointer" "length" "I") ∈ gW := gW_in 118 (by decide +kernel) (by decide +kernel)
theorem fl_X5_15 : gFl RX5 15 5 1 RX5 TX5 3 tyX5 := ⟨kl_5, by decide, tw_118⟩
theorem tw_791 : (Jvm.Cond.methodLink "MarlStore$Pointer" (49 : Nat) ({ cls := "MarlStore$Value", name := "placeOf", desc := "(I)I" } : Jvm.MethodName)) ∈ gW := gW_in 791 (by decide +kernel) (by decide +kernel)
theorem cv_X5_49 : gCv RX5 49 yX8_placeOf := ⟨tw_791, tw_607, tw_608⟩
theorem tw_792 : (Jvm.Cond.methodLink "MarlStore$Pointer" (54 : Nat) ({ cls := "MarlStore$Value", name := "partAt", desc := "(I)LMarlStore$Value;" } : Jvm.MethodName)) ∈ gW := gW_in 792 (by decide +kernel) (by decide +kernel)
theorem cv_X5_54 : gCv RX5 54 yX8_partAt := ⟨tw_792, tw_455, tw_456⟩
theorem tw_300 : (Jvm.Cond.fieldLink "MarlStore$Query" (9 : Nat) "MarlStore$Query" "codes" "[I") ∈ gW := gW_in 300 (by decide +kernel) (by decide +kernel)
theorem fl_X6_9 : gFl RX6 9 6 1 RX6 TX6 3 tyX6 := ⟨kl_6, by decide, tw_300⟩
theorem tw_301 : (Jvm.Cond.fieldLink "MarlStore$Query" (15 : Nat) "MarlStore$Query" "ns" "[I") ∈ gW := gW_in 301 (by decide +kernel) (by decide +kernel)
theorem fl_X6_15 : gFl RX6 15 6 2 RX6 TX6 3 tyX6 := ⟨kl_6, by decide, tw_301⟩
theorem tw_298 : (Jvm.Cond.fieldLink "MarlStore$Query" (18 : Nat) "MarlStore$Query" "count" "I") ∈ gW := gW_in 298 (by decide +kernel) (by decide +kernel)
theorem fl_X6_18 : gFl RX6 18 6 0 RX6 TX6 3 tyX6 := ⟨kl_6, by decide, tw_298⟩
theorem tw_627 : (Jvm.Cond.methodLink "MarlStore$Query" (22 : Nat) ({ cls := "MarlStore$Walk", name := "pick", desc := "(JII)J" } : Jvm.MethodName)) ∈ gW := gW_in 627 (by decide +kernel) (by decide +kernel)
theorem tw_628 : (Jvm.Cond.instanceMethod ({ cls := "MarlStore$Walk", name := "pick", desc := "(JII)J" } : Jvm.MethodName)) ∈ gW := gW_in 628 (by decide +kernel) (by decide +kernel)
theorem tw_629 : (Jvm.Cond.selects "MarlStore$Walk" ({ cls := "MarlStore$Walk", name := "pick", desc := "(JII)J" } : Jvm.MethodName) ({ cls := "MarlStore$Walk", name := "pick", desc := "(JII)J" } : Jvm.MethodName)) ∈ gW := gW_in 629 (by decide +kernel) (by decide +kernel)
theorem cv_X6_22 : gCv RX6 22 yX9_pick := ⟨tw_627, tw_628, tw_629⟩
theorem tw_199 : (Jvm.Cond.fieldLink "MarlStore$Schema" (9 : Nat) "MarlStore$Schema" "kinds" "I") ∈ gW := gW_in 199 (by decide +kernel) (by decide +kernel)
theorem fl_X7_9 : gFl RX7 9 7 0 RX7 TX7 11 tyX7 := ⟨kl_7, by decide, tw_199⟩
theorem tw_201 : (Jvm.Cond.fieldLink "MarlStore$Schema" (15 : Nat) "MarlStore$Schema" "low" "I") ∈ gW := gW_in 201 (by decide +kernel) (by decide +kernel)
theorem fl_X7_15 : gFl RX7 15 7 1 RX7 TX7 11 tyX7 := ⟨kl_7, by decide, tw_201⟩
theorem tw_203 : (Jvm.Cond.fieldLink "MarlStore$Schema" (18 : Nat) "MarlStore$Schema" "high" "I") ∈ gW := gW_in 203 (by decide +kernel) (by decide +kernel)
theorem fl_X7_18 : gFl RX7 18 7 2 RX7 TX7 11 tyX7 := ⟨kl_7, by decide, tw_203⟩
theorem tw_206 : (Jvm.Cond.fieldLink "MarlStore$Schema" (21 : Nat) "MarlStore$Schema" "most" "I") ∈ gW := gW_in 206 (by decide +kernel) (by decide +kernel)
theorem fl_X7_21 : gFl RX7 21 7 4 RX7 TX7 11 tyX7 := ⟨kl_7, by decide, tw_206⟩
theorem tw_208 : (Jvm.Cond.fieldLink "MarlStore$Schema" (24 : Nat) "MarlStore$Schema" "item" "I") ∈ gW := gW_in 208 (by decide +kernel) (by decide +kernel)
theorem fl_X7_24 : gFl RX7 24 7 5 RX7 TX7 11 tyX7 := ⟨kl_7, by decide, tw_208⟩
theorem tw_209 : (Jvm.Cond.fieldLink "MarlStore$Schema" (27 : Nat) "MarlStore$Schema" "rest" "I") ∈ gW := gW_in 209 (by decide +kernel) (by decide +kernel)
theorem fl_X7_27 : gFl RX7 27 7 6 RX7 TX7 11 tyX7 := ⟨kl_7, by decide, tw_209⟩
theorem tw_211 : (Jvm.Cond.fieldLink "MarlStore$Schema" (30 : Nat) "MarlStore$Schema" "keys" "[I") ∈ gW := gW_in 211 (by decide +kernel) (by decide +kernel)
theorem fl_X7_30 : gFl RX7 30 7 8 RX7 TX7 11 tyX7 := ⟨kl_7, by decide, tw_211⟩
theorem tw_212 : (Jvm.Cond.fieldLink "MarlStore$Schema" (34 : Nat) "MarlStore$Schema" "owns" "[I") ∈ gW := gW_in 212 (by decide +kernel) (by decide +kernel)
theorem fl_X7_34 : gFl RX7 34 7 9 RX7 TX7 11 tyX7 := ⟨kl_7, by decide, tw_212⟩
theorem tw_213 : (Jvm.Cond.fieldLink "MarlStore$Schema" (37 : Nat) "MarlStore$Schema" "isNeeded" "[Z") ∈ gW := gW_in 213 (by decide +kernel) (by decide +kernel)
theorem fl_X7_37 : gFl RX7 37 7 10 RX7 TX7 11 tyX7 := ⟨kl_7, by decide, tw_213⟩
theorem tw_210 : (Jvm.Cond.fieldLink "MarlStore$Schema" (45 : Nat) "MarlStore$Schema" "keyCount" "I") ∈ gW := gW_in 210 (by decide +kernel) (by decide +kernel)
theorem fl_X7_45 : gFl RX7 45 7 7 RX7 TX7 11 tyX7 := ⟨kl_7, by decide, tw_210⟩
theorem tw_589 : (Jvm.Cond.methodLink "MarlStore$Schema" (41 : Nat) ({ cls := "MarlStore$Schema", name := "placeOfKey", desc := "(I)I" } : Jvm.MethodName)) ∈ gW := gW_in 589 (by decide +kernel) (by decide +kernel)
theorem tw_591 : (Jvm.Cond.instanceMethod ({ cls := "MarlStore$Schema", name := "placeOfKey", desc := "(I)I" } : Jvm.MethodName)) ∈ gW := gW_in 591 (by decide +kernel) (by decide +kernel)
theorem tw_15 : (Jvm.Cond.selects "MarlStore$Schema" ({ cls := "MarlStore$Schema", name := "placeOfKey", desc := "(I)I" } : Jvm.MethodName) ({ cls := "MarlStore$Schema", name := "placeOfKey", desc := "(I)I" } : Jvm.MethodName)) ∈ gW := gW_in 15 (by decide +kernel) (by decide +kernel)
theorem cv_X7_41 : gCv RX7 41 yX7_placeOfKey := ⟨tw_589, tw_591, tw_15⟩
theorem tw_606 : (Jvm.Cond.methodLink "MarlStore$Schema" (51 : Nat) ({ cls := "MarlStore$Value", name := "placeOf", desc := "(I)I" } : Jvm.MethodName)) ∈ gW := gW_in 606 (by decide +kernel) (by decide +kernel)
theorem cv_X7_51 : gCv RX7 51 yX8_placeOf := ⟨tw_606, tw_607, tw_608⟩
theorem tw_75 : (Jvm.Cond.fieldLink "MarlStore$Value" (9 : Nat) "MarlStore$Value" "kind" "I") ∈ gW := gW_in 75 (by decide +kernel) (by decide +kernel)
theorem fl_X8_9 : gFl RX8 9 8 0 RX8 TX8 6 tyX8 := ⟨kl_8, by decide, tw_75⟩
theorem tw_80 : (Jvm.Cond.fieldLink "MarlStore$Value" (15 : Nat) "MarlStore$Value" "number" "I") ∈ gW := gW_in 80 (by decide +kernel) (by decide +kernel)
theorem fl_X8_15 : gFl RX8 15 8 1 RX8 TX8 6 tyX8 := ⟨kl_8, by decide, tw_80⟩
theorem tw_85 : (Jvm.Cond.fieldLink "MarlStore$Value" (18 : Nat) "MarlStore$Value" "keys" "[I") ∈ gW := gW_in 85 (by decide +kernel) (by decide +kernel)
theorem fl_X8_18 : gFl RX8 18 8 2 RX8 TX8 6 tyX8 := ⟨kl_8, by decide, tw_85⟩
theorem tw_86 : (Jvm.Cond.fieldLink "MarlStore$Value" (22 : Nat) "MarlStore$Value" "parts" "[LMarlStore$Value;") ∈ gW := gW_in 86 (by decide +kernel) (by decide +kernel)
theorem fl_X8_22 : gFl RX8 22 8 3 RX8 TX8 6 tyX8 := ⟨kl_8, by decide, tw_86⟩
theorem tw_87 : (Jvm.Cond.fieldLink "MarlStore$Value" (26 : Nat) "MarlStore$Value" "size" "I") ∈ gW := gW_in 87 (by decide +kernel) (by decide +kernel)
theorem fl_X8_26 : gFl RX8 26 8 4 RX8 TX8 6 tyX8 := ⟨kl_8, by decide, tw_87⟩
theorem tw_93 : (Jvm.Cond.fieldLink "MarlStore$Value" (29 : Nat) "MarlStore$Value" "depth" "I") ∈ gW := gW_in 93 (by decide +kernel) (by decide +kernel)
theorem fl_X8_29 : gFl RX8 29 8 5 RX8 TX8 6 tyX8 := ⟨kl_8, by decide, tw_93⟩
theorem tw_72 : (Jvm.Cond.methodLink "MarlStore$Value" (32 : Nat) ({ cls := "java/lang/Math", name := "max", desc := "(II)I" } : Jvm.MethodName)) ∈ gW := gW_in 72 (by decide +kernel) (by decide +kernel)
theorem tw_73 : (Jvm.Cond.static ({ cls := "java/lang/Math", name := "max", desc := "(II)I" } : Jvm.MethodName)) ∈ gW := gW_in 73 (by decide +kernel) (by decide +kernel)
theorem cs_X8_32 : gCs RX8 32 yJ9_max_7cf53 := ⟨tw_72, tw_73⟩
theorem tw_772 : (Jvm.Cond.methodLink "MarlStore$Value" (38 : Nat) ({ cls := "MarlStore$Value", name := "width", desc := "()I" } : Jvm.MethodName)) ∈ gW := gW_in 772 (by decide +kernel) (by decide +kernel)
theorem cv_X8_38 : gCv RX8 38 yX8_width := ⟨tw_772, tw_451, tw_452⟩
theorem tw_693 : (Jvm.Cond.methodLink "MarlStore$Value" (42 : Nat) ({ cls := "MarlStore$Value", name := "placeOf", desc := "(I)I" } : Jvm.MethodName)) ∈ gW := gW_in 693 (by decide +kernel) (by decide +kernel)
theorem cv_X8_42 : gCv RX8 42 yX8_placeOf := ⟨tw_693, tw_607, tw_608⟩
theorem tw_694 : (Jvm.Cond.methodLink "MarlStore$Value" (46 : Nat) ({ cls := "MarlStore$Value", name := "partAt", desc := "(I)LMarlStore$Value;" } : Jvm.MethodName)) ∈ gW := gW_in 694 (by decide +kernel) (by decide +kernel)
theorem cv_X8_46 : gCv RX8 46 yX8_partAt := ⟨tw_694, tw_455, tw_456⟩
theorem tw_773 : (Jvm.Cond.classLink "MarlStore$Value" (10 : Nat) "MarlStore$Value") ∈ gW := gW_in 773 (by decide +kernel) (by decide +kernel)
theorem nw_X8_10 : gNw RX8 10 8 RX8 TX8 6 tyX8 := ⟨kl_8, tw_773, tw_67, tw_38⟩
theorem tw_774 : (Jvm.Cond.methodLink "MarlStore$Value" (50 : Nat) ({ cls := "MarlStore$Value", name := "<init>", desc := "(II[I[LMarlStore$Value;)V" } : Jvm.MethodName)) ∈ gW := gW_in 774 (by decide +kernel) (by decide +kernel)
theorem ci_X8_50 : gCi RX8 50 yX8_init := ⟨tw_774, tw_69, by decide +kernel⟩
theorem tw_813 : (Jvm.Cond.methodLink "MarlStore$Value" (53 : Nat) ({ cls := "MarlStore$Value", name := "stepOf", desc := "(I)I" } : Jvm.MethodName)) ∈ gW := gW_in 813 (by decide +kernel) (by decide +kernel)
theorem cv_X8_53 : gCv RX8 53 yX8_stepOf := ⟨tw_813, tw_459, tw_460⟩
theorem tw_846 : (Jvm.Cond.methodLink "MarlStore$Value" (56 : Nat) ({ cls := "MarlStore$Value", name := "areSame", desc := "(LMarlStore$Value;LMarlStore$Value;I)Z" } : Jvm.MethodName)) ∈ gW := gW_in 846 (by decide +kernel) (by decide +kernel)
theorem tw_847 : (Jvm.Cond.static ({ cls := "MarlStore$Value", name := "areSame", desc := "(LMarlStore$Value;LMarlStore$Value;I)Z" } : Jvm.MethodName)) ∈ gW := gW_in 847 (by decide +kernel) (by decide +kernel)
theorem cs_X8_56 : gCs RX8 56 yX8_areSame := ⟨tw_846, tw_847⟩
theorem tw_244 : (Jvm.Cond.classLink "MarlStore$Walk" (9 : Nat) "MarlStore$Value") ∈ gW := gW_in 244 (by decide +kernel) (by decide +kernel)
theorem nw_X9_9 : gNw RX9 9 8 RX8 TX8 6 tyX8 := ⟨kl_8, tw_244, tw_67, tw_38⟩
theorem tw_248 : (Jvm.Cond.fieldLink "MarlStore$Walk" (11 : Nat) "MarlStore$Walk" "values" "[LMarlStore$Value;") ∈ gW := gW_in 248 (by decide +kernel) (by decide +kernel)
theorem fl_X9_11 : gFl RX9 11 9 1 RX9 TX9 5 tyX9 := ⟨kl_9, by decide, tw_248⟩
theorem tw_249 : (Jvm.Cond.fieldLink "MarlStore$Walk" (17 : Nat) "MarlStore$Walk" "parents" "[I") ∈ gW := gW_in 249 (by decide +kernel) (by decide +kernel)
theorem fl_X9_17 : gFl RX9 17 9 2 RX9 TX9 5 tyX9 := ⟨kl_9, by decide, tw_249⟩
theorem tw_250 : (Jvm.Cond.fieldLink "MarlStore$Walk" (21 : Nat) "MarlStore$Walk" "steps" "[I") ∈ gW := gW_in 250 (by decide +kernel) (by decide +kernel)
theorem fl_X9_21 : gFl RX9 21 9 3 RX9 TX9 5 tyX9 := ⟨kl_9, by decide, tw_250⟩
theorem tw_251 : (Jvm.Cond.fieldLink "MarlStore$Walk" (24 : Nat) "MarlStore$Walk" "levels" "[I") ∈ gW := gW_in 251 (by decide +kernel) (by decide +kernel)
theorem fl_X9_24 : gFl RX9 24 9 4 RX9 TX9 5 tyX9 := ⟨kl_9, by decide, tw_251⟩
theorem tw_88 : (Jvm.Cond.fieldLink "MarlStore$Walk" (27 : Nat) "MarlStore$Value" "size" "I") ∈ gW := gW_in 88 (by decide +kernel) (by decide +kernel)
theorem fl_X9_27 : gFl RX9 27 8 4 RX8 TX8 6 tyX8 := ⟨kl_8, by decide, tw_88⟩
theorem tw_443 : (Jvm.Cond.methodLink "MarlStore$Walk" (31 : Nat) ({ cls := "java/lang/Math", name := "min", desc := "(II)I" } : Jvm.MethodName)) ∈ gW := gW_in 443 (by decide +kernel) (by decide +kernel)
theorem cs_X9_31 : gCs RX9 31 yJ9_min_7cf53 := ⟨tw_443, tw_444⟩
theorem tw_245 : (Jvm.Cond.fieldLink "MarlStore$Walk" (37 : Nat) "MarlStore$Walk" "count" "I") ∈ gW := gW_in 245 (by decide +kernel) (by decide +kernel)
theorem fl_X9_37 : gFl RX9 37 9 0 RX9 TX9 5 tyX9 := ⟨kl_9, by decide, tw_245⟩
theorem tw_446 : (Jvm.Cond.methodLink "MarlStore$Walk" (40 : Nat) ({ cls := "MarlStore$Walk", name := "enter", desc := "(ILMarlStore$Value;III)V" } : Jvm.MethodName)) ∈ gW := gW_in 446 (by decide +kernel) (by decide +kernel)
theorem tw_448 : (Jvm.Cond.instanceMethod ({ cls := "MarlStore$Walk", name := "enter", desc := "(ILMarlStore$Value;III)V" } : Jvm.MethodName)) ∈ gW := gW_in 448 (by decide +kernel) (by decide +kernel)
theorem tw_3 : (Jvm.Cond.selects "MarlStore$Walk" ({ cls := "MarlStore$Walk", name := "enter", desc := "(ILMarlStore$Value;III)V" } : Jvm.MethodName) ({ cls := "MarlStore$Walk", name := "enter", desc := "(ILMarlStore$Value;III)V" } : Jvm.MethodName)) ∈ gW := gW_in 3 (by decide +kernel) (by decide +kernel)
theorem cv_X9_40 : gCv RX9 40 yX9_enter := ⟨tw_446, tw_448, tw_3⟩
theorem tw_450 : (Jvm.Cond.methodLink "MarlStore$Walk" (44 : Nat) ({ cls := "MarlStore$Value", name := "width", desc := "()I" } : Jvm.MethodName)) ∈ gW := gW_in 450 (by decide +kernel) (by decide +kernel)
theorem cv_X9_44 : gCv RX9 44 yX8_width := ⟨tw_450, tw_451, tw_452⟩
theorem tw_454 : (Jvm.Cond.methodLink "MarlStore$Walk" (48 : Nat) ({ cls := "MarlStore$Value", name := "partAt", desc := "(I)LMarlStore$Value;" } : Jvm.MethodName)) ∈ gW := gW_in 454 (by decide +kernel) (by decide +kernel)
theorem cv_X9_48 : gCv RX9 48 yX8_partAt := ⟨tw_454, tw_455, tw_456⟩
theorem tw_458 : (Jvm.Cond.methodLink "MarlStore$Walk" (52 : Nat) ({ cls := "MarlStore$Value", name := "stepOf", desc := "(I)I" } : Jvm.MethodName)) ∈ gW := gW_in 458 (by decide +kernel) (by decide +kernel)
theorem cv_X9_52 : gCv RX9 52 yX8_stepOf := ⟨tw_458, tw_459, tw_460⟩
theorem tw_631 : (Jvm.Cond.methodLink "MarlStore$Walk" (56 : Nat) ({ cls := "MarlStore$Walk", name := "valueAt", desc := "(I)LMarlStore$Value;" } : Jvm.MethodName)) ∈ gW := gW_in 631 (by decide +kernel) (by decide +kernel)
theorem cv_X9_56 : gCv RX9 56 yX9_valueAt := ⟨tw_631, tw_463, tw_464⟩
theorem tw_632 : (Jvm.Cond.methodLink "MarlStore$Walk" (59 : Nat) ({ cls := "MarlStore$Walk", name := "isPicked", desc := "(JJILMarlStore$Value;II)Z" } : Jvm.MethodName)) ∈ gW := gW_in 632 (by decide +kernel) (by decide +kernel)
theorem tw_634 : (Jvm.Cond.instanceMethod ({ cls := "MarlStore$Walk", name := "isPicked", desc := "(JJILMarlStore$Value;II)Z" } : Jvm.MethodName)) ∈ gW := gW_in 634 (by decide +kernel) (by decide +kernel)
theorem tw_20 : (Jvm.Cond.selects "MarlStore$Walk" ({ cls := "MarlStore$Walk", name := "isPicked", desc := "(JJILMarlStore$Value;II)Z" } : Jvm.MethodName) ({ cls := "MarlStore$Walk", name := "isPicked", desc := "(JJILMarlStore$Value;II)Z" } : Jvm.MethodName)) ∈ gW := gW_in 20 (by decide +kernel) (by decide +kernel)
theorem cv_X9_59 : gCv RX9 59 yX9_isPicked := ⟨tw_632, tw_634, tw_20⟩
theorem tw_639 : (Jvm.Cond.methodLink "MarlStore$Walk" (67 : Nat) ({ cls := "MarlStore$Walk", name := "above", desc := "(I)I" } : Jvm.MethodName)) ∈ gW := gW_in 639 (by decide +kernel) (by decide +kernel)
theorem cv_X9_67 : gCv RX9 67 yX9_above := ⟨tw_639, tw_574, tw_575⟩
theorem tw_640 : (Jvm.Cond.methodLink "MarlStore$Walk" (70 : Nat) ({ cls := "MarlStore$Walk", name := "stepTo", desc := "(I)I" } : Jvm.MethodName)) ∈ gW := gW_in 640 (by decide +kernel) (by decide +kernel)
theorem cv_X9_70 : gCv RX9 70 yX9_stepTo := ⟨tw_640, tw_582, tw_583⟩
theorem tw_641 : (Jvm.Cond.methodLink "MarlStore$Walk" (73 : Nat) ({ cls := "MarlStore$Walk", name := "isLast", desc := "(ILMarlStore$Value;)Z" } : Jvm.MethodName)) ∈ gW := gW_in 641 (by decide +kernel) (by decide +kernel)
theorem tw_643 : (Jvm.Cond.instanceMethod ({ cls := "MarlStore$Walk", name := "isLast", desc := "(ILMarlStore$Value;)Z" } : Jvm.MethodName)) ∈ gW := gW_in 643 (by decide +kernel) (by decide +kernel)
theorem tw_21 : (Jvm.Cond.selects "MarlStore$Walk" ({ cls := "MarlStore$Walk", name := "isLast", desc := "(ILMarlStore$Value;)Z" } : Jvm.MethodName) ({ cls := "MarlStore$Walk", name := "isLast", desc := "(ILMarlStore$Value;)Z" } : Jvm.MethodName)) ∈ gW := gW_in 21 (by decide +kernel) (by decide +kernel)
theorem cv_X9_73 : gCv RX9 73 yX9_isLast := ⟨tw_641, tw_643, tw_21⟩
theorem tw_79 : (Jvm.Cond.fieldLink "MarlStore$Walk" (77 : Nat) "MarlStore$Value" "kind" "I") ∈ gW := gW_in 79 (by decide +kernel) (by decide +kernel)
theorem fl_X9_77 : gFl RX9 77 8 0 RX8 TX8 6 tyX8 := ⟨kl_8, by decide, tw_79⟩
theorem tw_83 : (Jvm.Cond.fieldLink "MarlStore$Walk" (80 : Nat) "MarlStore$Value" "number" "I") ∈ gW := gW_in 83 (by decide +kernel) (by decide +kernel)
theorem fl_X9_80 : gFl RX9 80 8 1 RX8 TX8 6 tyX8 := ⟨kl_8, by decide, tw_83⟩
theorem tw_645 : (Jvm.Cond.methodLink "MarlStore$Walk" (83 : Nat) ({ cls := "MarlStore$Value", name := "placeOf", desc := "(I)I" } : Jvm.MethodName)) ∈ gW := gW_in 645 (by decide +kernel) (by decide +kernel)
theorem cv_X9_83 : gCv RX9 83 yX8_placeOf := ⟨tw_645, tw_607, tw_608⟩
theorem tw_996 : (Jvm.Cond.methodLink "MarlStore$Walk" (90 : Nat) ({ cls := "MarlStore$Value", name := "withoutPart", desc := "(I)LMarlStore$Value;" } : Jvm.MethodName)) ∈ gW := gW_in 996 (by decide +kernel) (by decide +kernel)
theorem cv_X9_90 : gCv RX9 90 yX8_withoutPart := ⟨tw_996, tw_827, tw_828⟩
theorem tw_997 : (Jvm.Cond.methodLink "MarlStore$Walk" (93 : Nat) ({ cls := "MarlStore$Value", name := "withPart", desc := "(ILMarlStore$Value;)LMarlStore$Value;" } : Jvm.MethodName)) ∈ gW := gW_in 997 (by decide +kernel) (by decide +kernel)
theorem cv_X9_93 : gCv RX9 93 yX8_withPart := ⟨tw_997, tw_769, tw_770⟩
theorem tw_672 : (Jvm.Cond.constant "MarlStoreLaw" (7 : Nat) (2147483647 : Int32)) ∈ gW := gW_in 672 (by decide +kernel) (by decide +kernel)
theorem kc_L_7 : (Jvm.Cond.constant "MarlStoreLaw" (7 : Nat) (2147483647 : Int32)) ∈ gW := tw_672
theorem tw_655 : (Jvm.Cond.constant "MarlStoreLaw" (8 : Nat) (790386105 : Int32)) ∈ gW := gW_in 655 (by decide +kernel) (by decide +kernel)
theorem kc_L_8 : (Jvm.Cond.constant "MarlStoreLaw" (8 : Nat) (790386105 : Int32)) ∈ gW := tw_655
theorem tw_58 : (Jvm.Cond.classLink "MarlStoreLaw" (9 : Nat) "MarlStore") ∈ gW := gW_in 58 (by decide +kernel) (by decide +kernel)
theorem tw_59 : (Jvm.Cond.instantiable "MarlStore" (14 : Nat)) ∈ gW := gW_in 59 (by decide +kernel) (by decide +kernel)
theorem nw_L_9 : gNw RL 9 10 RX10 TX10 14 tyX10 := ⟨kl_10, tw_58, tw_59, tw_37⟩
theorem tw_60 : (Jvm.Cond.methodLink "MarlStoreLaw" (11 : Nat) ({ cls := "MarlStore", name := "<init>", desc := "()V" } : Jvm.MethodName)) ∈ gW := gW_in 60 (by decide +kernel) (by decide +kernel)
theorem tw_61 : (Jvm.Cond.instanceMethod ({ cls := "MarlStore", name := "<init>", desc := "()V" } : Jvm.MethodName)) ∈ gW := gW_in 61 (by decide +kernel) (by decide +kernel)
theorem ci_L_11 : gCi RL 11 yX10_init := ⟨tw_60, tw_61, by decide +kernel⟩
theorem tw_652 : (Jvm.Cond.methodLink "MarlStoreLaw" (12 : Nat) ({ cls := "MarlStoreLaw", name := "cell", desc := "([II)I" } : Jvm.MethodName)) ∈ gW := gW_in 652 (by decide +kernel) (by decide +kernel)
theorem tw_653 : (Jvm.Cond.static ({ cls := "MarlStoreLaw", name := "cell", desc := "([II)I" } : Jvm.MethodName)) ∈ gW := gW_in 653 (by decide +kernel) (by decide +kernel)
theorem cs_L_12 : gCs RL 12 yL_cell := ⟨tw_652, tw_653⟩
theorem tw_656 : (Jvm.Cond.methodLink "MarlStoreLaw" (18 : Nat) ({ cls := "MarlStoreLaw", name := "act", desc := "(LMarlStore;I)Z" } : Jvm.MethodName)) ∈ gW := gW_in 656 (by decide +kernel) (by decide +kernel)
theorem tw_657 : (Jvm.Cond.static ({ cls := "MarlStoreLaw", name := "act", desc := "(LMarlStore;I)Z" } : Jvm.MethodName)) ∈ gW := gW_in 657 (by decide +kernel) (by decide +kernel)
theorem cs_L_18 : gCs RL 18 yL_act := ⟨tw_656, tw_657⟩
theorem tw_352 : (Jvm.Cond.methodLink "MarlStoreLaw" (22 : Nat) ({ cls := "MarlStore", name := "digest", desc := "()J" } : Jvm.MethodName)) ∈ gW := gW_in 352 (by decide +kernel) (by decide +kernel)
theorem tw_353 : (Jvm.Cond.instanceMethod ({ cls := "MarlStore", name := "digest", desc := "()J" } : Jvm.MethodName)) ∈ gW := gW_in 353 (by decide +kernel) (by decide +kernel)
theorem tw_354 : (Jvm.Cond.selects "MarlStore" ({ cls := "MarlStore", name := "digest", desc := "()J" } : Jvm.MethodName) ({ cls := "MarlStore", name := "digest", desc := "()J" } : Jvm.MethodName)) ∈ gW := gW_in 354 (by decide +kernel) (by decide +kernel)
theorem cv_L_22 : gCv RL 22 yX10_digest := ⟨tw_352, tw_353, tw_354⟩
theorem tw_998 : (Jvm.Cond.methodLink "MarlStoreLaw" (26 : Nat) ({ cls := "MarlStoreLaw", name := "areDocumentsRight", desc := "(LMarlStore;)Z" } : Jvm.MethodName)) ∈ gW := gW_in 998 (by decide +kernel) (by decide +kernel)
theorem tw_999 : (Jvm.Cond.static ({ cls := "MarlStoreLaw", name := "areDocumentsRight", desc := "(LMarlStore;)Z" } : Jvm.MethodName)) ∈ gW := gW_in 999 (by decide +kernel) (by decide +kernel)
theorem cs_L_26 : gCs RL 26 yL_areDocumentsRight := ⟨tw_998, tw_999⟩
theorem tw_1006 : (Jvm.Cond.methodLink "MarlStoreLaw" (30 : Nat) ({ cls := "MarlStoreLaw", name := "areFewRight", desc := "(LMarlStore;)Z" } : Jvm.MethodName)) ∈ gW := gW_in 1006 (by decide +kernel) (by decide +kernel)
theorem tw_1007 : (Jvm.Cond.static ({ cls := "MarlStoreLaw", name := "areFewRight", desc := "(LMarlStore;)Z" } : Jvm.MethodName)) ∈ gW := gW_in 1007 (by decide +kernel) (by decide +kernel)
theorem cs_L_30 : gCs RL 30 yL_areFewRight := ⟨tw_1006, tw_1007⟩
theorem tw_661 : (Jvm.Cond.methodLink "MarlStoreLaw" (33 : Nat) ({ cls := "MarlStore", name := "document", desc := "()I" } : Jvm.MethodName)) ∈ gW := gW_in 661 (by decide +kernel) (by decide +kernel)
theorem tw_662 : (Jvm.Cond.instanceMethod ({ cls := "MarlStore", name := "document", desc := "()I" } : Jvm.MethodName)) ∈ gW := gW_in 662 (by decide +kernel) (by decide +kernel)
theorem tw_663 : (Jvm.Cond.selects "MarlStore" ({ cls := "MarlStore", name := "document", desc := "()I" } : Jvm.MethodName) ({ cls := "MarlStore", name := "document", desc := "()I" } : Jvm.MethodName)) ∈ gW := gW_in 663 (by decide +kernel) (by decide +kernel)
theorem cv_L_33 : gCv RL 33 yX10_document := ⟨tw_661, tw_662, tw_663⟩
theorem tw_665 : (Jvm.Cond.methodLink "MarlStoreLaw" (37 : Nat) ({ cls := "MarlStore", name := "size", desc := "(I)I" } : Jvm.MethodName)) ∈ gW := gW_in 665 (by decide +kernel) (by decide +kernel)
theorem tw_666 : (Jvm.Cond.instanceMethod ({ cls := "MarlStore", name := "size", desc := "(I)I" } : Jvm.MethodName)) ∈ gW := gW_in 666 (by decide +kernel) (by decide +kernel)
theorem tw_667 : (Jvm.Cond.selects "MarlStore" ({ cls := "MarlStore", name := "size", desc := "(I)I" } : Jvm.MethodName) ({ cls := "MarlStore", name := "size", desc := "(I)I" } : Jvm.MethodName)) ∈ gW := gW_in 667 (by decide +kernel) (by decide +kernel)
theorem cv_L_37 : gCv RL 37 yX10_size := ⟨tw_665, tw_666, tw_667⟩
theorem tw_669 : (Jvm.Cond.methodLink "MarlStoreLaw" (41 : Nat) ({ cls := "MarlStoreLaw", name := "below", desc := "(II)I" } : Jvm.MethodName)) ∈ gW := gW_in 669 (by decide +kernel) (by decide +kernel)
theorem tw_670 : (Jvm.Cond.static ({ cls := "MarlStoreLaw", name := "below", desc := "(II)I" } : Jvm.MethodName)) ∈ gW := gW_in 670 (by decide +kernel) (by decide +kernel)
theorem cs_L_41 : gCs RL 41 yL_below := ⟨tw_669, tw_670⟩
theorem tw_673 : (Jvm.Cond.methodLink "MarlStoreLaw" (45 : Nat) ({ cls := "MarlStore", name := "point", desc := "(I)I" } : Jvm.MethodName)) ∈ gW := gW_in 673 (by decide +kernel) (by decide +kernel)
theorem tw_674 : (Jvm.Cond.instanceMethod ({ cls := "MarlStore", name := "point", desc := "(I)I" } : Jvm.MethodName)) ∈ gW := gW_in 674 (by decide +kernel) (by decide +kernel)
theorem tw_675 : (Jvm.Cond.selects "MarlStore" ({ cls := "MarlStore", name := "point", desc := "(I)I" } : Jvm.MethodName) ({ cls := "MarlStore", name := "point", desc := "(I)I" } : Jvm.MethodName)) ∈ gW := gW_in 675 (by decide +kernel) (by decide +kernel)
theorem cv_L_45 : gCv RL 45 yX10_point := ⟨tw_673, tw_674, tw_675⟩
theorem tw_681 : (Jvm.Cond.methodLink "MarlStoreLaw" (48 : Nat) ({ cls := "MarlStore", name := "children", desc := "()I" } : Jvm.MethodName)) ∈ gW := gW_in 681 (by decide +kernel) (by decide +kernel)
theorem tw_682 : (Jvm.Cond.instanceMethod ({ cls := "MarlStore", name := "children", desc := "()I" } : Jvm.MethodName)) ∈ gW := gW_in 682 (by decide +kernel) (by decide +kernel)
theorem tw_683 : (Jvm.Cond.selects "MarlStore" ({ cls := "MarlStore", name := "children", desc := "()I" } : Jvm.MethodName) ({ cls := "MarlStore", name := "children", desc := "()I" } : Jvm.MethodName)) ∈ gW := gW_in 683 (by decide +kernel) (by decide +kernel)
theorem cv_L_48 : gCv RL 48 yX10_children := ⟨tw_681, tw_682, tw_683⟩
theorem tw_695 : (Jvm.Cond.methodLink "MarlStoreLaw" (51 : Nat) ({ cls := "java/lang/Math", name := "max", desc := "(II)I" } : Jvm.MethodName)) ∈ gW := gW_in 695 (by decide +kernel) (by decide +kernel)
theorem cs_L_51 : gCs RL 51 yJ9_max_7cf53 := ⟨tw_695, tw_73⟩
theorem tw_696 : (Jvm.Cond.methodLink "MarlStoreLaw" (56 : Nat) ({ cls := "MarlStore", name := "childStep", desc := "(I)I" } : Jvm.MethodName)) ∈ gW := gW_in 696 (by decide +kernel) (by decide +kernel)
theorem tw_697 : (Jvm.Cond.instanceMethod ({ cls := "MarlStore", name := "childStep", desc := "(I)I" } : Jvm.MethodName)) ∈ gW := gW_in 697 (by decide +kernel) (by decide +kernel)
theorem tw_698 : (Jvm.Cond.selects "MarlStore" ({ cls := "MarlStore", name := "childStep", desc := "(I)I" } : Jvm.MethodName) ({ cls := "MarlStore", name := "childStep", desc := "(I)I" } : Jvm.MethodName)) ∈ gW := gW_in 698 (by decide +kernel) (by decide +kernel)
theorem cv_L_56 : gCv RL 56 yX10_childStep := ⟨tw_696, tw_697, tw_698⟩
theorem tw_701 : (Jvm.Cond.methodLink "MarlStoreLaw" (59 : Nat) ({ cls := "MarlStore", name := "steps", desc := "()I" } : Jvm.MethodName)) ∈ gW := gW_in 701 (by decide +kernel) (by decide +kernel)
theorem tw_702 : (Jvm.Cond.instanceMethod ({ cls := "MarlStore", name := "steps", desc := "()I" } : Jvm.MethodName)) ∈ gW := gW_in 702 (by decide +kernel) (by decide +kernel)
theorem tw_703 : (Jvm.Cond.selects "MarlStore" ({ cls := "MarlStore", name := "steps", desc := "()I" } : Jvm.MethodName) ({ cls := "MarlStore", name := "steps", desc := "()I" } : Jvm.MethodName)) ∈ gW := gW_in 703 (by decide +kernel) (by decide +kernel)
theorem cv_L_59 : gCv RL 59 yX10_steps := ⟨tw_701, tw_702, tw_703⟩
theorem tw_705 : (Jvm.Cond.methodLink "MarlStoreLaw" (62 : Nat) ({ cls := "MarlStore", name := "into", desc := "(I)I" } : Jvm.MethodName)) ∈ gW := gW_in 705 (by decide +kernel) (by decide +kernel)
theorem tw_706 : (Jvm.Cond.instanceMethod ({ cls := "MarlStore", name := "into", desc := "(I)I" } : Jvm.MethodName)) ∈ gW := gW_in 706 (by decide +kernel) (by decide +kernel)
theorem tw_707 : (Jvm.Cond.selects "MarlStore" ({ cls := "MarlStore", name := "into", desc := "(I)I" } : Jvm.MethodName) ({ cls := "MarlStore", name := "into", desc := "(I)I" } : Jvm.MethodName)) ∈ gW := gW_in 707 (by decide +kernel) (by decide +kernel)
theorem cv_L_62 : gCv RL 62 yX10_into := ⟨tw_705, tw_706, tw_707⟩
theorem tw_716 : (Jvm.Cond.methodLink "MarlStoreLaw" (65 : Nat) ({ cls := "MarlStore", name := "kind", desc := "()I" } : Jvm.MethodName)) ∈ gW := gW_in 716 (by decide +kernel) (by decide +kernel)
theorem tw_717 : (Jvm.Cond.instanceMethod ({ cls := "MarlStore", name := "kind", desc := "()I" } : Jvm.MethodName)) ∈ gW := gW_in 717 (by decide +kernel) (by decide +kernel)
theorem tw_718 : (Jvm.Cond.selects "MarlStore" ({ cls := "MarlStore", name := "kind", desc := "()I" } : Jvm.MethodName) ({ cls := "MarlStore", name := "kind", desc := "()I" } : Jvm.MethodName)) ∈ gW := gW_in 718 (by decide +kernel) (by decide +kernel)
theorem cv_L_65 : gCv RL 65 yX10_kind := ⟨tw_716, tw_717, tw_718⟩
theorem tw_720 : (Jvm.Cond.methodLink "MarlStoreLaw" (68 : Nat) ({ cls := "MarlStore", name := "stepAt", desc := "(I)I" } : Jvm.MethodName)) ∈ gW := gW_in 720 (by decide +kernel) (by decide +kernel)
theorem cv_L_68 : gCv RL 68 yX10_stepAt := ⟨tw_720, tw_359, tw_360⟩
theorem tw_721 : (Jvm.Cond.methodLink "MarlStoreLaw" (71 : Nat) ({ cls := "MarlStore", name := "up", desc := "()I" } : Jvm.MethodName)) ∈ gW := gW_in 721 (by decide +kernel) (by decide +kernel)
theorem tw_722 : (Jvm.Cond.instanceMethod ({ cls := "MarlStore", name := "up", desc := "()I" } : Jvm.MethodName)) ∈ gW := gW_in 722 (by decide +kernel) (by decide +kernel)
theorem tw_723 : (Jvm.Cond.selects "MarlStore" ({ cls := "MarlStore", name := "up", desc := "()I" } : Jvm.MethodName) ({ cls := "MarlStore", name := "up", desc := "()I" } : Jvm.MethodName)) ∈ gW := gW_in 723 (by decide +kernel) (by decide +kernel)
theorem cv_L_71 : gCv RL 71 yX10_up := ⟨tw_721, tw_722, tw_723⟩
theorem tw_745 : (Jvm.Cond.methodLink "MarlStoreLaw" (74 : Nat) ({ cls := "MarlStore", name := "set", desc := "(II)I" } : Jvm.MethodName)) ∈ gW := gW_in 745 (by decide +kernel) (by decide +kernel)
theorem tw_746 : (Jvm.Cond.instanceMethod ({ cls := "MarlStore", name := "set", desc := "(II)I" } : Jvm.MethodName)) ∈ gW := gW_in 746 (by decide +kernel) (by decide +kernel)
theorem tw_747 : (Jvm.Cond.selects "MarlStore" ({ cls := "MarlStore", name := "set", desc := "(II)I" } : Jvm.MethodName) ({ cls := "MarlStore", name := "set", desc := "(II)I" } : Jvm.MethodName)) ∈ gW := gW_in 747 (by decide +kernel) (by decide +kernel)
theorem cv_L_74 : gCv RL 74 yX10_set := ⟨tw_745, tw_746, tw_747⟩
theorem tw_793 : (Jvm.Cond.methodLink "MarlStoreLaw" (77 : Nat) ({ cls := "MarlStore", name := "copy", desc := "()I" } : Jvm.MethodName)) ∈ gW := gW_in 793 (by decide +kernel) (by decide +kernel)
theorem tw_794 : (Jvm.Cond.instanceMethod ({ cls := "MarlStore", name := "copy", desc := "()I" } : Jvm.MethodName)) ∈ gW := gW_in 794 (by decide +kernel) (by decide +kernel)
theorem tw_795 : (Jvm.Cond.selects "MarlStore" ({ cls := "MarlStore", name := "copy", desc := "()I" } : Jvm.MethodName) ({ cls := "MarlStore", name := "copy", desc := "()I" } : Jvm.MethodName)) ∈ gW := gW_in 795 (by decide +kernel) (by decide +kernel)
theorem cv_L_77 : gCv RL 77 yX10_copy := ⟨tw_793, tw_794, tw_795⟩
theorem tw_797 : (Jvm.Cond.methodLink "MarlStoreLaw" (80 : Nat) ({ cls := "MarlStore", name := "insert", desc := "(I)I" } : Jvm.MethodName)) ∈ gW := gW_in 797 (by decide +kernel) (by decide +kernel)
theorem tw_798 : (Jvm.Cond.instanceMethod ({ cls := "MarlStore", name := "insert", desc := "(I)I" } : Jvm.MethodName)) ∈ gW := gW_in 798 (by decide +kernel) (by decide +kernel)
theorem tw_799 : (Jvm.Cond.selects "MarlStore" ({ cls := "MarlStore", name := "insert", desc := "(I)I" } : Jvm.MethodName) ({ cls := "MarlStore", name := "insert", desc := "(I)I" } : Jvm.MethodName)) ∈ gW := gW_in 799 (by decide +kernel) (by decide +kernel)
theorem cv_L_80 : gCv RL 80 yX10_insert := ⟨tw_797, tw_798, tw_799⟩
theorem tw_814 : (Jvm.Cond.methodLink "MarlStoreLaw" (83 : Nat) ({ cls := "MarlStore", name := "clip", desc := "()I" } : Jvm.MethodName)) ∈ gW := gW_in 814 (by decide +kernel) (by decide +kernel)
theorem tw_815 : (Jvm.Cond.instanceMethod ({ cls := "MarlStore", name := "clip", desc := "()I" } : Jvm.MethodName)) ∈ gW := gW_in 815 (by decide +kernel) (by decide +kernel)
theorem tw_816 : (Jvm.Cond.selects "MarlStore" ({ cls := "MarlStore", name := "clip", desc := "()I" } : Jvm.MethodName) ({ cls := "MarlStore", name := "clip", desc := "()I" } : Jvm.MethodName)) ∈ gW := gW_in 816 (by decide +kernel) (by decide +kernel)
theorem cv_L_83 : gCv RL 83 yX10_clip := ⟨tw_814, tw_815, tw_816⟩
theorem tw_818 : (Jvm.Cond.methodLink "MarlStoreLaw" (86 : Nat) ({ cls := "MarlStore", name := "drop", desc := "(I)I" } : Jvm.MethodName)) ∈ gW := gW_in 818 (by decide +kernel) (by decide +kernel)
theorem tw_819 : (Jvm.Cond.instanceMethod ({ cls := "MarlStore", name := "drop", desc := "(I)I" } : Jvm.MethodName)) ∈ gW := gW_in 819 (by decide +kernel) (by decide +kernel)
theorem tw_820 : (Jvm.Cond.selects "MarlStore" ({ cls := "MarlStore", name := "drop", desc := "(I)I" } : Jvm.MethodName) ({ cls := "MarlStore", name := "drop", desc := "(I)I" } : Jvm.MethodName)) ∈ gW := gW_in 820 (by decide +kernel) (by decide +kernel)
theorem cv_L_86 : gCv RL 86 yX10_drop := ⟨tw_818, tw_819, tw_820⟩
theorem tw_830 : (Jvm.Cond.methodLink "MarlStoreLaw" (89 : Nat) ({ cls := "MarlStore", name := "diff", desc := "(II)I" } : Jvm.MethodName)) ∈ gW := gW_in 830 (by decide +kernel) (by decide +kernel)
theorem tw_831 : (Jvm.Cond.instanceMethod ({ cls := "MarlStore", name := "diff", desc := "(II)I" } : Jvm.MethodName)) ∈ gW := gW_in 831 (by decide +kernel) (by decide +kernel)
theorem tw_832 : (Jvm.Cond.selects "MarlStore" ({ cls := "MarlStore", name := "diff", desc := "(II)I" } : Jvm.MethodName) ({ cls := "MarlStore", name := "diff", desc := "(II)I" } : Jvm.MethodName)) ∈ gW := gW_in 832 (by decide +kernel) (by decide +kernel)
theorem cv_L_89 : gCv RL 89 yX10_diff := ⟨tw_830, tw_831, tw_832⟩
theorem tw_919 : (Jvm.Cond.methodLink "MarlStoreLaw" (92 : Nat) ({ cls := "MarlStore", name := "failsAt", desc := "(II)I" } : Jvm.MethodName)) ∈ gW := gW_in 919 (by decide +kernel) (by decide +kernel)
theorem tw_920 : (Jvm.Cond.instanceMethod ({ cls := "MarlStore", name := "failsAt", desc := "(II)I" } : Jvm.MethodName)) ∈ gW := gW_in 920 (by decide +kernel) (by decide +kernel)
theorem tw_921 : (Jvm.Cond.selects "MarlStore" ({ cls := "MarlStore", name := "failsAt", desc := "(II)I" } : Jvm.MethodName) ({ cls := "MarlStore", name := "failsAt", desc := "(II)I" } : Jvm.MethodName)) ∈ gW := gW_in 921 (by decide +kernel) (by decide +kernel)
theorem cv_L_92 : gCv RL 92 yX10_failsAt := ⟨tw_919, tw_920, tw_921⟩
theorem tw_939 : (Jvm.Cond.methodLink "MarlStoreLaw" (95 : Nat) ({ cls := "MarlStore", name := "operations", desc := "(I)I" } : Jvm.MethodName)) ∈ gW := gW_in 939 (by decide +kernel) (by decide +kernel)
theorem cv_L_95 : gCv RL 95 yX10_operations := ⟨tw_939, tw_518, tw_519⟩
theorem tw_940 : (Jvm.Cond.methodLink "MarlStoreLaw" (98 : Nat) ({ cls := "MarlStore", name := "changes", desc := "(II)I" } : Jvm.MethodName)) ∈ gW := gW_in 940 (by decide +kernel) (by decide +kernel)
theorem tw_941 : (Jvm.Cond.instanceMethod ({ cls := "MarlStore", name := "changes", desc := "(II)I" } : Jvm.MethodName)) ∈ gW := gW_in 941 (by decide +kernel) (by decide +kernel)
theorem tw_942 : (Jvm.Cond.selects "MarlStore" ({ cls := "MarlStore", name := "changes", desc := "(II)I" } : Jvm.MethodName) ({ cls := "MarlStore", name := "changes", desc := "(II)I" } : Jvm.MethodName)) ∈ gW := gW_in 942 (by decide +kernel) (by decide +kernel)
theorem cv_L_98 : gCv RL 98 yX10_changes := ⟨tw_940, tw_941, tw_942⟩
theorem tw_944 : (Jvm.Cond.methodLink "MarlStoreLaw" (101 : Nat) ({ cls := "MarlStore", name := "patches", desc := "()I" } : Jvm.MethodName)) ∈ gW := gW_in 944 (by decide +kernel) (by decide +kernel)
theorem tw_945 : (Jvm.Cond.instanceMethod ({ cls := "MarlStore", name := "patches", desc := "()I" } : Jvm.MethodName)) ∈ gW := gW_in 945 (by decide +kernel) (by decide +kernel)
theorem tw_946 : (Jvm.Cond.selects "MarlStore" ({ cls := "MarlStore", name := "patches", desc := "()I" } : Jvm.MethodName) ({ cls := "MarlStore", name := "patches", desc := "()I" } : Jvm.MethodName)) ∈ gW := gW_in 946 (by decide +kernel) (by decide +kernel)
theorem cv_L_101 : gCv RL 101 yX10_patches := ⟨tw_944, tw_945, tw_946⟩
theorem tw_948 : (Jvm.Cond.methodLink "MarlStoreLaw" (104 : Nat) ({ cls := "MarlStoreLaw", name := "isTurnedBack", desc := "(LMarlStore;II)Z" } : Jvm.MethodName)) ∈ gW := gW_in 948 (by decide +kernel) (by decide +kernel)
theorem tw_949 : (Jvm.Cond.static ({ cls := "MarlStoreLaw", name := "isTurnedBack", desc := "(LMarlStore;II)Z" } : Jvm.MethodName)) ∈ gW := gW_in 949 (by decide +kernel) (by decide +kernel)
theorem cs_L_104 : gCs RL 104 yL_isTurnedBack := ⟨tw_948, tw_949⟩
theorem tw_965 : (Jvm.Cond.methodLink "MarlStoreLaw" (108 : Nat) ({ cls := "MarlStore", name := "forget", desc := "()I" } : Jvm.MethodName)) ∈ gW := gW_in 965 (by decide +kernel) (by decide +kernel)
theorem tw_966 : (Jvm.Cond.instanceMethod ({ cls := "MarlStore", name := "forget", desc := "()I" } : Jvm.MethodName)) ∈ gW := gW_in 966 (by decide +kernel) (by decide +kernel)
theorem tw_967 : (Jvm.Cond.selects "MarlStore" ({ cls := "MarlStore", name := "forget", desc := "()I" } : Jvm.MethodName) ({ cls := "MarlStore", name := "forget", desc := "()I" } : Jvm.MethodName)) ∈ gW := gW_in 967 (by decide +kernel) (by decide +kernel)
theorem cv_L_108 : gCv RL 108 yX10_forget := ⟨tw_965, tw_966, tw_967⟩
theorem tw_970 : (Jvm.Cond.methodLink "MarlStoreLaw" (111 : Nat) ({ cls := "MarlStore", name := "addQuery", desc := "()I" } : Jvm.MethodName)) ∈ gW := gW_in 970 (by decide +kernel) (by decide +kernel)
theorem tw_971 : (Jvm.Cond.instanceMethod ({ cls := "MarlStore", name := "addQuery", desc := "()I" } : Jvm.MethodName)) ∈ gW := gW_in 971 (by decide +kernel) (by decide +kernel)
theorem tw_972 : (Jvm.Cond.selects "MarlStore" ({ cls := "MarlStore", name := "addQuery", desc := "()I" } : Jvm.MethodName) ({ cls := "MarlStore", name := "addQuery", desc := "()I" } : Jvm.MethodName)) ∈ gW := gW_in 972 (by decide +kernel) (by decide +kernel)
theorem cv_L_111 : gCv RL 111 yX10_addQuery := ⟨tw_970, tw_971, tw_972⟩
theorem tw_975 : (Jvm.Cond.methodLink "MarlStoreLaw" (114 : Nat) ({ cls := "MarlStore", name := "addPart", desc := "(III)I" } : Jvm.MethodName)) ∈ gW := gW_in 975 (by decide +kernel) (by decide +kernel)
theorem tw_976 : (Jvm.Cond.instanceMethod ({ cls := "MarlStore", name := "addPart", desc := "(III)I" } : Jvm.MethodName)) ∈ gW := gW_in 976 (by decide +kernel) (by decide +kernel)
theorem tw_977 : (Jvm.Cond.selects "MarlStore" ({ cls := "MarlStore", name := "addPart", desc := "(III)I" } : Jvm.MethodName) ({ cls := "MarlStore", name := "addPart", desc := "(III)I" } : Jvm.MethodName)) ∈ gW := gW_in 977 (by decide +kernel) (by decide +kernel)
theorem cv_L_114 : gCv RL 114 yX10_addPart := ⟨tw_975, tw_976, tw_977⟩
theorem tw_988 : (Jvm.Cond.methodLink "MarlStoreLaw" (118 : Nat) ({ cls := "MarlStore", name := "dropFound", desc := "(II)I" } : Jvm.MethodName)) ∈ gW := gW_in 988 (by decide +kernel) (by decide +kernel)
theorem tw_989 : (Jvm.Cond.instanceMethod ({ cls := "MarlStore", name := "dropFound", desc := "(II)I" } : Jvm.MethodName)) ∈ gW := gW_in 989 (by decide +kernel) (by decide +kernel)
theorem tw_990 : (Jvm.Cond.selects "MarlStore" ({ cls := "MarlStore", name := "dropFound", desc := "(II)I" } : Jvm.MethodName) ({ cls := "MarlStore", name := "dropFound", desc := "(II)I" } : Jvm.MethodName)) ∈ gW := gW_in 990 (by decide +kernel) (by decide +kernel)
theorem cv_L_118 : gCv RL 118 yX10_dropFound := ⟨tw_988, tw_989, tw_990⟩
theorem tw_951 : (Jvm.Cond.methodLink "MarlStoreLaw" (125 : Nat) ({ cls := "MarlStore", name := "apply", desc := "(II)I" } : Jvm.MethodName)) ∈ gW := gW_in 951 (by decide +kernel) (by decide +kernel)
theorem tw_952 : (Jvm.Cond.instanceMethod ({ cls := "MarlStore", name := "apply", desc := "(II)I" } : Jvm.MethodName)) ∈ gW := gW_in 952 (by decide +kernel) (by decide +kernel)
theorem tw_953 : (Jvm.Cond.selects "MarlStore" ({ cls := "MarlStore", name := "apply", desc := "(II)I" } : Jvm.MethodName) ({ cls := "MarlStore", name := "apply", desc := "(II)I" } : Jvm.MethodName)) ∈ gW := gW_in 953 (by decide +kernel) (by decide +kernel)
theorem cv_L_125 : gCv RL 125 yX10_apply := ⟨tw_951, tw_952, tw_953⟩
theorem tw_1001 : (Jvm.Cond.methodLink "MarlStoreLaw" (128 : Nat) ({ cls := "MarlStore", name := "depth", desc := "(I)I" } : Jvm.MethodName)) ∈ gW := gW_in 1001 (by decide +kernel) (by decide +kernel)
theorem tw_1002 : (Jvm.Cond.instanceMethod ({ cls := "MarlStore", name := "depth", desc := "(I)I" } : Jvm.MethodName)) ∈ gW := gW_in 1002 (by decide +kernel) (by decide +kernel)
theorem tw_1003 : (Jvm.Cond.selects "MarlStore" ({ cls := "MarlStore", name := "depth", desc := "(I)I" } : Jvm.MethodName) ({ cls := "MarlStore", name := "depth", desc := "(I)I" } : Jvm.MethodName)) ∈ gW := gW_in 1003 (by decide +kernel) (by decide +kernel)
theorem cv_L_128 : gCv RL 128 yX10_depth := ⟨tw_1001, tw_1002, tw_1003⟩
theorem tw_1005 : (Jvm.Cond.methodLink "MarlStoreLaw" (131 : Nat) ({ cls := "MarlStore", name := "difference", desc := "(II)I" } : Jvm.MethodName)) ∈ gW := gW_in 1005 (by decide +kernel) (by decide +kernel)
theorem cv_L_131 : gCv RL 131 yX10_difference := ⟨tw_1005, tw_469, tw_470⟩
theorem tw_1009 : (Jvm.Cond.methodLink "MarlStoreLaw" (134 : Nat) ({ cls := "MarlStore", name := "number", desc := "()I" } : Jvm.MethodName)) ∈ gW := gW_in 1009 (by decide +kernel) (by decide +kernel)
theorem tw_1010 : (Jvm.Cond.instanceMethod ({ cls := "MarlStore", name := "number", desc := "()I" } : Jvm.MethodName)) ∈ gW := gW_in 1010 (by decide +kernel) (by decide +kernel)
theorem tw_1011 : (Jvm.Cond.selects "MarlStore" ({ cls := "MarlStore", name := "number", desc := "()I" } : Jvm.MethodName) ({ cls := "MarlStore", name := "number", desc := "()I" } : Jvm.MethodName)) ∈ gW := gW_in 1011 (by decide +kernel) (by decide +kernel)
theorem cv_L_134 : gCv RL 134 yX10_number := ⟨tw_1009, tw_1010, tw_1011⟩
end
section
/-! THE GHOST LAYER: a judgement GW over W whose heap is a ghost: what never changes any more (im), what may change, by roles r at the addresses ad r (mc) -/
/-- a cell: an object (number of its class, fields), or an array (number of its kind, length, ints or references) -/
abbrev gC : Type := (Nat × List Value) ⊕ (Nat × Nat × ((Nat → Int32) ⊕ (Nat → Option Nat)))
abbrev gG : Type := (Nat → Option gC) × (Nat → Nat) × (Nat → Option gC)
def gE (dA : Nat → ClassId) : gC → va_E
  | .inl o => .inr o
  | .inr (k, n, .inl f) => .inl (dA k, n, .inl f)
  | .inr (k, n, .inr r) => .inl (dA k, n, .inr (.inr (.inr (.inr r))))
/-- c lies at a -/
def gL (G : gG) (a : Nat) (c : gC) : Prop := G.1 a = some c ∨ ∃ r, G.2.1 r = a ∧ G.2.2 r = some c
def gH (D : va_G) (dA : Nat → ClassId) (b0 : Nat) (G : gG) (H : Heap) : Prop :=
  (∀ a c, gL G a c → b0 ≤ a ∧ va_at D vwCl (a, gE dA c) H) ∧ (∀ r c, G.2.2 r = some c → G.1 (G.2.1 r) = none) ∧ (∀ r r' c c', G.2.2 r = some c → G.2.2 r' = some c' → G.2.1 r = G.2.1 r' → r = r')
def gT (dA : Nat → ClassId) : List (ClassId × FieldType) := [(dA 0, .int), (dA 1, .object "MarlStore$Value"), (dA 2, .object "MarlStore$Operation"), (dA 3, .object "MarlStore$Patch"), (dA 4, .object "MarlStore$Query"), (dA 5, .object "MarlStore$Schema"), (dA 6, .boolean)]
/-- the class, in the list, of what an array of kind k holds -/
def gKo : Nat → Nat
  | 1 => 8
  | 2 => 3
  | 3 => 4
  | 4 => 6
  | _ => 7
def gNkOk : Cond → Bool
  | .methodLinkNest .. => true
  | .declares _ => true
  | _ => false
def gNk : List Cond := lw_tbl.filter gNkOk
def gSt : List (Nat × String) := [(138, "the path has no such step"), (391, "there is no such document"), (393, "there is no such patch"), (240, "there is no such operation"), (242, "only 0 to 3 can be asked"), (395, "there is no such schema"), (397, "there is no such query"), (174, "there is no such place"), (114, "there is no such child"), (125, "the path has no steps"), (142, "there is no such value"), (231, "the patch would have too many operations"), (399, "there is no room for a patch"), (237, "there is no patch"), (314, "there is no room for a query"), (324, "there is no such part"), (328, "the query is full")]
def gAO : List String := ["MarlStore$Value", "MarlStore$Operation", "MarlStore$Patch", "MarlStore$Query", "MarlStore$Schema"]
def gB (b0 : Nat) : Nat → Prop := fun q => b0 ≤ q
/-- what holds of the tables, and of what lies outside, all the time -/
def gA (D : va_G) (dA : Nat → ClassId) (b0 : Nat) (U : State) (H : Heap) : Prop :=
  va_K D vwCl (gT dA) U ∧ vx_Zq Bundle.tN "UNASSIGNED_STACK" Bundle.steD (gB b0) U H ∧ vx_Zq Bundle.tN "SUPPRESSED_SENTINEL" Bundle.listD (gB b0) U H ∧ (∀ w ∈ gNk, va_Nw w U) ∧ (∀ C ∈ gAO, va_AO C U) ∧ (∀ q ∈ gSt, ∃ sa, vk_R RX10 q.1 q.2 sa U)
theorem gA.warm {D dA b0} {s U : State} {H : Heap} (hW : s.WarmedH U.vm) (h : gA D dA b0 s H) : gA D dA b0 U H := by
  obtain ⟨h1, h2, h3, h4, h5, h6⟩ := h
  refine ⟨va_K.moved hW.alike h1, h2.moved hW.alike, h3.moved hW.alike, fun w hw => ?_, fun C hC => (h5 C hC).moved hW.alike, fun q hq => ?_⟩
  · have hk := (List.mem_filter.mp hw).2
    have hn := h4 w hw
    cases w <;> first | exact va_Nw.warmM hW hn | exact va_Nw.warmD hW hn | (simp [gNkOk] at hk)
  · obtain ⟨sa, h⟩ := h6 q hq
    exact ⟨sa, h.warm hW⟩
theorem gA.kept {D dA b0} {s : State} {H H1 : Heap} (h : gA D dA b0 s H) (hq : ∀ a : Nat, a < H.size → ¬ gB b0 a → H1[a]? = H[a]?) : gA D dA b0 s H1 :=
  ⟨h.1, h.2.1.kept hq, h.2.2.1.kept hq, h.2.2.2⟩
/-- a method that is walked: class, bytes, locals, answer's type, table, name, depth, cells, slots -/
abbrev gM : Type := String × ByteArray × Nat × Option FieldType × List ExceptionTableEntry × String × Nat × Nat × Nat
abbrev gM.own (M : gM) : String := M.1
abbrev gM.cc (M : gM) : ByteArray := M.2.1
abbrev gM.nL (M : gM) : Nat := M.2.2.1
abbrev gM.ret (M : gM) : Option FieldType := M.2.2.2.1
abbrev gM.tab (M : gM) : List ExceptionTableEntry := M.2.2.2.2.1
abbrev gM.nm (M : gM) : String := M.2.2.2.2.2.1
abbrev gM.dp (M : gM) : Nat := M.2.2.2.2.2.2.1
abbrev gM.kc (M : gM) : Nat := M.2.2.2.2.2.2.2.1
abbrev gM.ks (M : gM) : Nat := M.2.2.2.2.2.2.2.2
def gRm (d kc ks : Nat) : Room := { frames := d, cells := kc, slots := ks, locals := 100 * d }
def gX (M : gM) (D : va_G) (dA : Nat → ClassId) (b0 : Nat) (p : Program) (l : Launch) (R : Room) (s : State) (m : MethodId) (args : Array Value) (meth : Method) (c : Code) : Prop :=
  p.tables.exec = Jvm.exec ∧ c.code = M.cc ∧ c.maxLocals = M.nL ∧ s.vm.findClass M.own = some m.cls ∧ (∀ w ∈ gW, w.before args s = true) ∧ gA D dA b0 s s.heap ∧ meth.sig.returnType = M.ret ∧ meth.locks = false ∧ l.flags = flags0 ∧ R = gRm M.dp M.kc M.ks ∧ c.exceptionTable.toList = M.tab ∧ meth.name = M.nm ∧ b0 ≤ s.heap.size
def gQ (D : va_G) (dA : Nat → ClassId) (b0 : Nat) (Q : Option Value → gG → Prop) : Array Value → State → Outcome → State → Prop := fun _ st o t =>
  (∃ v G', o = .returned v ∧ Q v G' ∧ gH D dA b0 G' t.heap) ∧ va_F (gB b0) st t
def gXC (D : va_G) (dA : Nat → ClassId) (b0 : Nat) (X : String → gG → Prop) : String → State → State → Prop := fun E st t =>
  (∃ G', X E G' ∧ gH D dA b0 G' t.heap) ∧ va_F (gB b0) st t
def gHas (ls : Array Slot) (nL : Nat) (L : List (Option Value)) : Prop := ls.size = nL ∧ lv_wf ls ∧ ∀ (i : Nat) (v : Value), L[i]? = some (some v) → ls[i]? = some (Slot.val v)
def GW (M : gM) (Q : Option Value → gG → Prop) (X : String → gG → Prop) (G : gG) (k n pc : Nat) (L : List (Option Value)) (st : List Value) : Prop :=
  ∀ (p : Program) (l : Launch) (e : Env) (R : Room) (s : State) (m : MethodId) (args : Array Value) (below : List Frame) (meth : Method) (c : Code) (D : va_G) (dA : Nat → ClassId) (b0 : Nat), gX M D dA b0 p l R s m args meth c →
    ∀ (H : Heap) (locs : List Loc) (ls : Array Slot), gH D dA b0 G H → va_S (gB b0) s.heap H locs → gHas ls M.nL L →
      W p l e R s m args below meth c H locs k n (vx_MQ below (gQ D dA b0 Q) (gXC D dA b0 X) args s M.kc M.ks (gB b0)) (F0 m pc ls st)
/-- a contract: from the ghost G, with these arguments, the method comes to an answer and a ghost with Q, or throws with X -/
def gWs (y : MethodName) (cc : ByteArray) (mL : Nat) (ret : Option FieldType) : List Cond := Cond.code y cc mL ret :: gW
def Ctr (y : MethodName) (cc : ByteArray) (mL : Nat) (ret : Option FieldType) (d kc ks : Nat) (as : List Value) (G : gG) (Q : Option Value → gG → Prop) (X : String → gG → Prop) : Prop :=
  ∀ (l : Launch) (D : va_G) (dA : Nat → ClassId) (b0 : Nat), l.flags = flags0 →
    vx_Met l y (gWs y cc mL ret) (gRm d kc ks) (va_Pc as (fun U => gA D dA b0 U U.heap ∧ gH D dA b0 G U.heap ∧ b0 ≤ U.heap.size)) (gQ D dA b0 Q) (gXC D dA b0 X) kc ks (gB b0)
section GWR
variable {M : gM} {Q : Option Value → gG → Prop} {X : String → gG → Prop} {G : gG} {k n pc : Nat} {L : List (Option Value)} {st : List Value}
/-- a row that changes neither heap nor room -/
theorem GW.pure {pc' : Nat} {L' : List (Option Value)} {st' : List Value}
    (h : ∀ (p : Program) (l : Launch) (e : Env) (R : Room) (s : State) (m : MethodId) (args : Array Value) (below : List Frame) (meth : Method) (c : Code) (D : va_G) (dA : Nat → ClassId) (b0 : Nat), gX M D dA b0 p l R s m args meth c → ∀ (H : Heap) (locs : List Loc) (ls : Array Slot), gHas ls M.nL L → ∀ (QQ : State → Prop), (∀ ls', gHas ls' M.nL L' → W p l e R s m args below meth c H locs k n QQ (F0 m pc' ls' st')) → W p l e R s m args below meth c H locs k n QQ (F0 m pc ls st))
    (g : GW M Q X G k n pc' L' st') : GW M Q X G k n pc L st := by
  intro p l e R s m args below meth c D dA b0 hX H locs ls hG hS hL
  exact h p l e R s m args below meth c D dA b0 hX H locs ls hL _ (fun ls' hL' => g p l e R s m args below meth c D dA b0 hX H locs ls' hG hS hL')
theorem gHas.store1 {ls : Array Slot} {nL i : Nat} {v : Value} (h : gHas ls nL L) (hi : i < nL) (hc : v.category = 1) (hp : ∀ (j : Nat) (w : Value), i = j + 1 → L[j]? = some (some w) → w.category ≠ 2) :
    ∃ ls', storeLocals ls i v = some ls' ∧ gHas ls' nL (L.set i (some v)) := by
  obtain ⟨h1, h2, h3⟩ := h
  obtain ⟨ls', e1, s1, w1, m1⟩ := lv_store1 (l := []) (⟨h1, h2, fun _ z => by cases z⟩ : lv_has ls nL []) hi hc
  refine ⟨ls', e1, s1, w1, fun j w hj => ?_⟩
  by_cases hji : j = i
  · subst hji
    rw [List.getElem?_set] at hj
    simp only [if_true] at hj
    by_cases hl : j < L.length
    · rw [if_pos hl] at hj
      cases hj
      exact m1 (j, v) List.mem_cons_self
    · rw [if_neg hl] at hj
      cases hj
  · rw [List.getElem?_set, if_neg (Ne.symm hji)] at hj
    obtain ⟨ls2, e2, -, -, m2⟩ := lv_store1 (l := [(j, w)]) (v := v) (⟨h1, h2, fun q hq => by rw [List.mem_singleton.mp hq]; exact h3 j w hj⟩ : lv_has ls nL [(j, w)]) hi hc
    cases Option.some.inj (e2.symm.trans e1)
    refine m2 (j, w) (List.mem_cons_of_mem _ ?_)
    rw [List.mem_filter]
    refine ⟨List.mem_singleton.mpr rfl, ?_⟩
    have q1 : (j == i) = false := by simp [hji]
    simp only [q1, Bool.not_false, Bool.true_and]
    by_cases hj1 : i = j + 1
    · have := hp j w hj1 hj
      simp [this]
    · have : (j + 1 == i) = false := by simp [Ne.symm hj1]
      simp [this]
theorem gHas.store2 {ls : Array Slot} {nL i : Nat} {v : Value} (h : gHas ls nL L) (hi : i + 1 < nL) (hc : v.category = 2) (hp : ∀ (j : Nat) (w : Value), i = j + 1 → L[j]? = some (some w) → w.category ≠ 2) :
    ∃ ls', storeLocals ls i v = some ls' ∧ gHas ls' nL ((L.set i (some v)).set (i + 1) none) := by
  obtain ⟨h1, h2, h3⟩ := h
  obtain ⟨ls', e1, s1, w1, m1⟩ := lv_store2 (l := []) (⟨h1, h2, fun _ z => by cases z⟩ : lv_has ls nL []) hi hc
  refine ⟨ls', e1, s1, w1, fun j w hj => ?_⟩
  by_cases hj2 : j = i + 1
  · subst hj2
    rw [List.getElem?_set] at hj
    simp only [if_true] at hj
    split at hj <;> cases hj
  · rw [List.getElem?_set, if_neg (Ne.symm hj2)] at hj
    by_cases hji : j = i
    · subst hji
      rw [List.getElem?_set] at hj
      simp only [if_true] at hj
      by_cases hl : j < L.length
      · rw [if_pos hl] at hj
        cases hj
        exact m1 (j, v) List.mem_cons_self
      · rw [if_neg hl] at hj
        cases hj
    · rw [List.getElem?_set, if_neg (Ne.symm hji)] at hj
      obtain ⟨ls2, e2, -, -, m2⟩ := lv_store2 (l := [(j, w)]) (v := v) (⟨h1, h2, fun q hq => by rw [List.mem_singleton.mp hq]; exact h3 j w hj⟩ : lv_has ls nL [(j, w)]) hi hc
      cases Option.some.inj (e2.symm.trans e1)
      refine m2 (j, w) (List.mem_cons_of_mem _ ?_)
      rw [List.mem_filter]
      refine ⟨List.mem_singleton.mpr rfl, ?_⟩
      have q1 : (j == i) = false := by simp [hji]
      have q2 : (j == i + 1) = false := by simp [hj2]
      simp only [q1, q2, Bool.not_false, Bool.true_and]
      by_cases hj1 : i = j + 1
      · have := hp j w hj1 hj
        simp [this]
      · have : (j + 1 == i) = false := by simp [Ne.symm hj1]
        simp [this]
theorem gHas.weak {ls : Array Slot} {nL : Nat} {L L' : List (Option Value)} (h : gHas ls nL L) (hs : ∀ (i : Nat) (v : Value), L'[i]? = some (some v) → L[i]? = some (some v)) : gHas ls nL L' := ⟨h.1, h.2.1, fun i v hi => h.2.2 i v (hs i v hi)⟩
theorem GW.weak {L' : List (Option Value)} (hs : ∀ (i : Nat) (v : Value), L'[i]? = some (some v) → L[i]? = some (some v)) (g : GW M Q X G k n pc L' st) : GW M Q X G k n pc L st :=
  fun p l e R s m args below meth c D dA b0 hX H locs ls hG hS hL => g p l e R s m args below meth c D dA b0 hX H locs ls hG hS (hL.weak hs)
theorem GW.drop (i : Nat) (g : GW M Q X G k n pc (L.set i none) st) : GW M Q X G k n pc L st := g.weak fun j v hj => by
  rw [List.getElem?_set] at hj
  split at hj
  · split at hj <;> cases hj
  · exact hj
theorem GW.post {Q' : Option Value → gG → Prop} {X' : String → gG → Prop} (hQ : ∀ v G, Q' v G → Q v G) (hX : ∀ E G, X' E G → X E G) (g : GW M Q' X' G k n pc L st) : GW M Q X G k n pc L st := by
  intro p l e R s m args below meth c D dA b0 hXX H locs ls hG hS hL T hT XX
  obtain ⟨t, a, o, b1, b2, b3⟩ := g p l e R s m args below meth c D dA b0 hXX H locs ls hG hS hL T hT XX
  refine ⟨t, a, o, b1, b2, ?_⟩
  rcases b3 with ⟨⟨⟨v, G', e1, q1, q2⟩, f⟩, r⟩ | ⟨q, e1, E, ce, L1, ⟨⟨G', q1, q2⟩, f⟩, r⟩
  · exact Or.inl ⟨⟨⟨v, G', e1, hQ _ _ q1, q2⟩, f⟩, r⟩
  · exact Or.inr ⟨q, e1, E, ce, L1, ⟨⟨G', hX _ _ q1, q2⟩, f⟩, r⟩
theorem GW.widen {k' n' : Nat} (hk : k ≤ k') (hn : n ≤ n') (g : GW M Q X G k' n' pc L st) : GW M Q X G k n pc L st :=
  fun p l e R s m args below meth c D dA b0 hX H locs ls hG hS hL => W.widen hk hn (g p l e R s m args below meth c D dA b0 hX H locs ls hG hS hL)
/-- the ghost may be seen otherwise, when the heap holds it as well -/
theorem GW.ghost {G' : gG} (h : ∀ D dA b0 H, gH D dA b0 G H → gH D dA b0 G' H) (g : GW M Q X G' k n pc L st) : GW M Q X G k n pc L st :=
  fun p l e R s m args below meth c D dA b0 hX H locs ls hG hS hL => g p l e R s m args below meth c D dA b0 hX H locs ls (h D dA b0 H hG) hS hL

theorem GW.iconst {z : Int} {v : Int32} (hd : decode M.cc pc = .ok (.iconst z, 1)) (hv : Int32.ofInt z = v) (g : GW M Q X G k n (pc + 1) L (.int v :: st)) : GW M Q X G k n pc L (st) :=
  g.pure fun p l e R s m args below meth c D dA b0 hX H locs ls hL QQ kk => lv_iconst hX.1 hX.2.1 hd hv (kk ls hL)
theorem GW.bipush {z : Int} {v : Int32} (hd : decode M.cc pc = .ok (.bipush z, 2)) (hv : (Int8.ofInt z).toInt32 = v) (g : GW M Q X G k n (pc + 2) L (.int v :: st)) : GW M Q X G k n pc L (st) :=
  g.pure fun p l e R s m args below meth c D dA b0 hX H locs ls hL QQ kk => lv_bipush hX.1 hX.2.1 hd hv (kk ls hL)
theorem GW.sipush {z : Int} {v : Int32} (hd : decode M.cc pc = .ok (.sipush z, 3)) (hv : (Int16.ofInt z).toInt32 = v) (g : GW M Q X G k n (pc + 3) L (.int v :: st)) : GW M Q X G k n pc L (st) :=
  g.pure fun p l e R s m args below meth c D dA b0 hX H locs ls hL QQ kk => lv_sipush hX.1 hX.2.1 hd hv (kk ls hL)
theorem GW.lconst {z : Fin 2} {v : Int64} (hd : decode M.cc pc = .ok (.lconst z, 1)) (hv : Int64.ofNat (z : Nat) = v) (g : GW M Q X G k n (pc + 1) L (.long v :: st)) : GW M Q X G k n pc L (st) :=
  g.pure fun p l e R s m args below meth c D dA b0 hX H locs ls hL QQ kk => lv_lconst hX.1 hX.2.1 hd hv (kk ls hL)
theorem GW.null (hd : decode M.cc pc = .ok (.aconst_null, 1)) (g : GW M Q X G k n (pc + 1) L (.null :: st)) : GW M Q X G k n pc L (st) :=
  g.pure fun p l e R s m args below meth c D dA b0 hX H locs ls hL QQ kk => lv_null hX.1 hX.2.1 hd (kk ls hL)
theorem GW.iadd {x y : Int32} (hd : decode M.cc pc = .ok (.iadd, 1)) (g : GW M Q X G k n (pc + 1) L (.int (x + y) :: st)) : GW M Q X G k n pc L (.int y :: .int x :: st) :=
  g.pure fun p l e R s m args below meth c D dA b0 hX H locs ls hL QQ kk => lv_iadd hX.1 hX.2.1 hd (kk ls hL)
theorem GW.isub {x y : Int32} (hd : decode M.cc pc = .ok (.isub, 1)) (g : GW M Q X G k n (pc + 1) L (.int (x - y) :: st)) : GW M Q X G k n pc L (.int y :: .int x :: st) :=
  g.pure fun p l e R s m args below meth c D dA b0 hX H locs ls hL QQ kk => lv_isub hX.1 hX.2.1 hd (kk ls hL)
theorem GW.imul {x y : Int32} (hd : decode M.cc pc = .ok (.imul, 1)) (g : GW M Q X G k n (pc + 1) L (.int (x * y) :: st)) : GW M Q X G k n pc L (.int y :: .int x :: st) :=
  g.pure fun p l e R s m args below meth c D dA b0 hX H locs ls hL QQ kk => lv_imul hX.1 hX.2.1 hd (kk ls hL)
theorem GW.iand {x y : Int32} (hd : decode M.cc pc = .ok (.iand, 1)) (g : GW M Q X G k n (pc + 1) L (.int (x &&& y) :: st)) : GW M Q X G k n pc L (.int y :: .int x :: st) :=
  g.pure fun p l e R s m args below meth c D dA b0 hX H locs ls hL QQ kk => lv_iand hX.1 hX.2.1 hd (kk ls hL)
theorem GW.ior {x y : Int32} (hd : decode M.cc pc = .ok (.ior, 1)) (g : GW M Q X G k n (pc + 1) L (.int (x ||| y) :: st)) : GW M Q X G k n pc L (.int y :: .int x :: st) :=
  g.pure fun p l e R s m args below meth c D dA b0 hX H locs ls hL QQ kk => lv_ior hX.1 hX.2.1 hd (kk ls hL)
theorem GW.ishl {x y : Int32} (hd : decode M.cc pc = .ok (.ishl, 1)) (g : GW M Q X G k n (pc + 1) L (.int (x <<< (y &&& 31)) :: st)) : GW M Q X G k n pc L (.int y :: .int x :: st) :=
  g.pure fun p l e R s m args below meth c D dA b0 hX H locs ls hL QQ kk => lv_ishl hX.1 hX.2.1 hd (kk ls hL)
theorem GW.ishr {x y : Int32} (hd : decode M.cc pc = .ok (.ishr, 1)) (g : GW M Q X G k n (pc + 1) L (.int (x >>> (y &&& 31)) :: st)) : GW M Q X G k n pc L (.int y :: .int x :: st) :=
  g.pure fun p l e R s m args below meth c D dA b0 hX H locs ls hL QQ kk => lv_ishr hX.1 hX.2.1 hd (kk ls hL)
theorem GW.idiv {x y : Int32} (hd : decode M.cc pc = .ok (.idiv, 1)) (hne : ¬ y = 0) (g : GW M Q X G k n (pc + 1) L (.int (x / y) :: st)) : GW M Q X G k n pc L (.int y :: .int x :: st) :=
  g.pure fun p l e R s m args below meth c D dA b0 hX H locs ls hL QQ kk => lv_idiv hX.1 hX.2.1 hd hne (kk ls hL)
theorem GW.irem {x y : Int32} (hd : decode M.cc pc = .ok (.irem, 1)) (hne : ¬ y = 0) (g : GW M Q X G k n (pc + 1) L (.int (x - x / y * y) :: st)) : GW M Q X G k n pc L (.int y :: .int x :: st) :=
  g.pure fun p l e R s m args below meth c D dA b0 hX H locs ls hL QQ kk => lv_irem hX.1 hX.2.1 hd hne (kk ls hL)
theorem GW.ladd {x y : Int64} (hd : decode M.cc pc = .ok (.ladd, 1)) (g : GW M Q X G k n (pc + 1) L (.long (x + y) :: st)) : GW M Q X G k n pc L (.long y :: .long x :: st) :=
  g.pure fun p l e R s m args below meth c D dA b0 hX H locs ls hL QQ kk => lv_ladd hX.1 hX.2.1 hd (kk ls hL)
theorem GW.lsub {x y : Int64} (hd : decode M.cc pc = .ok (.lsub, 1)) (g : GW M Q X G k n (pc + 1) L (.long (x - y) :: st)) : GW M Q X G k n pc L (.long y :: .long x :: st) :=
  g.pure fun p l e R s m args below meth c D dA b0 hX H locs ls hL QQ kk => lv_lsub hX.1 hX.2.1 hd (kk ls hL)
theorem GW.lmul {x y : Int64} (hd : decode M.cc pc = .ok (.lmul, 1)) (g : GW M Q X G k n (pc + 1) L (.long (x * y) :: st)) : GW M Q X G k n pc L (.long y :: .long x :: st) :=
  g.pure fun p l e R s m args below meth c D dA b0 hX H locs ls hL QQ kk => lv_lmul hX.1 hX.2.1 hd (kk ls hL)
theorem GW.land {x y : Int64} (hd : decode M.cc pc = .ok (.land, 1)) (g : GW M Q X G k n (pc + 1) L (.long (x &&& y) :: st)) : GW M Q X G k n pc L (.long y :: .long x :: st) :=
  g.pure fun p l e R s m args below meth c D dA b0 hX H locs ls hL QQ kk => lv_land hX.1 hX.2.1 hd (kk ls hL)
theorem GW.lor {x y : Int64} (hd : decode M.cc pc = .ok (.lor, 1)) (g : GW M Q X G k n (pc + 1) L (.long (x ||| y) :: st)) : GW M Q X G k n pc L (.long y :: .long x :: st) :=
  g.pure fun p l e R s m args below meth c D dA b0 hX H locs ls hL QQ kk => lv_lor hX.1 hX.2.1 hd (kk ls hL)
theorem GW.lshl {x v : Int64} {y : Int32} (hd : decode M.cc pc = .ok (.lshl, 1)) (hv : x <<< (y.toInt64 &&& 63) = v) (g : GW M Q X G k n (pc + 1) L (.long v :: st)) : GW M Q X G k n pc L (.int y :: .long x :: st) :=
  g.pure fun p l e R s m args below meth c D dA b0 hX H locs ls hL QQ kk => lv_lshl hX.1 hX.2.1 hd hv (kk ls hL)
theorem GW.lshr {x v : Int64} {y : Int32} (hd : decode M.cc pc = .ok (.lshr, 1)) (hv : x >>> (y.toInt64 &&& 63) = v) (g : GW M Q X G k n (pc + 1) L (.long v :: st)) : GW M Q X G k n pc L (.int y :: .long x :: st) :=
  g.pure fun p l e R s m args below meth c D dA b0 hX H locs ls hL QQ kk => lv_lshr hX.1 hX.2.1 hd hv (kk ls hL)
theorem GW.lushr {x v : Int64} {y : Int32} (hd : decode M.cc pc = .ok (.lushr, 1)) (hv : (x.toUInt64 >>> (y.toInt64.toUInt64 &&& Int64.toUInt64 63)).toInt64 = v) (g : GW M Q X G k n (pc + 1) L (.long v :: st)) : GW M Q X G k n pc L (.int y :: .long x :: st) :=
  g.pure fun p l e R s m args below meth c D dA b0 hX H locs ls hL QQ kk => lv_lushr hX.1 hX.2.1 hd hv (kk ls hL)
theorem GW.i2l {x : Int32} (hd : decode M.cc pc = .ok (.i2l, 1)) (g : GW M Q X G k n (pc + 1) L (.long x.toInt64 :: st)) : GW M Q X G k n pc L (.int x :: st) :=
  g.pure fun p l e R s m args below meth c D dA b0 hX H locs ls hL QQ kk => lv_i2l hX.1 hX.2.1 hd rfl (kk ls hL)
theorem GW.l2i {x : Int64} (hd : decode M.cc pc = .ok (.l2i, 1)) (g : GW M Q X G k n (pc + 1) L (.int x.toInt32 :: st)) : GW M Q X G k n pc L (.long x :: st) :=
  g.pure fun p l e R s m args below meth c D dA b0 hX H locs ls hL QQ kk => lv_l2i hX.1 hX.2.1 hd rfl (kk ls hL)
theorem GW.lcmp {x y : Int64} (hd : decode M.cc pc = .ok (.lcmp, 1)) (g : GW M Q X G k n (pc + 1) L (.int (lg_cmp x y) :: st)) : GW M Q X G k n pc L (.long y :: .long x :: st) :=
  g.pure fun p l e R s m args below meth c D dA b0 hX H locs ls hL QQ kk => W.lcmp hX.1 hX.2.1 hd (kk ls hL)
theorem GW.dup {v : Value} (hd : decode M.cc pc = .ok (.dup, 1)) (hv : v.category = 1 := by rfl) (g : GW M Q X G k n (pc + 1) L (v :: v :: st)) : GW M Q X G k n pc L (v :: st) :=
  g.pure fun p l e R s m args below meth c D dA b0 hX H locs ls hL QQ kk => lv_dup hX.1 hX.2.1 hd hv (kk ls hL)
theorem GW.pop {v : Value} (hd : decode M.cc pc = .ok (.pop, 1)) (hv : v.category = 1 := by rfl) (g : GW M Q X G k n (pc + 1) L (st)) : GW M Q X G k n pc L (v :: st) :=
  g.pure fun p l e R s m args below meth c D dA b0 hX H locs ls hL QQ kk => lv_pop hX.1 hX.2.1 hd hv (kk ls hL)
theorem GW.if_eq {x : Int32} {off : Int} {tgt : Nat} (hd : decode M.cc pc = .ok (.ifCond .eq off, 3)) (ht : (pc : Int) + off = (tgt : Int)) (gt : x = 0 → GW M Q X G k n tgt L st) (gf : ¬ x = 0 → GW M Q X G k n (pc + 3) L st) : GW M Q X G k n pc L (.int x :: st) :=
  fun p l e R s m args below meth c D dA b0 hX H locs ls hG hS hL => lv_if_eq hX.1 hX.2.1 hd ht (fun q => gt q p l e R s m args below meth c D dA b0 hX H locs ls hG hS hL) (fun q => gf q p l e R s m args below meth c D dA b0 hX H locs ls hG hS hL)
theorem GW.icmp_eq {x y : Int32} {off : Int} {tgt : Nat} (hd : decode M.cc pc = .ok (.if_icmp .eq off, 3)) (ht : (pc : Int) + off = (tgt : Int)) (gt : x = y → GW M Q X G k n tgt L st) (gf : ¬ x = y → GW M Q X G k n (pc + 3) L st) : GW M Q X G k n pc L (.int y :: .int x :: st) :=
  fun p l e R s m args below meth c D dA b0 hX H locs ls hG hS hL => lv_icmp_eq hX.1 hX.2.1 hd ht (fun q => gt q p l e R s m args below meth c D dA b0 hX H locs ls hG hS hL) (fun q => gf q p l e R s m args below meth c D dA b0 hX H locs ls hG hS hL)
theorem GW.if_ne {x : Int32} {off : Int} {tgt : Nat} (hd : decode M.cc pc = .ok (.ifCond .ne off, 3)) (ht : (pc : Int) + off = (tgt : Int)) (gt : ¬ x = 0 → GW M Q X G k n tgt L st) (gf : x = 0 → GW M Q X G k n (pc + 3) L st) : GW M Q X G k n pc L (.int x :: st) :=
  fun p l e R s m args below meth c D dA b0 hX H locs ls hG hS hL => lv_if_ne hX.1 hX.2.1 hd ht (fun q => gt q p l e R s m args below meth c D dA b0 hX H locs ls hG hS hL) (fun q => gf q p l e R s m args below meth c D dA b0 hX H locs ls hG hS hL)
theorem GW.icmp_ne {x y : Int32} {off : Int} {tgt : Nat} (hd : decode M.cc pc = .ok (.if_icmp .ne off, 3)) (ht : (pc : Int) + off = (tgt : Int)) (gt : ¬ x = y → GW M Q X G k n tgt L st) (gf : x = y → GW M Q X G k n (pc + 3) L st) : GW M Q X G k n pc L (.int y :: .int x :: st) :=
  fun p l e R s m args below meth c D dA b0 hX H locs ls hG hS hL => lv_icmp_ne hX.1 hX.2.1 hd ht (fun q => gt q p l e R s m args below meth c D dA b0 hX H locs ls hG hS hL) (fun q => gf q p l e R s m args below meth c D dA b0 hX H locs ls hG hS hL)
theorem GW.if_lt {x : Int32} {off : Int} {tgt : Nat} (hd : decode M.cc pc = .ok (.ifCond .lt off, 3)) (ht : (pc : Int) + off = (tgt : Int)) (gt : x < 0 → GW M Q X G k n tgt L st) (gf : ¬ x < 0 → GW M Q X G k n (pc + 3) L st) : GW M Q X G k n pc L (.int x :: st) :=
  fun p l e R s m args below meth c D dA b0 hX H locs ls hG hS hL => lv_if_lt hX.1 hX.2.1 hd ht (fun q => gt q p l e R s m args below meth c D dA b0 hX H locs ls hG hS hL) (fun q => gf q p l e R s m args below meth c D dA b0 hX H locs ls hG hS hL)
theorem GW.icmp_lt {x y : Int32} {off : Int} {tgt : Nat} (hd : decode M.cc pc = .ok (.if_icmp .lt off, 3)) (ht : (pc : Int) + off = (tgt : Int)) (gt : x < y → GW M Q X G k n tgt L st) (gf : ¬ x < y → GW M Q X G k n (pc + 3) L st) : GW M Q X G k n pc L (.int y :: .int x :: st) :=
  fun p l e R s m args below meth c D dA b0 hX H locs ls hG hS hL => lv_icmp_lt hX.1 hX.2.1 hd ht (fun q => gt q p l e R s m args below meth c D dA b0 hX H locs ls hG hS hL) (fun q => gf q p l e R s m args below meth c D dA b0 hX H locs ls hG hS hL)
theorem GW.if_ge {x : Int32} {off : Int} {tgt : Nat} (hd : decode M.cc pc = .ok (.ifCond .ge off, 3)) (ht : (pc : Int) + off = (tgt : Int)) (gt : 0 ≤ x → GW M Q X G k n tgt L st) (gf : ¬ 0 ≤ x → GW M Q X G k n (pc + 3) L st) : GW M Q X G k n pc L (.int x :: st) :=
  fun p l e R s m args below meth c D dA b0 hX H locs ls hG hS hL => lv_if_ge hX.1 hX.2.1 hd ht (fun q => gt q p l e R s m args below meth c D dA b0 hX H locs ls hG hS hL) (fun q => gf q p l e R s m args below meth c D dA b0 hX H locs ls hG hS hL)
theorem GW.icmp_ge {x y : Int32} {off : Int} {tgt : Nat} (hd : decode M.cc pc = .ok (.if_icmp .ge off, 3)) (ht : (pc : Int) + off = (tgt : Int)) (gt : y ≤ x → GW M Q X G k n tgt L st) (gf : ¬ y ≤ x → GW M Q X G k n (pc + 3) L st) : GW M Q X G k n pc L (.int y :: .int x :: st) :=
  fun p l e R s m args below meth c D dA b0 hX H locs ls hG hS hL => lv_icmp_ge hX.1 hX.2.1 hd ht (fun q => gt q p l e R s m args below meth c D dA b0 hX H locs ls hG hS hL) (fun q => gf q p l e R s m args below meth c D dA b0 hX H locs ls hG hS hL)
theorem GW.if_gt {x : Int32} {off : Int} {tgt : Nat} (hd : decode M.cc pc = .ok (.ifCond .gt off, 3)) (ht : (pc : Int) + off = (tgt : Int)) (gt : 0 < x → GW M Q X G k n tgt L st) (gf : ¬ 0 < x → GW M Q X G k n (pc + 3) L st) : GW M Q X G k n pc L (.int x :: st) :=
  fun p l e R s m args below meth c D dA b0 hX H locs ls hG hS hL => lv_if_gt hX.1 hX.2.1 hd ht (fun q => gt q p l e R s m args below meth c D dA b0 hX H locs ls hG hS hL) (fun q => gf q p l e R s m args below meth c D dA b0 hX H locs ls hG hS hL)
theorem GW.icmp_gt {x y : Int32} {off : Int} {tgt : Nat} (hd : decode M.cc pc = .ok (.if_icmp .gt off, 3)) (ht : (pc : Int) + off = (tgt : Int)) (gt : y < x → GW M Q X G k n tgt L st) (gf : ¬ y < x → GW M Q X G k n (pc + 3) L st) : GW M Q X G k n pc L (.int y :: .int x :: st) :=
  fun p l e R s m args below meth c D dA b0 hX H locs ls hG hS hL => lv_icmp_gt hX.1 hX.2.1 hd ht (fun q => gt q p l e R s m args below meth c D dA b0 hX H locs ls hG hS hL) (fun q => gf q p l e R s m args below meth c D dA b0 hX H locs ls hG hS hL)
theorem GW.if_le {x : Int32} {off : Int} {tgt : Nat} (hd : decode M.cc pc = .ok (.ifCond .le off, 3)) (ht : (pc : Int) + off = (tgt : Int)) (gt : x ≤ 0 → GW M Q X G k n tgt L st) (gf : ¬ x ≤ 0 → GW M Q X G k n (pc + 3) L st) : GW M Q X G k n pc L (.int x :: st) :=
  fun p l e R s m args below meth c D dA b0 hX H locs ls hG hS hL => lv_if_le hX.1 hX.2.1 hd ht (fun q => gt q p l e R s m args below meth c D dA b0 hX H locs ls hG hS hL) (fun q => gf q p l e R s m args below meth c D dA b0 hX H locs ls hG hS hL)
theorem GW.icmp_le {x y : Int32} {off : Int} {tgt : Nat} (hd : decode M.cc pc = .ok (.if_icmp .le off, 3)) (ht : (pc : Int) + off = (tgt : Int)) (gt : x ≤ y → GW M Q X G k n tgt L st) (gf : ¬ x ≤ y → GW M Q X G k n (pc + 3) L st) : GW M Q X G k n pc L (.int y :: .int x :: st) :=
  fun p l e R s m args below meth c D dA b0 hX H locs ls hG hS hL => lv_icmp_le hX.1 hX.2.1 hd ht (fun q => gt q p l e R s m args below meth c D dA b0 hX H locs ls hG hS hL) (fun q => gf q p l e R s m args below meth c D dA b0 hX H locs ls hG hS hL)
theorem GW.goto {off : Int} {tgt : Nat} (hd : decode M.cc pc = .ok (.goto off, 3)) (ht : (pc : Int) + off = (tgt : Int)) (g : GW M Q X G k n tgt L st) : GW M Q X G k n pc L st :=
  g.pure fun p l e R s m args below meth c D dA b0 hX H locs ls hL QQ kk => lv_goto hX.1 hX.2.1 hd ht (kk ls hL)
theorem GW.ifnull {r : Option Nat} {off : Int} {tgt : Nat} (hd : decode M.cc pc = .ok (.ifnull off, 3)) (ht : (pc : Int) + off = (tgt : Int)) (gt : r = none → GW M Q X G k n tgt L st) (gf : ∀ a, r = some a → GW M Q X G k n (pc + 3) L st) : GW M Q X G k n pc L (va_rf r :: st) := by
  intro p l e R s m args below meth c D dA b0 hX H locs ls hG hS hL
  cases r with
  | none => exact lv_ifnullN hX.1 hX.2.1 hd ht (gt rfl p l e R s m args below meth c D dA b0 hX H locs ls hG hS hL)
  | some a => exact lv_ifnull hX.1 hX.2.1 hd (gf a rfl p l e R s m args below meth c D dA b0 hX H locs ls hG hS hL)
theorem GW.ifnonnull {r : Option Nat} {off : Int} {tgt : Nat} (hd : decode M.cc pc = .ok (.ifnonnull off, 3)) (ht : (pc : Int) + off = (tgt : Int)) (gt : ∀ a, r = some a → GW M Q X G k n tgt L st) (gf : r = none → GW M Q X G k n (pc + 3) L st) : GW M Q X G k n pc L (va_rf r :: st) := by
  intro p l e R s m args below meth c D dA b0 hX H locs ls hG hS hL
  cases r with
  | none => exact lv_ifnonnullN hX.1 hX.2.1 hd (gf rfl p l e R s m args below meth c D dA b0 hX H locs ls hG hS hL)
  | some a => exact lv_ifnonnull hX.1 hX.2.1 hd ht (gt a rfl p l e R s m args below meth c D dA b0 hX H locs ls hG hS hL)
/-- at a reference that is there -/
theorem GW.ifnullR {a : Nat} {off : Int} (hd : decode M.cc pc = .ok (.ifnull off, 3)) (g : GW M Q X G k n (pc + 3) L st) : GW M Q X G k n pc L (.ref a :: st) :=
  g.pure fun p l e R s m args below meth c D dA b0 hX H locs ls hL QQ kk => lv_ifnull hX.1 hX.2.1 hd (kk ls hL)
theorem GW.ifnullN {off : Int} {tgt : Nat} (hd : decode M.cc pc = .ok (.ifnull off, 3)) (ht : (pc : Int) + off = (tgt : Int)) (g : GW M Q X G k n tgt L st) : GW M Q X G k n pc L (.null :: st) :=
  g.pure fun p l e R s m args below meth c D dA b0 hX H locs ls hL QQ kk => lv_ifnullN hX.1 hX.2.1 hd ht (kk ls hL)
theorem GW.ifnonnullR {a : Nat} {off : Int} {tgt : Nat} (hd : decode M.cc pc = .ok (.ifnonnull off, 3)) (ht : (pc : Int) + off = (tgt : Int)) (g : GW M Q X G k n tgt L st) : GW M Q X G k n pc L (.ref a :: st) :=
  g.pure fun p l e R s m args below meth c D dA b0 hX H locs ls hL QQ kk => lv_ifnonnull hX.1 hX.2.1 hd ht (kk ls hL)
theorem GW.ifnonnullN {off : Int} (hd : decode M.cc pc = .ok (.ifnonnull off, 3)) (g : GW M Q X G k n (pc + 3) L st) : GW M Q X G k n pc L (.null :: st) :=
  g.pure fun p l e R s m args below meth c D dA b0 hX H locs ls hL QQ kk => lv_ifnonnullN hX.1 hX.2.1 hd (kk ls hL)
theorem GW.acmp_eq {rx ry : Option Nat} {off : Int} {tgt : Nat} (hd : decode M.cc pc = .ok (.if_acmp .eq off, 3)) (ht : (pc : Int) + off = (tgt : Int)) (gt : rx = ry → GW M Q X G k n tgt L st) (gf : ¬ rx = ry → GW M Q X G k n (pc + 3) L st) : GW M Q X G k n pc L (va_rf ry :: va_rf rx :: st) :=
  fun p l e R s m args below meth c D dA b0 hX H locs ls hG hS hL => lv_acmp_eq hX.1 hX.2.1 hd ht (fun q => gt q p l e R s m args below meth c D dA b0 hX H locs ls hG hS hL) (fun q => gf q p l e R s m args below meth c D dA b0 hX H locs ls hG hS hL)
theorem GW.acmp_ne {rx ry : Option Nat} {off : Int} {tgt : Nat} (hd : decode M.cc pc = .ok (.if_acmp .ne off, 3)) (ht : (pc : Int) + off = (tgt : Int)) (gt : ¬ rx = ry → GW M Q X G k n tgt L st) (gf : rx = ry → GW M Q X G k n (pc + 3) L st) : GW M Q X G k n pc L (va_rf ry :: va_rf rx :: st) :=
  fun p l e R s m args below meth c D dA b0 hX H locs ls hG hS hL => lv_acmp_ne hX.1 hX.2.1 hd ht (fun q => gt q p l e R s m args below meth c D dA b0 hX H locs ls hG hS hL) (fun q => gf q p l e R s m args below meth c D dA b0 hX H locs ls hG hS hL)
theorem GW.tableIn {dflt lo hi : Int} {offs : Array Int} {len : Nat} {x : Int32} {off : Int} {tgt : Nat} (hd : decode M.cc pc = .ok (.tableswitch dflt lo hi offs, len)) (h1 : ¬ x.toInt < lo) (h2 : ¬ hi < x.toInt) (ho : offs[(x.toInt - lo).toNat]? = some off) (ht : (pc : Int) + off = (tgt : Int)) (g : GW M Q X G k n tgt L st) : GW M Q X G k n pc L (.int x :: st) :=
  g.pure fun p l e R s m args below meth c D dA b0 hX H locs ls hL QQ kk => lv_tableIn hX.1 hX.2.1 hd h1 h2 ho ht (kk ls hL)
theorem GW.tableOut {dflt lo hi : Int} {offs : Array Int} {len : Nat} {x : Int32} {tgt : Nat} (hd : decode M.cc pc = .ok (.tableswitch dflt lo hi offs, len)) (h : x.toInt < lo ∨ hi < x.toInt) (ht : (pc : Int) + dflt = (tgt : Int)) (g : GW M Q X G k n tgt L st) : GW M Q X G k n pc L (.int x :: st) :=
  g.pure fun p l e R s m args below meth c D dA b0 hX H locs ls hL QQ kk => lv_tableOut hX.1 hX.2.1 hd h ht (kk ls hL)
theorem GW.ldc2 {idx : Nat} {v : Int64} (hw : Cond.constantLong M.own idx v ∈ gW) (hd : decode M.cc pc = .ok (.ldc2_w idx, 3)) (g : GW M Q X G k n (pc + 3) L (.long v :: st)) : GW M Q X G k n pc L st :=
  g.pure fun p l e R s m args below meth c D dA b0 hX H locs ls hL QQ kk => lv_ldc2 hX.1 hX.2.1 hX.2.2.2.1 (hX.2.2.2.2.1 _ hw) hd (kk ls hL)
theorem GW.ldc {idx : Nat} {v : Int32} (hw : Cond.constant M.own idx v ∈ gW) (hd : decode M.cc pc = .ok (.ldc idx, 2)) (g : GW M Q X G k n (pc + 2) L (.int v :: st)) : GW M Q X G k n pc L st :=
  g.pure fun p l e R s m args below meth c D dA b0 hX H locs ls hL QQ kk => lv_ldc hX.1 hX.2.1 hX.2.2.2.1 (hX.2.2.2.2.1 _ hw) hd (kk ls hL)
variable {a0 a1 a2 a3 a4 a5 a6 a7 a8 a9 a10 a11 : Option Value}
theorem GW.iload0 {x : Int32} (hd : decode M.cc pc = .ok (.iload_n 0, 1)) (g : GW M Q X G k n (pc + 1) [some (.int x), a1, a2, a3, a4, a5, a6, a7, a8, a9, a10, a11] (.int x :: st)) : GW M Q X G k n pc [some (.int x), a1, a2, a3, a4, a5, a6, a7, a8, a9, a10, a11] st :=
  g.pure fun p l e R s m args below meth c D dA b0 hX H locs ls hL QQ kk => lv_iload_n hX.1 hX.2.1 hd rfl (hL.2.2 0 _ rfl) (kk ls hL)
theorem GW.lload0 {x : Int64} (hd : decode M.cc pc = .ok (.lload_n 0, 1)) (g : GW M Q X G k n (pc + 1) [some (.long x), a1, a2, a3, a4, a5, a6, a7, a8, a9, a10, a11] (.long x :: st)) : GW M Q X G k n pc [some (.long x), a1, a2, a3, a4, a5, a6, a7, a8, a9, a10, a11] st :=
  g.pure fun p l e R s m args below meth c D dA b0 hX H locs ls hL QQ kk => lv_lload_n hX.1 hX.2.1 hd rfl (hL.2.2 0 _ rfl) (kk ls hL)
theorem GW.aload0 {v : Value} (hd : decode M.cc pc = .ok (.aload_n 0, 1)) (hv : v = .null ∨ ∃ a, v = .ref a := by first | exact Or.inr ⟨_, rfl⟩ | exact Or.inl rfl | exact va_rf_or _) (g : GW M Q X G k n (pc + 1) [some v, a1, a2, a3, a4, a5, a6, a7, a8, a9, a10, a11] (v :: st)) : GW M Q X G k n pc [some v, a1, a2, a3, a4, a5, a6, a7, a8, a9, a10, a11] st :=
  g.pure fun p l e R s m args below meth c D dA b0 hX H locs ls hL QQ kk => by
    rcases hv with rfl | ⟨a, rfl⟩
    · exact lv_aload_nN hX.1 hX.2.1 hd rfl (hL.2.2 0 _ rfl) (kk ls hL)
    · exact lv_aload_n hX.1 hX.2.1 hd rfl (hL.2.2 0 _ rfl) (kk ls hL)
theorem GW.iload1 {x : Int32} (hd : decode M.cc pc = .ok (.iload_n 1, 1)) (g : GW M Q X G k n (pc + 1) [a0, some (.int x), a2, a3, a4, a5, a6, a7, a8, a9, a10, a11] (.int x :: st)) : GW M Q X G k n pc [a0, some (.int x), a2, a3, a4, a5, a6, a7, a8, a9, a10, a11] st :=
  g.pure fun p l e R s m args below meth c D dA b0 hX H locs ls hL QQ kk => lv_iload_n hX.1 hX.2.1 hd rfl (hL.2.2 1 _ rfl) (kk ls hL)
theorem GW.lload1 {x : Int64} (hd : decode M.cc pc = .ok (.lload_n 1, 1)) (g : GW M Q X G k n (pc + 1) [a0, some (.long x), a2, a3, a4, a5, a6, a7, a8, a9, a10, a11] (.long x :: st)) : GW M Q X G k n pc [a0, some (.long x), a2, a3, a4, a5, a6, a7, a8, a9, a10, a11] st :=
  g.pure fun p l e R s m args below meth c D dA b0 hX H locs ls hL QQ kk => lv_lload_n hX.1 hX.2.1 hd rfl (hL.2.2 1 _ rfl) (kk ls hL)
theorem GW.aload1 {v : Value} (hd : decode M.cc pc = .ok (.aload_n 1, 1)) (hv : v = .null ∨ ∃ a, v = .ref a := by first | exact Or.inr ⟨_, rfl⟩ | exact Or.inl rfl | exact va_rf_or _) (g : GW M Q X G k n (pc + 1) [a0, some v, a2, a3, a4, a5, a6, a7, a8, a9, a10, a11] (v :: st)) : GW M Q X G k n pc [a0, some v, a2, a3, a4, a5, a6, a7, a8, a9, a10, a11] st :=
  g.pure fun p l e R s m args below meth c D dA b0 hX H locs ls hL QQ kk => by
    rcases hv with rfl | ⟨a, rfl⟩
    · exact lv_aload_nN hX.1 hX.2.1 hd rfl (hL.2.2 1 _ rfl) (kk ls hL)
    · exact lv_aload_n hX.1 hX.2.1 hd rfl (hL.2.2 1 _ rfl) (kk ls hL)
theorem GW.iload2 {x : Int32} (hd : decode M.cc pc = .ok (.iload_n 2, 1)) (g : GW M Q X G k n (pc + 1) [a0, a1, some (.int x), a3, a4, a5, a6, a7, a8, a9, a10, a11] (.int x :: st)) : GW M Q X G k n pc [a0, a1, some (.int x), a3, a4, a5, a6, a7, a8, a9, a10, a11] st :=
  g.pure fun p l e R s m args below meth c D dA b0 hX H locs ls hL QQ kk => lv_iload_n hX.1 hX.2.1 hd rfl (hL.2.2 2 _ rfl) (kk ls hL)
theorem GW.lload2 {x : Int64} (hd : decode M.cc pc = .ok (.lload_n 2, 1)) (g : GW M Q X G k n (pc + 1) [a0, a1, some (.long x), a3, a4, a5, a6, a7, a8, a9, a10, a11] (.long x :: st)) : GW M Q X G k n pc [a0, a1, some (.long x), a3, a4, a5, a6, a7, a8, a9, a10, a11] st :=
  g.pure fun p l e R s m args below meth c D dA b0 hX H locs ls hL QQ kk => lv_lload_n hX.1 hX.2.1 hd rfl (hL.2.2 2 _ rfl) (kk ls hL)
theorem GW.aload2 {v : Value} (hd : decode M.cc pc = .ok (.aload_n 2, 1)) (hv : v = .null ∨ ∃ a, v = .ref a := by first | exact Or.inr ⟨_, rfl⟩ | exact Or.inl rfl | exact va_rf_or _) (g : GW M Q X G k n (pc + 1) [a0, a1, some v, a3, a4, a5, a6, a7, a8, a9, a10, a11] (v :: st)) : GW M Q X G k n pc [a0, a1, some v, a3, a4, a5, a6, a7, a8, a9, a10, a11] st :=
  g.pure fun p l e R s m args below meth c D dA b0 hX H locs ls hL QQ kk => by
    rcases hv with rfl | ⟨a, rfl⟩
    · exact lv_aload_nN hX.1 hX.2.1 hd rfl (hL.2.2 2 _ rfl) (kk ls hL)
    · exact lv_aload_n hX.1 hX.2.1 hd rfl (hL.2.2 2 _ rfl) (kk ls hL)
theorem GW.iload3 {x : Int32} (hd : decode M.cc pc = .ok (.iload_n 3, 1)) (g : GW M Q X G k n (pc + 1) [a0, a1, a2, some (.int x), a4, a5, a6, a7, a8, a9, a10, a11] (.int x :: st)) : GW M Q X G k n pc [a0, a1, a2, some (.int x), a4, a5, a6, a7, a8, a9, a10, a11] st :=
  g.pure fun p l e R s m args below meth c D dA b0 hX H locs ls hL QQ kk => lv_iload_n hX.1 hX.2.1 hd rfl (hL.2.2 3 _ rfl) (kk ls hL)
theorem GW.lload3 {x : Int64} (hd : decode M.cc pc = .ok (.lload_n 3, 1)) (g : GW M Q X G k n (pc + 1) [a0, a1, a2, some (.long x), a4, a5, a6, a7, a8, a9, a10, a11] (.long x :: st)) : GW M Q X G k n pc [a0, a1, a2, some (.long x), a4, a5, a6, a7, a8, a9, a10, a11] st :=
  g.pure fun p l e R s m args below meth c D dA b0 hX H locs ls hL QQ kk => lv_lload_n hX.1 hX.2.1 hd rfl (hL.2.2 3 _ rfl) (kk ls hL)
theorem GW.aload3 {v : Value} (hd : decode M.cc pc = .ok (.aload_n 3, 1)) (hv : v = .null ∨ ∃ a, v = .ref a := by first | exact Or.inr ⟨_, rfl⟩ | exact Or.inl rfl | exact va_rf_or _) (g : GW M Q X G k n (pc + 1) [a0, a1, a2, some v, a4, a5, a6, a7, a8, a9, a10, a11] (v :: st)) : GW M Q X G k n pc [a0, a1, a2, some v, a4, a5, a6, a7, a8, a9, a10, a11] st :=
  g.pure fun p l e R s m args below meth c D dA b0 hX H locs ls hL QQ kk => by
    rcases hv with rfl | ⟨a, rfl⟩
    · exact lv_aload_nN hX.1 hX.2.1 hd rfl (hL.2.2 3 _ rfl) (kk ls hL)
    · exact lv_aload_n hX.1 hX.2.1 hd rfl (hL.2.2 3 _ rfl) (kk ls hL)
theorem GW.iload4 {x : Int32} (hd : decode M.cc pc = .ok (.iload 4, 2)) (g : GW M Q X G k n (pc + 2) [a0, a1, a2, a3, some (.int x), a5, a6, a7, a8, a9, a10, a11] (.int x :: st)) : GW M Q X G k n pc [a0, a1, a2, a3, some (.int x), a5, a6, a7, a8, a9, a10, a11] st :=
  g.pure fun p l e R s m args below meth c D dA b0 hX H locs ls hL QQ kk => lv_iload hX.1 hX.2.1 hd (hL.2.2 4 _ rfl) (kk ls hL)
theorem GW.lload4 {x : Int64} (hd : decode M.cc pc = .ok (.lload 4, 2)) (g : GW M Q X G k n (pc + 2) [a0, a1, a2, a3, some (.long x), a5, a6, a7, a8, a9, a10, a11] (.long x :: st)) : GW M Q X G k n pc [a0, a1, a2, a3, some (.long x), a5, a6, a7, a8, a9, a10, a11] st :=
  g.pure fun p l e R s m args below meth c D dA b0 hX H locs ls hL QQ kk => lv_lload hX.1 hX.2.1 hd (hL.2.2 4 _ rfl) (kk ls hL)
theorem GW.aload4 {v : Value} (hd : decode M.cc pc = .ok (.aload 4, 2)) (hv : v = .null ∨ ∃ a, v = .ref a := by first | exact Or.inr ⟨_, rfl⟩ | exact Or.inl rfl | exact va_rf_or _) (g : GW M Q X G k n (pc + 2) [a0, a1, a2, a3, some v, a5, a6, a7, a8, a9, a10, a11] (v :: st)) : GW M Q X G k n pc [a0, a1, a2, a3, some v, a5, a6, a7, a8, a9, a10, a11] st :=
  g.pure fun p l e R s m args below meth c D dA b0 hX H locs ls hL QQ kk => by
    rcases hv with rfl | ⟨a, rfl⟩
    · exact lv_aloadN hX.1 hX.2.1 hd (hL.2.2 4 _ rfl) (kk ls hL)
    · exact lv_aload hX.1 hX.2.1 hd (hL.2.2 4 _ rfl) (kk ls hL)
theorem GW.iload5 {x : Int32} (hd : decode M.cc pc = .ok (.iload 5, 2)) (g : GW M Q X G k n (pc + 2) [a0, a1, a2, a3, a4, some (.int x), a6, a7, a8, a9, a10, a11] (.int x :: st)) : GW M Q X G k n pc [a0, a1, a2, a3, a4, some (.int x), a6, a7, a8, a9, a10, a11] st :=
  g.pure fun p l e R s m args below meth c D dA b0 hX H locs ls hL QQ kk => lv_iload hX.1 hX.2.1 hd (hL.2.2 5 _ rfl) (kk ls hL)
theorem GW.lload5 {x : Int64} (hd : decode M.cc pc = .ok (.lload 5, 2)) (g : GW M Q X G k n (pc + 2) [a0, a1, a2, a3, a4, some (.long x), a6, a7, a8, a9, a10, a11] (.long x :: st)) : GW M Q X G k n pc [a0, a1, a2, a3, a4, some (.long x), a6, a7, a8, a9, a10, a11] st :=
  g.pure fun p l e R s m args below meth c D dA b0 hX H locs ls hL QQ kk => lv_lload hX.1 hX.2.1 hd (hL.2.2 5 _ rfl) (kk ls hL)
theorem GW.aload5 {v : Value} (hd : decode M.cc pc = .ok (.aload 5, 2)) (hv : v = .null ∨ ∃ a, v = .ref a := by first | exact Or.inr ⟨_, rfl⟩ | exact Or.inl rfl | exact va_rf_or _) (g : GW M Q X G k n (pc + 2) [a0, a1, a2, a3, a4, some v, a6, a7, a8, a9, a10, a11] (v :: st)) : GW M Q X G k n pc [a0, a1, a2, a3, a4, some v, a6, a7, a8, a9, a10, a11] st :=
  g.pure fun p l e R s m args below meth c D dA b0 hX H locs ls hL QQ kk => by
    rcases hv with rfl | ⟨a, rfl⟩
    · exact lv_aloadN hX.1 hX.2.1 hd (hL.2.2 5 _ rfl) (kk ls hL)
    · exact lv_aload hX.1 hX.2.1 hd (hL.2.2 5 _ rfl) (kk ls hL)
theorem GW.iload6 {x : Int32} (hd : decode M.cc pc = .ok (.iload 6, 2)) (g : GW M Q X G k n (pc + 2) [a0, a1, a2, a3, a4, a5, some (.int x), a7, a8, a9, a10, a11] (.int x :: st)) : GW M Q X G k n pc [a0, a1, a2, a3, a4, a5, some (.int x), a7, a8, a9, a10, a11] st :=
  g.pure fun p l e R s m args below meth c D dA b0 hX H locs ls hL QQ kk => lv_iload hX.1 hX.2.1 hd (hL.2.2 6 _ rfl) (kk ls hL)
theorem GW.lload6 {x : Int64} (hd : decode M.cc pc = .ok (.lload 6, 2)) (g : GW M Q X G k n (pc + 2) [a0, a1, a2, a3, a4, a5, some (.long x), a7, a8, a9, a10, a11] (.long x :: st)) : GW M Q X G k n pc [a0, a1, a2, a3, a4, a5, some (.long x), a7, a8, a9, a10, a11] st :=
  g.pure fun p l e R s m args below meth c D dA b0 hX H locs ls hL QQ kk => lv_lload hX.1 hX.2.1 hd (hL.2.2 6 _ rfl) (kk ls hL)
theorem GW.aload6 {v : Value} (hd : decode M.cc pc = .ok (.aload 6, 2)) (hv : v = .null ∨ ∃ a, v = .ref a := by first | exact Or.inr ⟨_, rfl⟩ | exact Or.inl rfl | exact va_rf_or _) (g : GW M Q X G k n (pc + 2) [a0, a1, a2, a3, a4, a5, some v, a7, a8, a9, a10, a11] (v :: st)) : GW M Q X G k n pc [a0, a1, a2, a3, a4, a5, some v, a7, a8, a9, a10, a11] st :=
  g.pure fun p l e R s m args below meth c D dA b0 hX H locs ls hL QQ kk => by
    rcases hv with rfl | ⟨a, rfl⟩
    · exact lv_aloadN hX.1 hX.2.1 hd (hL.2.2 6 _ rfl) (kk ls hL)
    · exact lv_aload hX.1 hX.2.1 hd (hL.2.2 6 _ rfl) (kk ls hL)
theorem GW.iload7 {x : Int32} (hd : decode M.cc pc = .ok (.iload 7, 2)) (g : GW M Q X G k n (pc + 2) [a0, a1, a2, a3, a4, a5, a6, some (.int x), a8, a9, a10, a11] (.int x :: st)) : GW M Q X G k n pc [a0, a1, a2, a3, a4, a5, a6, some (.int x), a8, a9, a10, a11] st :=
  g.pure fun p l e R s m args below meth c D dA b0 hX H locs ls hL QQ kk => lv_iload hX.1 hX.2.1 hd (hL.2.2 7 _ rfl) (kk ls hL)
theorem GW.lload7 {x : Int64} (hd : decode M.cc pc = .ok (.lload 7, 2)) (g : GW M Q X G k n (pc + 2) [a0, a1, a2, a3, a4, a5, a6, some (.long x), a8, a9, a10, a11] (.long x :: st)) : GW M Q X G k n pc [a0, a1, a2, a3, a4, a5, a6, some (.long x), a8, a9, a10, a11] st :=
  g.pure fun p l e R s m args below meth c D dA b0 hX H locs ls hL QQ kk => lv_lload hX.1 hX.2.1 hd (hL.2.2 7 _ rfl) (kk ls hL)
theorem GW.aload7 {v : Value} (hd : decode M.cc pc = .ok (.aload 7, 2)) (hv : v = .null ∨ ∃ a, v = .ref a := by first | exact Or.inr ⟨_, rfl⟩ | exact Or.inl rfl | exact va_rf_or _) (g : GW M Q X G k n (pc + 2) [a0, a1, a2, a3, a4, a5, a6, some v, a8, a9, a10, a11] (v :: st)) : GW M Q X G k n pc [a0, a1, a2, a3, a4, a5, a6, some v, a8, a9, a10, a11] st :=
  g.pure fun p l e R s m args below meth c D dA b0 hX H locs ls hL QQ kk => by
    rcases hv with rfl | ⟨a, rfl⟩
    · exact lv_aloadN hX.1 hX.2.1 hd (hL.2.2 7 _ rfl) (kk ls hL)
    · exact lv_aload hX.1 hX.2.1 hd (hL.2.2 7 _ rfl) (kk ls hL)
theorem GW.iload8 {x : Int32} (hd : decode M.cc pc = .ok (.iload 8, 2)) (g : GW M Q X G k n (pc + 2) [a0, a1, a2, a3, a4, a5, a6, a7, some (.int x), a9, a10, a11] (.int x :: st)) : GW M Q X G k n pc [a0, a1, a2, a3, a4, a5, a6, a7, some (.int x), a9, a10, a11] st :=
  g.pure fun p l e R s m args below meth c D dA b0 hX H locs ls hL QQ kk => lv_iload hX.1 hX.2.1 hd (hL.2.2 8 _ rfl) (kk ls hL)
theorem GW.lload8 {x : Int64} (hd : decode M.cc pc = .ok (.lload 8, 2)) (g : GW M Q X G k n (pc + 2) [a0, a1, a2, a3, a4, a5, a6, a7, some (.long x), a9, a10, a11] (.long x :: st)) : GW M Q X G k n pc [a0, a1, a2, a3, a4, a5, a6, a7, some (.long x), a9, a10, a11] st :=
  g.pure fun p l e R s m args below meth c D dA b0 hX H locs ls hL QQ kk => lv_lload hX.1 hX.2.1 hd (hL.2.2 8 _ rfl) (kk ls hL)
theorem GW.aload8 {v : Value} (hd : decode M.cc pc = .ok (.aload 8, 2)) (hv : v = .null ∨ ∃ a, v = .ref a := by first | exact Or.inr ⟨_, rfl⟩ | exact Or.inl rfl | exact va_rf_or _) (g : GW M Q X G k n (pc + 2) [a0, a1, a2, a3, a4, a5, a6, a7, some v, a9, a10, a11] (v :: st)) : GW M Q X G k n pc [a0, a1, a2, a3, a4, a5, a6, a7, some v, a9, a10, a11] st :=
  g.pure fun p l e R s m args below meth c D dA b0 hX H locs ls hL QQ kk => by
    rcases hv with rfl | ⟨a, rfl⟩
    · exact lv_aloadN hX.1 hX.2.1 hd (hL.2.2 8 _ rfl) (kk ls hL)
    · exact lv_aload hX.1 hX.2.1 hd (hL.2.2 8 _ rfl) (kk ls hL)
theorem GW.iload9 {x : Int32} (hd : decode M.cc pc = .ok (.iload 9, 2)) (g : GW M Q X G k n (pc + 2) [a0, a1, a2, a3, a4, a5, a6, a7, a8, some (.int x), a10, a11] (.int x :: st)) : GW M Q X G k n pc [a0, a1, a2, a3, a4, a5, a6, a7, a8, some (.int x), a10, a11] st :=
  g.pure fun p l e R s m args below meth c D dA b0 hX H locs ls hL QQ kk => lv_iload hX.1 hX.2.1 hd (hL.2.2 9 _ rfl) (kk ls hL)
theorem GW.lload9 {x : Int64} (hd : decode M.cc pc = .ok (.lload 9, 2)) (g : GW M Q X G k n (pc + 2) [a0, a1, a2, a3, a4, a5, a6, a7, a8, some (.long x), a10, a11] (.long x :: st)) : GW M Q X G k n pc [a0, a1, a2, a3, a4, a5, a6, a7, a8, some (.long x), a10, a11] st :=
  g.pure fun p l e R s m args below meth c D dA b0 hX H locs ls hL QQ kk => lv_lload hX.1 hX.2.1 hd (hL.2.2 9 _ rfl) (kk ls hL)
theorem GW.aload9 {v : Value} (hd : decode M.cc pc = .ok (.aload 9, 2)) (hv : v = .null ∨ ∃ a, v = .ref a := by first | exact Or.inr ⟨_, rfl⟩ | exact Or.inl rfl | exact va_rf_or _) (g : GW M Q X G k n (pc + 2) [a0, a1, a2, a3, a4, a5, a6, a7, a8, some v, a10, a11] (v :: st)) : GW M Q X G k n pc [a0, a1, a2, a3, a4, a5, a6, a7, a8, some v, a10, a11] st :=
  g.pure fun p l e R s m args below meth c D dA b0 hX H locs ls hL QQ kk => by
    rcases hv with rfl | ⟨a, rfl⟩
    · exact lv_aloadN hX.1 hX.2.1 hd (hL.2.2 9 _ rfl) (kk ls hL)
    · exact lv_aload hX.1 hX.2.1 hd (hL.2.2 9 _ rfl) (kk ls hL)
theorem GW.iload10 {x : Int32} (hd : decode M.cc pc = .ok (.iload 10, 2)) (g : GW M Q X G k n (pc + 2) [a0, a1, a2, a3, a4, a5, a6, a7, a8, a9, some (.int x), a11] (.int x :: st)) : GW M Q X G k n pc [a0, a1, a2, a3, a4, a5, a6, a7, a8, a9, some (.int x), a11] st :=
  g.pure fun p l e R s m args below meth c D dA b0 hX H locs ls hL QQ kk => lv_iload hX.1 hX.2.1 hd (hL.2.2 10 _ rfl) (kk ls hL)
theorem GW.lload10 {x : Int64} (hd : decode M.cc pc = .ok (.lload 10, 2)) (g : GW M Q X G k n (pc + 2) [a0, a1, a2, a3, a4, a5, a6, a7, a8, a9, some (.long x), a11] (.long x :: st)) : GW M Q X G k n pc [a0, a1, a2, a3, a4, a5, a6, a7, a8, a9, some (.long x), a11] st :=
  g.pure fun p l e R s m args below meth c D dA b0 hX H locs ls hL QQ kk => lv_lload hX.1 hX.2.1 hd (hL.2.2 10 _ rfl) (kk ls hL)
theorem GW.aload10 {v : Value} (hd : decode M.cc pc = .ok (.aload 10, 2)) (hv : v = .null ∨ ∃ a, v = .ref a := by first | exact Or.inr ⟨_, rfl⟩ | exact Or.inl rfl | exact va_rf_or _) (g : GW M Q X G k n (pc + 2) [a0, a1, a2, a3, a4, a5, a6, a7, a8, a9, some v, a11] (v :: st)) : GW M Q X G k n pc [a0, a1, a2, a3, a4, a5, a6, a7, a8, a9, some v, a11] st :=
  g.pure fun p l e R s m args below meth c D dA b0 hX H locs ls hL QQ kk => by
    rcases hv with rfl | ⟨a, rfl⟩
    · exact lv_aloadN hX.1 hX.2.1 hd (hL.2.2 10 _ rfl) (kk ls hL)
    · exact lv_aload hX.1 hX.2.1 hd (hL.2.2 10 _ rfl) (kk ls hL)
theorem GW.iload11 {x : Int32} (hd : decode M.cc pc = .ok (.iload 11, 2)) (g : GW M Q X G k n (pc + 2) [a0, a1, a2, a3, a4, a5, a6, a7, a8, a9, a10, some (.int x)] (.int x :: st)) : GW M Q X G k n pc [a0, a1, a2, a3, a4, a5, a6, a7, a8, a9, a10, some (.int x)] st :=
  g.pure fun p l e R s m args below meth c D dA b0 hX H locs ls hL QQ kk => lv_iload hX.1 hX.2.1 hd (hL.2.2 11 _ rfl) (kk ls hL)
theorem GW.lload11 {x : Int64} (hd : decode M.cc pc = .ok (.lload 11, 2)) (g : GW M Q X G k n (pc + 2) [a0, a1, a2, a3, a4, a5, a6, a7, a8, a9, a10, some (.long x)] (.long x :: st)) : GW M Q X G k n pc [a0, a1, a2, a3, a4, a5, a6, a7, a8, a9, a10, some (.long x)] st :=
  g.pure fun p l e R s m args below meth c D dA b0 hX H locs ls hL QQ kk => lv_lload hX.1 hX.2.1 hd (hL.2.2 11 _ rfl) (kk ls hL)
theorem GW.aload11 {v : Value} (hd : decode M.cc pc = .ok (.aload 11, 2)) (hv : v = .null ∨ ∃ a, v = .ref a := by first | exact Or.inr ⟨_, rfl⟩ | exact Or.inl rfl | exact va_rf_or _) (g : GW M Q X G k n (pc + 2) [a0, a1, a2, a3, a4, a5, a6, a7, a8, a9, a10, some v] (v :: st)) : GW M Q X G k n pc [a0, a1, a2, a3, a4, a5, a6, a7, a8, a9, a10, some v] st :=
  g.pure fun p l e R s m args below meth c D dA b0 hX H locs ls hL QQ kk => by
    rcases hv with rfl | ⟨a, rfl⟩
    · exact lv_aloadN hX.1 hX.2.1 hd (hL.2.2 11 _ rfl) (kk ls hL)
    · exact lv_aload hX.1 hX.2.1 hd (hL.2.2 11 _ rfl) (kk ls hL)
theorem va_rf_cat (r : Option Nat) : (va_rf r).category = 1 := by cases r <;> rfl
theorem GW.istore0 {x : Int32} (hd : decode M.cc pc = .ok (.istore_n 0, 1)) (hn : 0 < M.nL := by exact Nat.le_of_ble_eq_true rfl) (g : GW M Q X G k n (pc + 1) [some (.int x), a1, a2, a3, a4, a5, a6, a7, a8, a9, a10, a11] st) : GW M Q X G k n pc [a0, a1, a2, a3, a4, a5, a6, a7, a8, a9, a10, a11] (.int x :: st) := by
  intro p l e R s m args below meth c D dA b0 hX H locs ls hG hS hL T hT XX
  obtain ⟨ls', e1, h1⟩ := gHas.store1 (i := 0) (v := .int x) hL hn rfl (fun j w hj hw => absurd hj (by omega))
  obtain ⟨t, q1, q2⟩ := g p l e R s m args below meth c D dA b0 hX H locs ls' hG hS h1 T hT XX
  refine ⟨t, ?_, q2⟩
  jvm_step XX.here [XX.here.top, ↓top_set XX.here.top, hX.1, hX.2.1, hd, e1]
  exact q1
theorem GW.astore0 {v : Value} (hd : decode M.cc pc = .ok (.astore_n 0, 1)) (hn : 0 < M.nL := by exact Nat.le_of_ble_eq_true rfl) (hv : v = .null ∨ ∃ a, v = .ref a := by first | exact Or.inr ⟨_, rfl⟩ | exact Or.inl rfl | exact va_rf_or _) (g : GW M Q X G k n (pc + 1) [some v, a1, a2, a3, a4, a5, a6, a7, a8, a9, a10, a11] st) : GW M Q X G k n pc [a0, a1, a2, a3, a4, a5, a6, a7, a8, a9, a10, a11] (v :: st) := by
  intro p l e R s m args below meth c D dA b0 hX H locs ls hG hS hL T hT XX
  obtain ⟨ls', e1, h1⟩ := gHas.store1 (i := 0) (v := v) hL hn (by rcases hv with rfl | ⟨a, rfl⟩ <;> rfl) (fun j w hj hw => absurd hj (by omega))
  obtain ⟨t, q1, q2⟩ := g p l e R s m args below meth c D dA b0 hX H locs ls' hG hS h1 T hT XX
  refine ⟨t, ?_, q2⟩
  rcases hv with rfl | ⟨a, rfl⟩ <;>
    (jvm_step XX.here [XX.here.top, ↓top_set XX.here.top, hX.1, hX.2.1, hd, e1, Value.isRef]
     exact q1)
theorem GW.iinc0 {z : Int} {x v : Int32} (hd : decode M.cc pc = .ok (.iinc 0 z, 3)) (hv : x + Int32.ofInt z = v) (hn : 0 < M.nL := by exact Nat.le_of_ble_eq_true rfl) (g : GW M Q X G k n (pc + 3) [some (.int v), a1, a2, a3, a4, a5, a6, a7, a8, a9, a10, a11] st) : GW M Q X G k n pc [some (.int x), a1, a2, a3, a4, a5, a6, a7, a8, a9, a10, a11] st := by
  subst hv
  intro p l e R s m args below meth c D dA b0 hX H locs ls hG hS hL T hT XX
  obtain ⟨ls', e1, h1⟩ := gHas.store1 (i := 0) (v := .int (x + Int32.ofInt z)) hL hn rfl (fun j w hj hw => absurd hj (by omega))
  have hx := hL.2.2 0 (.int x) rfl
  obtain ⟨t, q1, q2⟩ := g p l e R s m args below meth c D dA b0 hX H locs ls' hG hS h1 T hT XX
  refine ⟨t, ?_, q2⟩
  jvm_step XX.here [XX.here.top, ↓top_set XX.here.top, hX.1, hX.2.1, hd, hx, e1]
  exact q1
theorem GW.lstore0 {x : Int64} (hd : decode M.cc pc = .ok (.lstore_n 0, 1)) (hn : 1 < M.nL := by exact Nat.le_of_ble_eq_true rfl) (g : GW M Q X G k n (pc + 1) [some (.long x), none, a2, a3, a4, a5, a6, a7, a8, a9, a10, a11] st) : GW M Q X G k n pc [a0, a1, a2, a3, a4, a5, a6, a7, a8, a9, a10, a11] (.long x :: st) := by
  intro p l e R s m args below meth c D dA b0 hX H locs ls hG hS hL T hT XX
  obtain ⟨ls', e1, h1⟩ := gHas.store2 (i := 0) (v := .long x) hL hn rfl (fun j w hj hw => absurd hj (by omega))
  obtain ⟨t, q1, q2⟩ := g p l e R s m args below meth c D dA b0 hX H locs ls' hG hS h1 T hT XX
  refine ⟨t, ?_, q2⟩
  jvm_step XX.here [XX.here.top, ↓top_set XX.here.top, hX.1, hX.2.1, hd, e1]
  exact q1
theorem GW.istore1 {x : Int32} (hd : decode M.cc pc = .ok (.istore_n 1, 1)) (hn : 1 < M.nL := by exact Nat.le_of_ble_eq_true rfl) (hp : ∀ w : Value, a0 = some w → w.category ≠ 2 := by intro w h; first | (cases h; first | (show ¬ ((1 : Nat) = 2); decide) | (rw [va_rf_cat]; decide)) | (cases h)) (g : GW M Q X G k n (pc + 1) [a0, some (.int x), a2, a3, a4, a5, a6, a7, a8, a9, a10, a11] st) : GW M Q X G k n pc [a0, a1, a2, a3, a4, a5, a6, a7, a8, a9, a10, a11] (.int x :: st) := by
  intro p l e R s m args below meth c D dA b0 hX H locs ls hG hS hL T hT XX
  obtain ⟨ls', e1, h1⟩ := gHas.store1 (i := 1) (v := .int x) hL hn rfl (fun j w hj hw => by cases (show j = 0 by omega); exact hp w (Option.some.inj hw))
  obtain ⟨t, q1, q2⟩ := g p l e R s m args below meth c D dA b0 hX H locs ls' hG hS h1 T hT XX
  refine ⟨t, ?_, q2⟩
  jvm_step XX.here [XX.here.top, ↓top_set XX.here.top, hX.1, hX.2.1, hd, e1]
  exact q1
theorem GW.astore1 {v : Value} (hd : decode M.cc pc = .ok (.astore_n 1, 1)) (hn : 1 < M.nL := by exact Nat.le_of_ble_eq_true rfl) (hp : ∀ w : Value, a0 = some w → w.category ≠ 2 := by intro w h; first | (cases h; first | (show ¬ ((1 : Nat) = 2); decide) | (rw [va_rf_cat]; decide)) | (cases h)) (hv : v = .null ∨ ∃ a, v = .ref a := by first | exact Or.inr ⟨_, rfl⟩ | exact Or.inl rfl | exact va_rf_or _) (g : GW M Q X G k n (pc + 1) [a0, some v, a2, a3, a4, a5, a6, a7, a8, a9, a10, a11] st) : GW M Q X G k n pc [a0, a1, a2, a3, a4, a5, a6, a7, a8, a9, a10, a11] (v :: st) := by
  intro p l e R s m args below meth c D dA b0 hX H locs ls hG hS hL T hT XX
  obtain ⟨ls', e1, h1⟩ := gHas.store1 (i := 1) (v := v) hL hn (by rcases hv with rfl | ⟨a, rfl⟩ <;> rfl) (fun j w hj hw => by cases (show j = 0 by omega); exact hp w (Option.some.inj hw))
  obtain ⟨t, q1, q2⟩ := g p l e R s m args below meth c D dA b0 hX H locs ls' hG hS h1 T hT XX
  refine ⟨t, ?_, q2⟩
  rcases hv with rfl | ⟨a, rfl⟩ <;>
    (jvm_step XX.here [XX.here.top, ↓top_set XX.here.top, hX.1, hX.2.1, hd, e1, Value.isRef]
     exact q1)
theorem GW.iinc1 {z : Int} {x v : Int32} (hd : decode M.cc pc = .ok (.iinc 1 z, 3)) (hv : x + Int32.ofInt z = v) (hn : 1 < M.nL := by exact Nat.le_of_ble_eq_true rfl) (hp : ∀ w : Value, a0 = some w → w.category ≠ 2 := by intro w h; first | (cases h; first | (show ¬ ((1 : Nat) = 2); decide) | (rw [va_rf_cat]; decide)) | (cases h)) (g : GW M Q X G k n (pc + 3) [a0, some (.int v), a2, a3, a4, a5, a6, a7, a8, a9, a10, a11] st) : GW M Q X G k n pc [a0, some (.int x), a2, a3, a4, a5, a6, a7, a8, a9, a10, a11] st := by
  subst hv
  intro p l e R s m args below meth c D dA b0 hX H locs ls hG hS hL T hT XX
  obtain ⟨ls', e1, h1⟩ := gHas.store1 (i := 1) (v := .int (x + Int32.ofInt z)) hL hn rfl (fun j w hj hw => by cases (show j = 0 by omega); exact hp w (Option.some.inj hw))
  have hx := hL.2.2 1 (.int x) rfl
  obtain ⟨t, q1, q2⟩ := g p l e R s m args below meth c D dA b0 hX H locs ls' hG hS h1 T hT XX
  refine ⟨t, ?_, q2⟩
  jvm_step XX.here [XX.here.top, ↓top_set XX.here.top, hX.1, hX.2.1, hd, hx, e1]
  exact q1
theorem GW.lstore1 {x : Int64} (hd : decode M.cc pc = .ok (.lstore_n 1, 1)) (hn : 2 < M.nL := by exact Nat.le_of_ble_eq_true rfl) (hp : ∀ w : Value, a0 = some w → w.category ≠ 2 := by intro w h; first | (cases h; first | (show ¬ ((1 : Nat) = 2); decide) | (rw [va_rf_cat]; decide)) | (cases h)) (g : GW M Q X G k n (pc + 1) [a0, some (.long x), none, a3, a4, a5, a6, a7, a8, a9, a10, a11] st) : GW M Q X G k n pc [a0, a1, a2, a3, a4, a5, a6, a7, a8, a9, a10, a11] (.long x :: st) := by
  intro p l e R s m args below meth c D dA b0 hX H locs ls hG hS hL T hT XX
  obtain ⟨ls', e1, h1⟩ := gHas.store2 (i := 1) (v := .long x) hL hn rfl (fun j w hj hw => by cases (show j = 0 by omega); exact hp w (Option.some.inj hw))
  obtain ⟨t, q1, q2⟩ := g p l e R s m args below meth c D dA b0 hX H locs ls' hG hS h1 T hT XX
  refine ⟨t, ?_, q2⟩
  jvm_step XX.here [XX.here.top, ↓top_set XX.here.top, hX.1, hX.2.1, hd, e1]
  exact q1
theorem GW.istore2 {x : Int32} (hd : decode M.cc pc = .ok (.istore_n 2, 1)) (hn : 2 < M.nL := by exact Nat.le_of_ble_eq_true rfl) (hp : ∀ w : Value, a1 = some w → w.category ≠ 2 := by intro w h; first | (cases h; first | (show ¬ ((1 : Nat) = 2); decide) | (rw [va_rf_cat]; decide)) | (cases h)) (g : GW M Q X G k n (pc + 1) [a0, a1, some (.int x), a3, a4, a5, a6, a7, a8, a9, a10, a11] st) : GW M Q X G k n pc [a0, a1, a2, a3, a4, a5, a6, a7, a8, a9, a10, a11] (.int x :: st) := by
  intro p l e R s m args below meth c D dA b0 hX H locs ls hG hS hL T hT XX
  obtain ⟨ls', e1, h1⟩ := gHas.store1 (i := 2) (v := .int x) hL hn rfl (fun j w hj hw => by cases (show j = 1 by omega); exact hp w (Option.some.inj hw))
  obtain ⟨t, q1, q2⟩ := g p l e R s m args below meth c D dA b0 hX H locs ls' hG hS h1 T hT XX
  refine ⟨t, ?_, q2⟩
  jvm_step XX.here [XX.here.top, ↓top_set XX.here.top, hX.1, hX.2.1, hd, e1]
  exact q1
theorem GW.astore2 {v : Value} (hd : decode M.cc pc = .ok (.astore_n 2, 1)) (hn : 2 < M.nL := by exact Nat.le_of_ble_eq_true rfl) (hp : ∀ w : Value, a1 = some w → w.category ≠ 2 := by intro w h; first | (cases h; first | (show ¬ ((1 : Nat) = 2); decide) | (rw [va_rf_cat]; decide)) | (cases h)) (hv : v = .null ∨ ∃ a, v = .ref a := by first | exact Or.inr ⟨_, rfl⟩ | exact Or.inl rfl | exact va_rf_or _) (g : GW M Q X G k n (pc + 1) [a0, a1, some v, a3, a4, a5, a6, a7, a8, a9, a10, a11] st) : GW M Q X G k n pc [a0, a1, a2, a3, a4, a5, a6, a7, a8, a9, a10, a11] (v :: st) := by
  intro p l e R s m args below meth c D dA b0 hX H locs ls hG hS hL T hT XX
  obtain ⟨ls', e1, h1⟩ := gHas.store1 (i := 2) (v := v) hL hn (by rcases hv with rfl | ⟨a, rfl⟩ <;> rfl) (fun j w hj hw => by cases (show j = 1 by omega); exact hp w (Option.some.inj hw))
  obtain ⟨t, q1, q2⟩ := g p l e R s m args below meth c D dA b0 hX H locs ls' hG hS h1 T hT XX
  refine ⟨t, ?_, q2⟩
  rcases hv with rfl | ⟨a, rfl⟩ <;>
    (jvm_step XX.here [XX.here.top, ↓top_set XX.here.top, hX.1, hX.2.1, hd, e1, Value.isRef]
     exact q1)
theorem GW.iinc2 {z : Int} {x v : Int32} (hd : decode M.cc pc = .ok (.iinc 2 z, 3)) (hv : x + Int32.ofInt z = v) (hn : 2 < M.nL := by exact Nat.le_of_ble_eq_true rfl) (hp : ∀ w : Value, a1 = some w → w.category ≠ 2 := by intro w h; first | (cases h; first | (show ¬ ((1 : Nat) = 2); decide) | (rw [va_rf_cat]; decide)) | (cases h)) (g : GW M Q X G k n (pc + 3) [a0, a1, some (.int v), a3, a4, a5, a6, a7, a8, a9, a10, a11] st) : GW M Q X G k n pc [a0, a1, some (.int x), a3, a4, a5, a6, a7, a8, a9, a10, a11] st := by
  subst hv
  intro p l e R s m args below meth c D dA b0 hX H locs ls hG hS hL T hT XX
  obtain ⟨ls', e1, h1⟩ := gHas.store1 (i := 2) (v := .int (x + Int32.ofInt z)) hL hn rfl (fun j w hj hw => by cases (show j = 1 by omega); exact hp w (Option.some.inj hw))
  have hx := hL.2.2 2 (.int x) rfl
  obtain ⟨t, q1, q2⟩ := g p l e R s m args below meth c D dA b0 hX H locs ls' hG hS h1 T hT XX
  refine ⟨t, ?_, q2⟩
  jvm_step XX.here [XX.here.top, ↓top_set XX.here.top, hX.1, hX.2.1, hd, hx, e1]
  exact q1
theorem GW.lstore2 {x : Int64} (hd : decode M.cc pc = .ok (.lstore_n 2, 1)) (hn : 3 < M.nL := by exact Nat.le_of_ble_eq_true rfl) (hp : ∀ w : Value, a1 = some w → w.category ≠ 2 := by intro w h; first | (cases h; first | (show ¬ ((1 : Nat) = 2); decide) | (rw [va_rf_cat]; decide)) | (cases h)) (g : GW M Q X G k n (pc + 1) [a0, a1, some (.long x), none, a4, a5, a6, a7, a8, a9, a10, a11] st) : GW M Q X G k n pc [a0, a1, a2, a3, a4, a5, a6, a7, a8, a9, a10, a11] (.long x :: st) := by
  intro p l e R s m args below meth c D dA b0 hX H locs ls hG hS hL T hT XX
  obtain ⟨ls', e1, h1⟩ := gHas.store2 (i := 2) (v := .long x) hL hn rfl (fun j w hj hw => by cases (show j = 1 by omega); exact hp w (Option.some.inj hw))
  obtain ⟨t, q1, q2⟩ := g p l e R s m args below meth c D dA b0 hX H locs ls' hG hS h1 T hT XX
  refine ⟨t, ?_, q2⟩
  jvm_step XX.here [XX.here.top, ↓top_set XX.here.top, hX.1, hX.2.1, hd, e1]
  exact q1
theorem GW.istore3 {x : Int32} (hd : decode M.cc pc = .ok (.istore_n 3, 1)) (hn : 3 < M.nL := by exact Nat.le_of_ble_eq_true rfl) (hp : ∀ w : Value, a2 = some w → w.category ≠ 2 := by intro w h; first | (cases h; first | (show ¬ ((1 : Nat) = 2); decide) | (rw [va_rf_cat]; decide)) | (cases h)) (g : GW M Q X G k n (pc + 1) [a0, a1, a2, some (.int x), a4, a5, a6, a7, a8, a9, a10, a11] st) : GW M Q X G k n pc [a0, a1, a2, a3, a4, a5, a6, a7, a8, a9, a10, a11] (.int x :: st) := by
  intro p l e R s m args below meth c D dA b0 hX H locs ls hG hS hL T hT XX
  obtain ⟨ls', e1, h1⟩ := gHas.store1 (i := 3) (v := .int x) hL hn rfl (fun j w hj hw => by cases (show j = 2 by omega); exact hp w (Option.some.inj hw))
  obtain ⟨t, q1, q2⟩ := g p l e R s m args below meth c D dA b0 hX H locs ls' hG hS h1 T hT XX
  refine ⟨t, ?_, q2⟩
  jvm_step XX.here [XX.here.top, ↓top_set XX.here.top, hX.1, hX.2.1, hd, e1]
  exact q1
theorem GW.astore3 {v : Value} (hd : decode M.cc pc = .ok (.astore_n 3, 1)) (hn : 3 < M.nL := by exact Nat.le_of_ble_eq_true rfl) (hp : ∀ w : Value, a2 = some w → w.category ≠ 2 := by intro w h; first | (cases h; first | (show ¬ ((1 : Nat) = 2); decide) | (rw [va_rf_cat]; decide)) | (cases h)) (hv : v = .null ∨ ∃ a, v = .ref a := by first | exact Or.inr ⟨_, rfl⟩ | exact Or.inl rfl | exact va_rf_or _) (g : GW M Q X G k n (pc + 1) [a0, a1, a2, some v, a4, a5, a6, a7, a8, a9, a10, a11] st) : GW M Q X G k n pc [a0, a1, a2, a3, a4, a5, a6, a7, a8, a9, a10, a11] (v :: st) := by
  intro p l e R s m args below meth c D dA b0 hX H locs ls hG hS hL T hT XX
  obtain ⟨ls', e1, h1⟩ := gHas.store1 (i := 3) (v := v) hL hn (by rcases hv with rfl | ⟨a, rfl⟩ <;> rfl) (fun j w hj hw => by cases (show j = 2 by omega); exact hp w (Option.some.inj hw))
  obtain ⟨t, q1, q2⟩ := g p l e R s m args below meth c D dA b0 hX H locs ls' hG hS h1 T hT XX
  refine ⟨t, ?_, q2⟩
  rcases hv with rfl | ⟨a, rfl⟩ <;>
    (jvm_step XX.here [XX.here.top, ↓top_set XX.here.top, hX.1, hX.2.1, hd, e1, Value.isRef]
     exact q1)
theorem GW.iinc3 {z : Int} {x v : Int32} (hd : decode M.cc pc = .ok (.iinc 3 z, 3)) (hv : x + Int32.ofInt z = v) (hn : 3 < M.nL := by exact Nat.le_of_ble_eq_true rfl) (hp : ∀ w : Value, a2 = some w → w.category ≠ 2 := by intro w h; first | (cases h; first | (show ¬ ((1 : Nat) = 2); decide) | (rw [va_rf_cat]; decide)) | (cases h)) (g : GW M Q X G k n (pc + 3) [a0, a1, a2, some (.int v), a4, a5, a6, a7, a8, a9, a10, a11] st) : GW M Q X G k n pc [a0, a1, a2, some (.int x), a4, a5, a6, a7, a8, a9, a10, a11] st := by
  subst hv
  intro p l e R s m args below meth c D dA b0 hX H locs ls hG hS hL T hT XX
  obtain ⟨ls', e1, h1⟩ := gHas.store1 (i := 3) (v := .int (x + Int32.ofInt z)) hL hn rfl (fun j w hj hw => by cases (show j = 2 by omega); exact hp w (Option.some.inj hw))
  have hx := hL.2.2 3 (.int x) rfl
  obtain ⟨t, q1, q2⟩ := g p l e R s m args below meth c D dA b0 hX H locs ls' hG hS h1 T hT XX
  refine ⟨t, ?_, q2⟩
  jvm_step XX.here [XX.here.top, ↓top_set XX.here.top, hX.1, hX.2.1, hd, hx, e1]
  exact q1
theorem GW.lstore3 {x : Int64} (hd : decode M.cc pc = .ok (.lstore_n 3, 1)) (hn : 4 < M.nL := by exact Nat.le_of_ble_eq_true rfl) (hp : ∀ w : Value, a2 = some w → w.category ≠ 2 := by intro w h; first | (cases h; first | (show ¬ ((1 : Nat) = 2); decide) | (rw [va_rf_cat]; decide)) | (cases h)) (g : GW M Q X G k n (pc + 1) [a0, a1, a2, some (.long x), none, a5, a6, a7, a8, a9, a10, a11] st) : GW M Q X G k n pc [a0, a1, a2, a3, a4, a5, a6, a7, a8, a9, a10, a11] (.long x :: st) := by
  intro p l e R s m args below meth c D dA b0 hX H locs ls hG hS hL T hT XX
  obtain ⟨ls', e1, h1⟩ := gHas.store2 (i := 3) (v := .long x) hL hn rfl (fun j w hj hw => by cases (show j = 2 by omega); exact hp w (Option.some.inj hw))
  obtain ⟨t, q1, q2⟩ := g p l e R s m args below meth c D dA b0 hX H locs ls' hG hS h1 T hT XX
  refine ⟨t, ?_, q2⟩
  jvm_step XX.here [XX.here.top, ↓top_set XX.here.top, hX.1, hX.2.1, hd, e1]
  exact q1
theorem GW.istore4 {x : Int32} (hd : decode M.cc pc = .ok (.istore 4, 2)) (hn : 4 < M.nL := by exact Nat.le_of_ble_eq_true rfl) (hp : ∀ w : Value, a3 = some w → w.category ≠ 2 := by intro w h; first | (cases h; first | (show ¬ ((1 : Nat) = 2); decide) | (rw [va_rf_cat]; decide)) | (cases h)) (g : GW M Q X G k n (pc + 2) [a0, a1, a2, a3, some (.int x), a5, a6, a7, a8, a9, a10, a11] st) : GW M Q X G k n pc [a0, a1, a2, a3, a4, a5, a6, a7, a8, a9, a10, a11] (.int x :: st) := by
  intro p l e R s m args below meth c D dA b0 hX H locs ls hG hS hL T hT XX
  obtain ⟨ls', e1, h1⟩ := gHas.store1 (i := 4) (v := .int x) hL hn rfl (fun j w hj hw => by cases (show j = 3 by omega); exact hp w (Option.some.inj hw))
  obtain ⟨t, q1, q2⟩ := g p l e R s m args below meth c D dA b0 hX H locs ls' hG hS h1 T hT XX
  refine ⟨t, ?_, q2⟩
  jvm_step XX.here [XX.here.top, ↓top_set XX.here.top, hX.1, hX.2.1, hd, e1]
  exact q1
theorem GW.astore4 {v : Value} (hd : decode M.cc pc = .ok (.astore 4, 2)) (hn : 4 < M.nL := by exact Nat.le_of_ble_eq_true rfl) (hp : ∀ w : Value, a3 = some w → w.category ≠ 2 := by intro w h; first | (cases h; first | (show ¬ ((1 : Nat) = 2); decide) | (rw [va_rf_cat]; decide)) | (cases h)) (hv : v = .null ∨ ∃ a, v = .ref a := by first | exact Or.inr ⟨_, rfl⟩ | exact Or.inl rfl | exact va_rf_or _) (g : GW M Q X G k n (pc + 2) [a0, a1, a2, a3, some v, a5, a6, a7, a8, a9, a10, a11] st) : GW M Q X G k n pc [a0, a1, a2, a3, a4, a5, a6, a7, a8, a9, a10, a11] (v :: st) := by
  intro p l e R s m args below meth c D dA b0 hX H locs ls hG hS hL T hT XX
  obtain ⟨ls', e1, h1⟩ := gHas.store1 (i := 4) (v := v) hL hn (by rcases hv with rfl | ⟨a, rfl⟩ <;> rfl) (fun j w hj hw => by cases (show j = 3 by omega); exact hp w (Option.some.inj hw))
  obtain ⟨t, q1, q2⟩ := g p l e R s m args below meth c D dA b0 hX H locs ls' hG hS h1 T hT XX
  refine ⟨t, ?_, q2⟩
  rcases hv with rfl | ⟨a, rfl⟩ <;>
    (jvm_step XX.here [XX.here.top, ↓top_set XX.here.top, hX.1, hX.2.1, hd, e1, Value.isRef]
     exact q1)
theorem GW.iinc4 {z : Int} {x v : Int32} (hd : decode M.cc pc = .ok (.iinc 4 z, 3)) (hv : x + Int32.ofInt z = v) (hn : 4 < M.nL := by exact Nat.le_of_ble_eq_true rfl) (hp : ∀ w : Value, a3 = some w → w.category ≠ 2 := by intro w h; first | (cases h; first | (show ¬ ((1 : Nat) = 2); decide) | (rw [va_rf_cat]; decide)) | (cases h)) (g : GW M Q X G k n (pc + 3) [a0, a1, a2, a3, some (.int v), a5, a6, a7, a8, a9, a10, a11] st) : GW M Q X G k n pc [a0, a1, a2, a3, some (.int x), a5, a6, a7, a8, a9, a10, a11] st := by
  subst hv
  intro p l e R s m args below meth c D dA b0 hX H locs ls hG hS hL T hT XX
  obtain ⟨ls', e1, h1⟩ := gHas.store1 (i := 4) (v := .int (x + Int32.ofInt z)) hL hn rfl (fun j w hj hw => by cases (show j = 3 by omega); exact hp w (Option.some.inj hw))
  have hx := hL.2.2 4 (.int x) rfl
  obtain ⟨t, q1, q2⟩ := g p l e R s m args below meth c D dA b0 hX H locs ls' hG hS h1 T hT XX
  refine ⟨t, ?_, q2⟩
  jvm_step XX.here [XX.here.top, ↓top_set XX.here.top, hX.1, hX.2.1, hd, hx, e1]
  exact q1
theorem GW.lstore4 {x : Int64} (hd : decode M.cc pc = .ok (.lstore 4, 2)) (hn : 5 < M.nL := by exact Nat.le_of_ble_eq_true rfl) (hp : ∀ w : Value, a3 = some w → w.category ≠ 2 := by intro w h; first | (cases h; first | (show ¬ ((1 : Nat) = 2); decide) | (rw [va_rf_cat]; decide)) | (cases h)) (g : GW M Q X G k n (pc + 2) [a0, a1, a2, a3, some (.long x), none, a6, a7, a8, a9, a10, a11] st) : GW M Q X G k n pc [a0, a1, a2, a3, a4, a5, a6, a7, a8, a9, a10, a11] (.long x :: st) := by
  intro p l e R s m args below meth c D dA b0 hX H locs ls hG hS hL T hT XX
  obtain ⟨ls', e1, h1⟩ := gHas.store2 (i := 4) (v := .long x) hL hn rfl (fun j w hj hw => by cases (show j = 3 by omega); exact hp w (Option.some.inj hw))
  obtain ⟨t, q1, q2⟩ := g p l e R s m args below meth c D dA b0 hX H locs ls' hG hS h1 T hT XX
  refine ⟨t, ?_, q2⟩
  jvm_step XX.here [XX.here.top, ↓top_set XX.here.top, hX.1, hX.2.1, hd, e1]
  exact q1
theorem GW.istore5 {x : Int32} (hd : decode M.cc pc = .ok (.istore 5, 2)) (hn : 5 < M.nL := by exact Nat.le_of_ble_eq_true rfl) (hp : ∀ w : Value, a4 = some w → w.category ≠ 2 := by intro w h; first | (cases h; first | (show ¬ ((1 : Nat) = 2); decide) | (rw [va_rf_cat]; decide)) | (cases h)) (g : GW M Q X G k n (pc + 2) [a0, a1, a2, a3, a4, some (.int x), a6, a7, a8, a9, a10, a11] st) : GW M Q X G k n pc [a0, a1, a2, a3, a4, a5, a6, a7, a8, a9, a10, a11] (.int x :: st) := by
  intro p l e R s m args below meth c D dA b0 hX H locs ls hG hS hL T hT XX
  obtain ⟨ls', e1, h1⟩ := gHas.store1 (i := 5) (v := .int x) hL hn rfl (fun j w hj hw => by cases (show j = 4 by omega); exact hp w (Option.some.inj hw))
  obtain ⟨t, q1, q2⟩ := g p l e R s m args below meth c D dA b0 hX H locs ls' hG hS h1 T hT XX
  refine ⟨t, ?_, q2⟩
  jvm_step XX.here [XX.here.top, ↓top_set XX.here.top, hX.1, hX.2.1, hd, e1]
  exact q1
theorem GW.astore5 {v : Value} (hd : decode M.cc pc = .ok (.astore 5, 2)) (hn : 5 < M.nL := by exact Nat.le_of_ble_eq_true rfl) (hp : ∀ w : Value, a4 = some w → w.category ≠ 2 := by intro w h; first | (cases h; first | (show ¬ ((1 : Nat) = 2); decide) | (rw [va_rf_cat]; decide)) | (cases h)) (hv : v = .null ∨ ∃ a, v = .ref a := by first | exact Or.inr ⟨_, rfl⟩ | exact Or.inl rfl | exact va_rf_or _) (g : GW M Q X G k n (pc + 2) [a0, a1, a2, a3, a4, some v, a6, a7, a8, a9, a10, a11] st) : GW M Q X G k n pc [a0, a1, a2, a3, a4, a5, a6, a7, a8, a9, a10, a11] (v :: st) := by
  intro p l e R s m args below meth c D dA b0 hX H locs ls hG hS hL T hT XX
  obtain ⟨ls', e1, h1⟩ := gHas.store1 (i := 5) (v := v) hL hn (by rcases hv with rfl | ⟨a, rfl⟩ <;> rfl) (fun j w hj hw => by cases (show j = 4 by omega); exact hp w (Option.some.inj hw))
  obtain ⟨t, q1, q2⟩ := g p l e R s m args below meth c D dA b0 hX H locs ls' hG hS h1 T hT XX
  refine ⟨t, ?_, q2⟩
  rcases hv with rfl | ⟨a, rfl⟩ <;>
    (jvm_step XX.here [XX.here.top, ↓top_set XX.here.top, hX.1, hX.2.1, hd, e1, Value.isRef]
     exact q1)
theorem GW.iinc5 {z : Int} {x v : Int32} (hd : decode M.cc pc = .ok (.iinc 5 z, 3)) (hv : x + Int32.ofInt z = v) (hn : 5 < M.nL := by exact Nat.le_of_ble_eq_true rfl) (hp : ∀ w : Value, a4 = some w → w.category ≠ 2 := by intro w h; first | (cases h; first | (show ¬ ((1 : Nat) = 2); decide) | (rw [va_rf_cat]; decide)) | (cases h)) (g : GW M Q X G k n (pc + 3) [a0, a1, a2, a3, a4, some (.int v), a6, a7, a8, a9, a10, a11] st) : GW M Q X G k n pc [a0, a1, a2, a3, a4, some (.int x), a6, a7, a8, a9, a10, a11] st := by
  subst hv
  intro p l e R s m args below meth c D dA b0 hX H locs ls hG hS hL T hT XX
  obtain ⟨ls', e1, h1⟩ := gHas.store1 (i := 5) (v := .int (x + Int32.ofInt z)) hL hn rfl (fun j w hj hw => by cases (show j = 4 by omega); exact hp w (Option.some.inj hw))
  have hx := hL.2.2 5 (.int x) rfl
  obtain ⟨t, q1, q2⟩ := g p l e R s m args below meth c D dA b0 hX H locs ls' hG hS h1 T hT XX
  refine ⟨t, ?_, q2⟩
  jvm_step XX.here [XX.here.top, ↓top_set XX.here.top, hX.1, hX.2.1, hd, hx, e1]
  exact q1
theorem GW.lstore5 {x : Int64} (hd : decode M.cc pc = .ok (.lstore 5, 2)) (hn : 6 < M.nL := by exact Nat.le_of_ble_eq_true rfl) (hp : ∀ w : Value, a4 = some w → w.category ≠ 2 := by intro w h; first | (cases h; first | (show ¬ ((1 : Nat) = 2); decide) | (rw [va_rf_cat]; decide)) | (cases h)) (g : GW M Q X G k n (pc + 2) [a0, a1, a2, a3, a4, some (.long x), none, a7, a8, a9, a10, a11] st) : GW M Q X G k n pc [a0, a1, a2, a3, a4, a5, a6, a7, a8, a9, a10, a11] (.long x :: st) := by
  intro p l e R s m args below meth c D dA b0 hX H locs ls hG hS hL T hT XX
  obtain ⟨ls', e1, h1⟩ := gHas.store2 (i := 5) (v := .long x) hL hn rfl (fun j w hj hw => by cases (show j = 4 by omega); exact hp w (Option.some.inj hw))
  obtain ⟨t, q1, q2⟩ := g p l e R s m args below meth c D dA b0 hX H locs ls' hG hS h1 T hT XX
  refine ⟨t, ?_, q2⟩
  jvm_step XX.here [XX.here.top, ↓top_set XX.here.top, hX.1, hX.2.1, hd, e1]
  exact q1
theorem GW.istore6 {x : Int32} (hd : decode M.cc pc = .ok (.istore 6, 2)) (hn : 6 < M.nL := by exact Nat.le_of_ble_eq_true rfl) (hp : ∀ w : Value, a5 = some w → w.category ≠ 2 := by intro w h; first | (cases h; first | (show ¬ ((1 : Nat) = 2); decide) | (rw [va_rf_cat]; decide)) | (cases h)) (g : GW M Q X G k n (pc + 2) [a0, a1, a2, a3, a4, a5, some (.int x), a7, a8, a9, a10, a11] st) : GW M Q X G k n pc [a0, a1, a2, a3, a4, a5, a6, a7, a8, a9, a10, a11] (.int x :: st) := by
  intro p l e R s m args below meth c D dA b0 hX H locs ls hG hS hL T hT XX
  obtain ⟨ls', e1, h1⟩ := gHas.store1 (i := 6) (v := .int x) hL hn rfl (fun j w hj hw => by cases (show j = 5 by omega); exact hp w (Option.some.inj hw))
  obtain ⟨t, q1, q2⟩ := g p l e R s m args below meth c D dA b0 hX H locs ls' hG hS h1 T hT XX
  refine ⟨t, ?_, q2⟩
  jvm_step XX.here [XX.here.top, ↓top_set XX.here.top, hX.1, hX.2.1, hd, e1]
  exact q1
theorem GW.astore6 {v : Value} (hd : decode M.cc pc = .ok (.astore 6, 2)) (hn : 6 < M.nL := by exact Nat.le_of_ble_eq_true rfl) (hp : ∀ w : Value, a5 = some w → w.category ≠ 2 := by intro w h; first | (cases h; first | (show ¬ ((1 : Nat) = 2); decide) | (rw [va_rf_cat]; decide)) | (cases h)) (hv : v = .null ∨ ∃ a, v = .ref a := by first | exact Or.inr ⟨_, rfl⟩ | exact Or.inl rfl | exact va_rf_or _) (g : GW M Q X G k n (pc + 2) [a0, a1, a2, a3, a4, a5, some v, a7, a8, a9, a10, a11] st) : GW M Q X G k n pc [a0, a1, a2, a3, a4, a5, a6, a7, a8, a9, a10, a11] (v :: st) := by
  intro p l e R s m args below meth c D dA b0 hX H locs ls hG hS hL T hT XX
  obtain ⟨ls', e1, h1⟩ := gHas.store1 (i := 6) (v := v) hL hn (by rcases hv with rfl | ⟨a, rfl⟩ <;> rfl) (fun j w hj hw => by cases (show j = 5 by omega); exact hp w (Option.some.inj hw))
  obtain ⟨t, q1, q2⟩ := g p l e R s m args below meth c D dA b0 hX H locs ls' hG hS h1 T hT XX
  refine ⟨t, ?_, q2⟩
  rcases hv with rfl | ⟨a, rfl⟩ <;>
    (jvm_step XX.here [XX.here.top, ↓top_set XX.here.top, hX.1, hX.2.1, hd, e1, Value.isRef]
     exact q1)
theorem GW.iinc6 {z : Int} {x v : Int32} (hd : decode M.cc pc = .ok (.iinc 6 z, 3)) (hv : x + Int32.ofInt z = v) (hn : 6 < M.nL := by exact Nat.le_of_ble_eq_true rfl) (hp : ∀ w : Value, a5 = some w → w.category ≠ 2 := by intro w h; first | (cases h; first | (show ¬ ((1 : Nat) = 2); decide) | (rw [va_rf_cat]; decide)) | (cases h)) (g : GW M Q X G k n (pc + 3) [a0, a1, a2, a3, a4, a5, some (.int v), a7, a8, a9, a10, a11] st) : GW M Q X G k n pc [a0, a1, a2, a3, a4, a5, some (.int x), a7, a8, a9, a10, a11] st := by
  subst hv
  intro p l e R s m args below meth c D dA b0 hX H locs ls hG hS hL T hT XX
  obtain ⟨ls', e1, h1⟩ := gHas.store1 (i := 6) (v := .int (x + Int32.ofInt z)) hL hn rfl (fun j w hj hw => by cases (show j = 5 by omega); exact hp w (Option.some.inj hw))
  have hx := hL.2.2 6 (.int x) rfl
  obtain ⟨t, q1, q2⟩ := g p l e R s m args below meth c D dA b0 hX H locs ls' hG hS h1 T hT XX
  refine ⟨t, ?_, q2⟩
  jvm_step XX.here [XX.here.top, ↓top_set XX.here.top, hX.1, hX.2.1, hd, hx, e1]
  exact q1
theorem GW.lstore6 {x : Int64} (hd : decode M.cc pc = .ok (.lstore 6, 2)) (hn : 7 < M.nL := by exact Nat.le_of_ble_eq_true rfl) (hp : ∀ w : Value, a5 = some w → w.category ≠ 2 := by intro w h; first | (cases h; first | (show ¬ ((1 : Nat) = 2); decide) | (rw [va_rf_cat]; decide)) | (cases h)) (g : GW M Q X G k n (pc + 2) [a0, a1, a2, a3, a4, a5, some (.long x), none, a8, a9, a10, a11] st) : GW M Q X G k n pc [a0, a1, a2, a3, a4, a5, a6, a7, a8, a9, a10, a11] (.long x :: st) := by
  intro p l e R s m args below meth c D dA b0 hX H locs ls hG hS hL T hT XX
  obtain ⟨ls', e1, h1⟩ := gHas.store2 (i := 6) (v := .long x) hL hn rfl (fun j w hj hw => by cases (show j = 5 by omega); exact hp w (Option.some.inj hw))
  obtain ⟨t, q1, q2⟩ := g p l e R s m args below meth c D dA b0 hX H locs ls' hG hS h1 T hT XX
  refine ⟨t, ?_, q2⟩
  jvm_step XX.here [XX.here.top, ↓top_set XX.here.top, hX.1, hX.2.1, hd, e1]
  exact q1
theorem GW.istore7 {x : Int32} (hd : decode M.cc pc = .ok (.istore 7, 2)) (hn : 7 < M.nL := by exact Nat.le_of_ble_eq_true rfl) (hp : ∀ w : Value, a6 = some w → w.category ≠ 2 := by intro w h; first | (cases h; first | (show ¬ ((1 : Nat) = 2); decide) | (rw [va_rf_cat]; decide)) | (cases h)) (g : GW M Q X G k n (pc + 2) [a0, a1, a2, a3, a4, a5, a6, some (.int x), a8, a9, a10, a11] st) : GW M Q X G k n pc [a0, a1, a2, a3, a4, a5, a6, a7, a8, a9, a10, a11] (.int x :: st) := by
  intro p l e R s m args below meth c D dA b0 hX H locs ls hG hS hL T hT XX
  obtain ⟨ls', e1, h1⟩ := gHas.store1 (i := 7) (v := .int x) hL hn rfl (fun j w hj hw => by cases (show j = 6 by omega); exact hp w (Option.some.inj hw))
  obtain ⟨t, q1, q2⟩ := g p l e R s m args below meth c D dA b0 hX H locs ls' hG hS h1 T hT XX
  refine ⟨t, ?_, q2⟩
  jvm_step XX.here [XX.here.top, ↓top_set XX.here.top, hX.1, hX.2.1, hd, e1]
  exact q1
theorem GW.astore7 {v : Value} (hd : decode M.cc pc = .ok (.astore 7, 2)) (hn : 7 < M.nL := by exact Nat.le_of_ble_eq_true rfl) (hp : ∀ w : Value, a6 = some w → w.category ≠ 2 := by intro w h; first | (cases h; first | (show ¬ ((1 : Nat) = 2); decide) | (rw [va_rf_cat]; decide)) | (cases h)) (hv : v = .null ∨ ∃ a, v = .ref a := by first | exact Or.inr ⟨_, rfl⟩ | exact Or.inl rfl | exact va_rf_or _) (g : GW M Q X G k n (pc + 2) [a0, a1, a2, a3, a4, a5, a6, some v, a8, a9, a10, a11] st) : GW M Q X G k n pc [a0, a1, a2, a3, a4, a5, a6, a7, a8, a9, a10, a11] (v :: st) := by
  intro p l e R s m args below meth c D dA b0 hX H locs ls hG hS hL T hT XX
  obtain ⟨ls', e1, h1⟩ := gHas.store1 (i := 7) (v := v) hL hn (by rcases hv with rfl | ⟨a, rfl⟩ <;> rfl) (fun j w hj hw => by cases (show j = 6 by omega); exact hp w (Option.some.inj hw))
  obtain ⟨t, q1, q2⟩ := g p l e R s m args below meth c D dA b0 hX H locs ls' hG hS h1 T hT XX
  refine ⟨t, ?_, q2⟩
  rcases hv with rfl | ⟨a, rfl⟩ <;>
    (jvm_step XX.here [XX.here.top, ↓top_set XX.here.top, hX.1, hX.2.1, hd, e1, Value.isRef]
     exact q1)
theorem GW.iinc7 {z : Int} {x v : Int32} (hd : decode M.cc pc = .ok (.iinc 7 z, 3)) (hv : x + Int32.ofInt z = v) (hn : 7 < M.nL := by exact Nat.le_of_ble_eq_true rfl) (hp : ∀ w : Value, a6 = some w → w.category ≠ 2 := by intro w h; first | (cases h; first | (show ¬ ((1 : Nat) = 2); decide) | (rw [va_rf_cat]; decide)) | (cases h)) (g : GW M Q X G k n (pc + 3) [a0, a1, a2, a3, a4, a5, a6, some (.int v), a8, a9, a10, a11] st) : GW M Q X G k n pc [a0, a1, a2, a3, a4, a5, a6, some (.int x), a8, a9, a10, a11] st := by
  subst hv
  intro p l e R s m args below meth c D dA b0 hX H locs ls hG hS hL T hT XX
  obtain ⟨ls', e1, h1⟩ := gHas.store1 (i := 7) (v := .int (x + Int32.ofInt z)) hL hn rfl (fun j w hj hw => by cases (show j = 6 by omega); exact hp w (Option.some.inj hw))
  have hx := hL.2.2 7 (.int x) rfl
  obtain ⟨t, q1, q2⟩ := g p l e R s m args below meth c D dA b0 hX H locs ls' hG hS h1 T hT XX
  refine ⟨t, ?_, q2⟩
  jvm_step XX.here [XX.here.top, ↓top_set XX.here.top, hX.1, hX.2.1, hd, hx, e1]
  exact q1
theorem GW.lstore7 {x : Int64} (hd : decode M.cc pc = .ok (.lstore 7, 2)) (hn : 8 < M.nL := by exact Nat.le_of_ble_eq_true rfl) (hp : ∀ w : Value, a6 = some w → w.category ≠ 2 := by intro w h; first | (cases h; first | (show ¬ ((1 : Nat) = 2); decide) | (rw [va_rf_cat]; decide)) | (cases h)) (g : GW M Q X G k n (pc + 2) [a0, a1, a2, a3, a4, a5, a6, some (.long x), none, a9, a10, a11] st) : GW M Q X G k n pc [a0, a1, a2, a3, a4, a5, a6, a7, a8, a9, a10, a11] (.long x :: st) := by
  intro p l e R s m args below meth c D dA b0 hX H locs ls hG hS hL T hT XX
  obtain ⟨ls', e1, h1⟩ := gHas.store2 (i := 7) (v := .long x) hL hn rfl (fun j w hj hw => by cases (show j = 6 by omega); exact hp w (Option.some.inj hw))
  obtain ⟨t, q1, q2⟩ := g p l e R s m args below meth c D dA b0 hX H locs ls' hG hS h1 T hT XX
  refine ⟨t, ?_, q2⟩
  jvm_step XX.here [XX.here.top, ↓top_set XX.here.top, hX.1, hX.2.1, hd, e1]
  exact q1
theorem GW.istore8 {x : Int32} (hd : decode M.cc pc = .ok (.istore 8, 2)) (hn : 8 < M.nL := by exact Nat.le_of_ble_eq_true rfl) (hp : ∀ w : Value, a7 = some w → w.category ≠ 2 := by intro w h; first | (cases h; first | (show ¬ ((1 : Nat) = 2); decide) | (rw [va_rf_cat]; decide)) | (cases h)) (g : GW M Q X G k n (pc + 2) [a0, a1, a2, a3, a4, a5, a6, a7, some (.int x), a9, a10, a11] st) : GW M Q X G k n pc [a0, a1, a2, a3, a4, a5, a6, a7, a8, a9, a10, a11] (.int x :: st) := by
  intro p l e R s m args below meth c D dA b0 hX H locs ls hG hS hL T hT XX
  obtain ⟨ls', e1, h1⟩ := gHas.store1 (i := 8) (v := .int x) hL hn rfl (fun j w hj hw => by cases (show j = 7 by omega); exact hp w (Option.some.inj hw))
  obtain ⟨t, q1, q2⟩ := g p l e R s m args below meth c D dA b0 hX H locs ls' hG hS h1 T hT XX
  refine ⟨t, ?_, q2⟩
  jvm_step XX.here [XX.here.top, ↓top_set XX.here.top, hX.1, hX.2.1, hd, e1]
  exact q1
theorem GW.astore8 {v : Value} (hd : decode M.cc pc = .ok (.astore 8, 2)) (hn : 8 < M.nL := by exact Nat.le_of_ble_eq_true rfl) (hp : ∀ w : Value, a7 = some w → w.category ≠ 2 := by intro w h; first | (cases h; first | (show ¬ ((1 : Nat) = 2); decide) | (rw [va_rf_cat]; decide)) | (cases h)) (hv : v = .null ∨ ∃ a, v = .ref a := by first | exact Or.inr ⟨_, rfl⟩ | exact Or.inl rfl | exact va_rf_or _) (g : GW M Q X G k n (pc + 2) [a0, a1, a2, a3, a4, a5, a6, a7, some v, a9, a10, a11] st) : GW M Q X G k n pc [a0, a1, a2, a3, a4, a5, a6, a7, a8, a9, a10, a11] (v :: st) := by
  intro p l e R s m args below meth c D dA b0 hX H locs ls hG hS hL T hT XX
  obtain ⟨ls', e1, h1⟩ := gHas.store1 (i := 8) (v := v) hL hn (by rcases hv with rfl | ⟨a, rfl⟩ <;> rfl) (fun j w hj hw => by cases (show j = 7 by omega); exact hp w (Option.some.inj hw))
  obtain ⟨t, q1, q2⟩ := g p l e R s m args below meth c D dA b0 hX H locs ls' hG hS h1 T hT XX
  refine ⟨t, ?_, q2⟩
  rcases hv with rfl | ⟨a, rfl⟩ <;>
    (jvm_step XX.here [XX.here.top, ↓top_set XX.here.top, hX.1, hX.2.1, hd, e1, Value.isRef]
     exact q1)
theorem GW.iinc8 {z : Int} {x v : Int32} (hd : decode M.cc pc = .ok (.iinc 8 z, 3)) (hv : x + Int32.ofInt z = v) (hn : 8 < M.nL := by exact Nat.le_of_ble_eq_true rfl) (hp : ∀ w : Value, a7 = some w → w.category ≠ 2 := by intro w h; first | (cases h; first | (show ¬ ((1 : Nat) = 2); decide) | (rw [va_rf_cat]; decide)) | (cases h)) (g : GW M Q X G k n (pc + 3) [a0, a1, a2, a3, a4, a5, a6, a7, some (.int v), a9, a10, a11] st) : GW M Q X G k n pc [a0, a1, a2, a3, a4, a5, a6, a7, some (.int x), a9, a10, a11] st := by
  subst hv
  intro p l e R s m args below meth c D dA b0 hX H locs ls hG hS hL T hT XX
  obtain ⟨ls', e1, h1⟩ := gHas.store1 (i := 8) (v := .int (x + Int32.ofInt z)) hL hn rfl (fun j w hj hw => by cases (show j = 7 by omega); exact hp w (Option.some.inj hw))
  have hx := hL.2.2 8 (.int x) rfl
  obtain ⟨t, q1, q2⟩ := g p l e R s m args below meth c D dA b0 hX H locs ls' hG hS h1 T hT XX
  refine ⟨t, ?_, q2⟩
  jvm_step XX.here [XX.here.top, ↓top_set XX.here.top, hX.1, hX.2.1, hd, hx, e1]
  exact q1
theorem GW.lstore8 {x : Int64} (hd : decode M.cc pc = .ok (.lstore 8, 2)) (hn : 9 < M.nL := by exact Nat.le_of_ble_eq_true rfl) (hp : ∀ w : Value, a7 = some w → w.category ≠ 2 := by intro w h; first | (cases h; first | (show ¬ ((1 : Nat) = 2); decide) | (rw [va_rf_cat]; decide)) | (cases h)) (g : GW M Q X G k n (pc + 2) [a0, a1, a2, a3, a4, a5, a6, a7, some (.long x), none, a10, a11] st) : GW M Q X G k n pc [a0, a1, a2, a3, a4, a5, a6, a7, a8, a9, a10, a11] (.long x :: st) := by
  intro p l e R s m args below meth c D dA b0 hX H locs ls hG hS hL T hT XX
  obtain ⟨ls', e1, h1⟩ := gHas.store2 (i := 8) (v := .long x) hL hn rfl (fun j w hj hw => by cases (show j = 7 by omega); exact hp w (Option.some.inj hw))
  obtain ⟨t, q1, q2⟩ := g p l e R s m args below meth c D dA b0 hX H locs ls' hG hS h1 T hT XX
  refine ⟨t, ?_, q2⟩
  jvm_step XX.here [XX.here.top, ↓top_set XX.here.top, hX.1, hX.2.1, hd, e1]
  exact q1
theorem GW.istore9 {x : Int32} (hd : decode M.cc pc = .ok (.istore 9, 2)) (hn : 9 < M.nL := by exact Nat.le_of_ble_eq_true rfl) (hp : ∀ w : Value, a8 = some w → w.category ≠ 2 := by intro w h; first | (cases h; first | (show ¬ ((1 : Nat) = 2); decide) | (rw [va_rf_cat]; decide)) | (cases h)) (g : GW M Q X G k n (pc + 2) [a0, a1, a2, a3, a4, a5, a6, a7, a8, some (.int x), a10, a11] st) : GW M Q X G k n pc [a0, a1, a2, a3, a4, a5, a6, a7, a8, a9, a10, a11] (.int x :: st) := by
  intro p l e R s m args below meth c D dA b0 hX H locs ls hG hS hL T hT XX
  obtain ⟨ls', e1, h1⟩ := gHas.store1 (i := 9) (v := .int x) hL hn rfl (fun j w hj hw => by cases (show j = 8 by omega); exact hp w (Option.some.inj hw))
  obtain ⟨t, q1, q2⟩ := g p l e R s m args below meth c D dA b0 hX H locs ls' hG hS h1 T hT XX
  refine ⟨t, ?_, q2⟩
  jvm_step XX.here [XX.here.top, ↓top_set XX.here.top, hX.1, hX.2.1, hd, e1]
  exact q1
theorem GW.astore9 {v : Value} (hd : decode M.cc pc = .ok (.astore 9, 2)) (hn : 9 < M.nL := by exact Nat.le_of_ble_eq_true rfl) (hp : ∀ w : Value, a8 = some w → w.category ≠ 2 := by intro w h; first | (cases h; first | (show ¬ ((1 : Nat) = 2); decide) | (rw [va_rf_cat]; decide)) | (cases h)) (hv : v = .null ∨ ∃ a, v = .ref a := by first | exact Or.inr ⟨_, rfl⟩ | exact Or.inl rfl | exact va_rf_or _) (g : GW M Q X G k n (pc + 2) [a0, a1, a2, a3, a4, a5, a6, a7, a8, some v, a10, a11] st) : GW M Q X G k n pc [a0, a1, a2, a3, a4, a5, a6, a7, a8, a9, a10, a11] (v :: st) := by
  intro p l e R s m args below meth c D dA b0 hX H locs ls hG hS hL T hT XX
  obtain ⟨ls', e1, h1⟩ := gHas.store1 (i := 9) (v := v) hL hn (by rcases hv with rfl | ⟨a, rfl⟩ <;> rfl) (fun j w hj hw => by cases (show j = 8 by omega); exact hp w (Option.some.inj hw))
  obtain ⟨t, q1, q2⟩ := g p l e R s m args below meth c D dA b0 hX H locs ls' hG hS h1 T hT XX
  refine ⟨t, ?_, q2⟩
  rcases hv with rfl | ⟨a, rfl⟩ <;>
    (jvm_step XX.here [XX.here.top, ↓top_set XX.here.top, hX.1, hX.2.1, hd, e1, Value.isRef]
     exact q1)
theorem GW.iinc9 {z : Int} {x v : Int32} (hd : decode M.cc pc = .ok (.iinc 9 z, 3)) (hv : x + Int32.ofInt z = v) (hn : 9 < M.nL := by exact Nat.le_of_ble_eq_true rfl) (hp : ∀ w : Value, a8 = some w → w.category ≠ 2 := by intro w h; first | (cases h; first | (show ¬ ((1 : Nat) = 2); decide) | (rw [va_rf_cat]; decide)) | (cases h)) (g : GW M Q X G k n (pc + 3) [a0, a1, a2, a3, a4, a5, a6, a7, a8, some (.int v), a10, a11] st) : GW M Q X G k n pc [a0, a1, a2, a3, a4, a5, a6, a7, a8, some (.int x), a10, a11] st := by
  subst hv
  intro p l e R s m args below meth c D dA b0 hX H locs ls hG hS hL T hT XX
  obtain ⟨ls', e1, h1⟩ := gHas.store1 (i := 9) (v := .int (x + Int32.ofInt z)) hL hn rfl (fun j w hj hw => by cases (show j = 8 by omega); exact hp w (Option.some.inj hw))
  have hx := hL.2.2 9 (.int x) rfl
  obtain ⟨t, q1, q2⟩ := g p l e R s m args below meth c D dA b0 hX H locs ls' hG hS h1 T hT XX
  refine ⟨t, ?_, q2⟩
  jvm_step XX.here [XX.here.top, ↓top_set XX.here.top, hX.1, hX.2.1, hd, hx, e1]
  exact q1
theorem GW.lstore9 {x : Int64} (hd : decode M.cc pc = .ok (.lstore 9, 2)) (hn : 10 < M.nL := by exact Nat.le_of_ble_eq_true rfl) (hp : ∀ w : Value, a8 = some w → w.category ≠ 2 := by intro w h; first | (cases h; first | (show ¬ ((1 : Nat) = 2); decide) | (rw [va_rf_cat]; decide)) | (cases h)) (g : GW M Q X G k n (pc + 2) [a0, a1, a2, a3, a4, a5, a6, a7, a8, some (.long x), none, a11] st) : GW M Q X G k n pc [a0, a1, a2, a3, a4, a5, a6, a7, a8, a9, a10, a11] (.long x :: st) := by
  intro p l e R s m args below meth c D dA b0 hX H locs ls hG hS hL T hT XX
  obtain ⟨ls', e1, h1⟩ := gHas.store2 (i := 9) (v := .long x) hL hn rfl (fun j w hj hw => by cases (show j = 8 by omega); exact hp w (Option.some.inj hw))
  obtain ⟨t, q1, q2⟩ := g p l e R s m args below meth c D dA b0 hX H locs ls' hG hS h1 T hT XX
  refine ⟨t, ?_, q2⟩
  jvm_step XX.here [XX.here.top, ↓top_set XX.here.top, hX.1, hX.2.1, hd, e1]
  exact q1
theorem GW.istore10 {x : Int32} (hd : decode M.cc pc = .ok (.istore 10, 2)) (hn : 10 < M.nL := by exact Nat.le_of_ble_eq_true rfl) (hp : ∀ w : Value, a9 = some w → w.category ≠ 2 := by intro w h; first | (cases h; first | (show ¬ ((1 : Nat) = 2); decide) | (rw [va_rf_cat]; decide)) | (cases h)) (g : GW M Q X G k n (pc + 2) [a0, a1, a2, a3, a4, a5, a6, a7, a8, a9, some (.int x), a11] st) : GW M Q X G k n pc [a0, a1, a2, a3, a4, a5, a6, a7, a8, a9, a10, a11] (.int x :: st) := by
  intro p l e R s m args below meth c D dA b0 hX H locs ls hG hS hL T hT XX
  obtain ⟨ls', e1, h1⟩ := gHas.store1 (i := 10) (v := .int x) hL hn rfl (fun j w hj hw => by cases (show j = 9 by omega); exact hp w (Option.some.inj hw))
  obtain ⟨t, q1, q2⟩ := g p l e R s m args below meth c D dA b0 hX H locs ls' hG hS h1 T hT XX
  refine ⟨t, ?_, q2⟩
  jvm_step XX.here [XX.here.top, ↓top_set XX.here.top, hX.1, hX.2.1, hd, e1]
  exact q1
theorem GW.astore10 {v : Value} (hd : decode M.cc pc = .ok (.astore 10, 2)) (hn : 10 < M.nL := by exact Nat.le_of_ble_eq_true rfl) (hp : ∀ w : Value, a9 = some w → w.category ≠ 2 := by intro w h; first | (cases h; first | (show ¬ ((1 : Nat) = 2); decide) | (rw [va_rf_cat]; decide)) | (cases h)) (hv : v = .null ∨ ∃ a, v = .ref a := by first | exact Or.inr ⟨_, rfl⟩ | exact Or.inl rfl | exact va_rf_or _) (g : GW M Q X G k n (pc + 2) [a0, a1, a2, a3, a4, a5, a6, a7, a8, a9, some v, a11] st) : GW M Q X G k n pc [a0, a1, a2, a3, a4, a5, a6, a7, a8, a9, a10, a11] (v :: st) := by
  intro p l e R s m args below meth c D dA b0 hX H locs ls hG hS hL T hT XX
  obtain ⟨ls', e1, h1⟩ := gHas.store1 (i := 10) (v := v) hL hn (by rcases hv with rfl | ⟨a, rfl⟩ <;> rfl) (fun j w hj hw => by cases (show j = 9 by omega); exact hp w (Option.some.inj hw))
  obtain ⟨t, q1, q2⟩ := g p l e R s m args below meth c D dA b0 hX H locs ls' hG hS h1 T hT XX
  refine ⟨t, ?_, q2⟩
  rcases hv with rfl | ⟨a, rfl⟩ <;>
    (jvm_step XX.here [XX.here.top, ↓top_set XX.here.top, hX.1, hX.2.1, hd, e1, Value.isRef]
     exact q1)
theorem GW.iinc10 {z : Int} {x v : Int32} (hd : decode M.cc pc = .ok (.iinc 10 z, 3)) (hv : x + Int32.ofInt z = v) (hn : 10 < M.nL := by exact Nat.le_of_ble_eq_true rfl) (hp : ∀ w : Value, a9 = some w → w.category ≠ 2 := by intro w h; first | (cases h; first | (show ¬ ((1 : Nat) = 2); decide) | (rw [va_rf_cat]; decide)) | (cases h)) (g : GW M Q X G k n (pc + 3) [a0, a1, a2, a3, a4, a5, a6, a7, a8, a9, some (.int v), a11] st) : GW M Q X G k n pc [a0, a1, a2, a3, a4, a5, a6, a7, a8, a9, some (.int x), a11] st := by
  subst hv
  intro p l e R s m args below meth c D dA b0 hX H locs ls hG hS hL T hT XX
  obtain ⟨ls', e1, h1⟩ := gHas.store1 (i := 10) (v := .int (x + Int32.ofInt z)) hL hn rfl (fun j w hj hw => by cases (show j = 9 by omega); exact hp w (Option.some.inj hw))
  have hx := hL.2.2 10 (.int x) rfl
  obtain ⟨t, q1, q2⟩ := g p l e R s m args below meth c D dA b0 hX H locs ls' hG hS h1 T hT XX
  refine ⟨t, ?_, q2⟩
  jvm_step XX.here [XX.here.top, ↓top_set XX.here.top, hX.1, hX.2.1, hd, hx, e1]
  exact q1
theorem GW.lstore10 {x : Int64} (hd : decode M.cc pc = .ok (.lstore 10, 2)) (hn : 11 < M.nL := by exact Nat.le_of_ble_eq_true rfl) (hp : ∀ w : Value, a9 = some w → w.category ≠ 2 := by intro w h; first | (cases h; first | (show ¬ ((1 : Nat) = 2); decide) | (rw [va_rf_cat]; decide)) | (cases h)) (g : GW M Q X G k n (pc + 2) [a0, a1, a2, a3, a4, a5, a6, a7, a8, a9, some (.long x), none] st) : GW M Q X G k n pc [a0, a1, a2, a3, a4, a5, a6, a7, a8, a9, a10, a11] (.long x :: st) := by
  intro p l e R s m args below meth c D dA b0 hX H locs ls hG hS hL T hT XX
  obtain ⟨ls', e1, h1⟩ := gHas.store2 (i := 10) (v := .long x) hL hn rfl (fun j w hj hw => by cases (show j = 9 by omega); exact hp w (Option.some.inj hw))
  obtain ⟨t, q1, q2⟩ := g p l e R s m args below meth c D dA b0 hX H locs ls' hG hS h1 T hT XX
  refine ⟨t, ?_, q2⟩
  jvm_step XX.here [XX.here.top, ↓top_set XX.here.top, hX.1, hX.2.1, hd, e1]
  exact q1
theorem GW.istore11 {x : Int32} (hd : decode M.cc pc = .ok (.istore 11, 2)) (hn : 11 < M.nL := by exact Nat.le_of_ble_eq_true rfl) (hp : ∀ w : Value, a10 = some w → w.category ≠ 2 := by intro w h; first | (cases h; first | (show ¬ ((1 : Nat) = 2); decide) | (rw [va_rf_cat]; decide)) | (cases h)) (g : GW M Q X G k n (pc + 2) [a0, a1, a2, a3, a4, a5, a6, a7, a8, a9, a10, some (.int x)] st) : GW M Q X G k n pc [a0, a1, a2, a3, a4, a5, a6, a7, a8, a9, a10, a11] (.int x :: st) := by
  intro p l e R s m args below meth c D dA b0 hX H locs ls hG hS hL T hT XX
  obtain ⟨ls', e1, h1⟩ := gHas.store1 (i := 11) (v := .int x) hL hn rfl (fun j w hj hw => by cases (show j = 10 by omega); exact hp w (Option.some.inj hw))
  obtain ⟨t, q1, q2⟩ := g p l e R s m args below meth c D dA b0 hX H locs ls' hG hS h1 T hT XX
  refine ⟨t, ?_, q2⟩
  jvm_step XX.here [XX.here.top, ↓top_set XX.here.top, hX.1, hX.2.1, hd, e1]
  exact q1
theorem GW.astore11 {v : Value} (hd : decode M.cc pc = .ok (.astore 11, 2)) (hn : 11 < M.nL := by exact Nat.le_of_ble_eq_true rfl) (hp : ∀ w : Value, a10 = some w → w.category ≠ 2 := by intro w h; first | (cases h; first | (show ¬ ((1 : Nat) = 2); decide) | (rw [va_rf_cat]; decide)) | (cases h)) (hv : v = .null ∨ ∃ a, v = .ref a := by first | exact Or.inr ⟨_, rfl⟩ | exact Or.inl rfl | exact va_rf_or _) (g : GW M Q X G k n (pc + 2) [a0, a1, a2, a3, a4, a5, a6, a7, a8, a9, a10, some v] st) : GW M Q X G k n pc [a0, a1, a2, a3, a4, a5, a6, a7, a8, a9, a10, a11] (v :: st) := by
  intro p l e R s m args below meth c D dA b0 hX H locs ls hG hS hL T hT XX
  obtain ⟨ls', e1, h1⟩ := gHas.store1 (i := 11) (v := v) hL hn (by rcases hv with rfl | ⟨a, rfl⟩ <;> rfl) (fun j w hj hw => by cases (show j = 10 by omega); exact hp w (Option.some.inj hw))
  obtain ⟨t, q1, q2⟩ := g p l e R s m args below meth c D dA b0 hX H locs ls' hG hS h1 T hT XX
  refine ⟨t, ?_, q2⟩
  rcases hv with rfl | ⟨a, rfl⟩ <;>
    (jvm_step XX.here [XX.here.top, ↓top_set XX.here.top, hX.1, hX.2.1, hd, e1, Value.isRef]
     exact q1)
theorem GW.iinc11 {z : Int} {x v : Int32} (hd : decode M.cc pc = .ok (.iinc 11 z, 3)) (hv : x + Int32.ofInt z = v) (hn : 11 < M.nL := by exact Nat.le_of_ble_eq_true rfl) (hp : ∀ w : Value, a10 = some w → w.category ≠ 2 := by intro w h; first | (cases h; first | (show ¬ ((1 : Nat) = 2); decide) | (rw [va_rf_cat]; decide)) | (cases h)) (g : GW M Q X G k n (pc + 3) [a0, a1, a2, a3, a4, a5, a6, a7, a8, a9, a10, some (.int v)] st) : GW M Q X G k n pc [a0, a1, a2, a3, a4, a5, a6, a7, a8, a9, a10, some (.int x)] st := by
  subst hv
  intro p l e R s m args below meth c D dA b0 hX H locs ls hG hS hL T hT XX
  obtain ⟨ls', e1, h1⟩ := gHas.store1 (i := 11) (v := .int (x + Int32.ofInt z)) hL hn rfl (fun j w hj hw => by cases (show j = 10 by omega); exact hp w (Option.some.inj hw))
  have hx := hL.2.2 11 (.int x) rfl
  obtain ⟨t, q1, q2⟩ := g p l e R s m args below meth c D dA b0 hX H locs ls' hG hS h1 T hT XX
  refine ⟨t, ?_, q2⟩
  jvm_step XX.here [XX.here.top, ↓top_set XX.here.top, hX.1, hX.2.1, hd, hx, e1]
  exact q1
end GWR
end
section
/-! THE GHOST LAYER, second part: rows that read and write the heap, calls, answers, throws -/
def gS (G : gG) (r : Nat) (c : gC) : gG := (G.1, G.2.1, fun q => if q = r then some c else G.2.2 q)
def gN (G : gG) (r a : Nat) (c : gC) : gG := (G.1, fun q => if q = r then a else G.2.1 q, fun q => if q = r then some c else G.2.2 q)
def gF (G : gG) (r : Nat) : gG := (fun q => if q = G.2.1 r then G.2.2 r else G.1 q, G.2.1, fun q => if q = r then none else G.2.2 q)
theorem gH.set {D dA b0} {G : gG} {H H1 : Heap} {r : Nat} {c0 c : gC} (h : gH D dA b0 G H) (hr : G.2.2 r = some c0) (hc : va_at D vwCl (G.2.1 r, gE dA c) H1) (ho : ∀ q : Nat, q ≠ G.2.1 r → H1[q]? = H[q]?) : gH D dA b0 (gS G r c) H1 := by
  obtain ⟨h1, h2, h3⟩ := h
  have hh : ∀ q c', (gS G r c).2.2 q = some c' → ∃ c'', G.2.2 q = some c'' := by
    intro q c' hq
    by_cases hqr : q = r
    · exact ⟨c0, by rw [hqr]; exact hr⟩
    · exact ⟨c', by simpa [gS, hqr] using hq⟩
  refine ⟨fun a c' hl => ?_, fun q c' hq => ?_, fun q q' c1 c2 hq hq' he => ?_⟩
  · rcases hl with hl | ⟨q, ha, hq⟩
    · have hne : a ≠ G.2.1 r := fun e => by
        have := h2 r c0 hr
        rw [← e] at this
        exact absurd (hl.symm.trans this) (by simp)
      obtain ⟨k1, k2⟩ := h1 a c' (Or.inl hl)
      exact ⟨k1, k2.kept (ho a hne)⟩
    · have ha : G.2.1 q = a := ha
      by_cases hqr : q = r
      · subst hqr
        have hcc : c = c' := by simpa [gS] using hq
        subst hcc
        subst ha
        exact ⟨(h1 _ c0 (Or.inr ⟨q, rfl, hr⟩)).1, hc⟩
      · have hq' : G.2.2 q = some c' := by simpa [gS, hqr] using hq
        obtain ⟨k1, k2⟩ := h1 a c' (Or.inr ⟨q, ha, hq'⟩)
        refine ⟨k1, k2.kept (ho a fun e => hqr ?_)⟩
        exact h3 q r c' c0 hq' hr (ha.trans e)
  · obtain ⟨c'', hc''⟩ := hh q c' hq
    exact h2 q c'' hc''
  · obtain ⟨d1, e1⟩ := hh q c1 hq
    obtain ⟨d2, e2⟩ := hh q' c2 hq'
    exact h3 q q' d1 d2 e1 e2 he
theorem gH.new {D dA b0} {G : gG} {H H1 : Heap} {r : Nat} {c : gC} (h : gH D dA b0 G H) (hr : G.2.2 r = none) (hb : b0 ≤ H.size) (hc : va_at D vwCl (H.size, gE dA c) H1) (ho : ∀ q : Nat, q < H.size → H1[q]? = H[q]?) : gH D dA b0 (gN G r H.size c) H1 := by
  obtain ⟨h1, h2, h3⟩ := h
  refine ⟨fun a c' hl => ?_, fun q c' hq => ?_, fun q q' c1 c2 hq hq' he => ?_⟩
  · rcases hl with hl | ⟨q, ha, hq⟩
    · obtain ⟨k1, k2⟩ := h1 a c' (Or.inl hl)
      exact ⟨k1, k2.kept (ho a k2.lt)⟩
    · by_cases hqr : q = r
      · subst hqr
        have hcc : c = c' := by simpa [gN] using hq
        have haa : H.size = a := by simpa [gN] using ha
        subst hcc
        subst haa
        exact ⟨hb, hc⟩
      · have hq' : G.2.2 q = some c' := by simpa [gN, hqr] using hq
        have ha' : G.2.1 q = a := by simpa [gN, hqr] using ha
        obtain ⟨k1, k2⟩ := h1 a c' (Or.inr ⟨q, ha', hq'⟩)
        exact ⟨k1, k2.kept (ho a k2.lt)⟩
  · by_cases hqr : q = r
    · subst hqr
      show G.1 (if q = q then H.size else G.2.1 q) = none
      rw [if_pos rfl]
      cases hz : G.1 H.size with
      | none => rfl
      | some z => exact absurd (h1 _ z (Or.inl hz)).2.lt (Nat.lt_irrefl _)
    · have hq' : G.2.2 q = some c' := by simpa [gN, hqr] using hq
      show G.1 (if q = r then H.size else G.2.1 q) = none
      rw [if_neg hqr]
      exact h2 q c' hq'
  · by_cases e1 : q = r
    · by_cases e2 : q' = r
      · rw [e1, e2]
      · have hq2 : G.2.2 q' = some c2 := by simpa [gN, e2] using hq'
        have he' : H.size = G.2.1 q' := by simpa [gN, e1, e2] using he
        exact absurd (h1 _ c2 (Or.inr ⟨q', he'.symm, hq2⟩)).2.lt (Nat.lt_irrefl _)
    · have hq1 : G.2.2 q = some c1 := by simpa [gN, e1] using hq
      by_cases e2 : q' = r
      · have he' : G.2.1 q = H.size := by simpa [gN, e1, e2] using he
        exact absurd (h1 _ c1 (Or.inr ⟨q, he', hq1⟩)).2.lt (Nat.lt_irrefl _)
      · have hq2 : G.2.2 q' = some c2 := by simpa [gN, e2] using hq'
        exact h3 q q' c1 c2 hq1 hq2 (by simpa [gN, e1, e2] using he)
theorem gH.freeze {D dA b0} {G : gG} {H : Heap} {r : Nat} {c : gC} (h : gH D dA b0 G H) (hr : G.2.2 r = some c) : gH D dA b0 (gF G r) H := by
  obtain ⟨h1, h2, h3⟩ := h
  refine ⟨fun a c' hl => h1 a c' ?_, fun q c' hq => ?_, fun q q' c1 c2 hq hq' he => ?_⟩
  · rcases hl with hl | ⟨q, ha, hq⟩
    · by_cases ha : a = G.2.1 r
      · have : G.2.2 r = some c' := by simpa [gF, ha] using hl
        exact Or.inr ⟨r, ha.symm, this⟩
      · exact Or.inl (by simpa [gF, ha] using hl)
    · by_cases hqr : q = r
      · simp [gF, hqr] at hq
      · exact Or.inr ⟨q, ha, by simpa [gF, hqr] using hq⟩
  · by_cases hqr : q = r
    · simp [gF, hqr] at hq
    · have hq' : G.2.2 q = some c' := by simpa [gF, hqr] using hq
      have hne : G.2.1 q ≠ G.2.1 r := fun e => hqr (h3 q r c' c hq' hr e)
      show (if G.2.1 q = G.2.1 r then G.2.2 r else G.1 (G.2.1 q)) = none
      rw [if_neg hne]
      exact h2 q c' hq'
  · by_cases e1 : q = r
    · simp [gF, e1] at hq
    · by_cases e2 : q' = r
      · simp [gF, e2] at hq'
      · exact h3 q q' c1 c2 (by simpa [gF, e1] using hq) (by simpa [gF, e2] using hq') he
/-- an address of a role that holds nothing is of no account -/
theorem gH.readdr {D dA b0} {G : gG} {H : Heap} {ad : Nat → Nat} (h : gH D dA b0 G H) (ha : ∀ r c, G.2.2 r = some c → ad r = G.2.1 r) : gH D dA b0 (G.1, ad, G.2.2) H := by
  obtain ⟨h1, h2, h3⟩ := h
  refine ⟨fun a c hl => h1 a c ?_, fun q c hq => ?_, fun q q' c1 c2 hq hq' he => ?_⟩
  · rcases hl with hl | ⟨q, hqa, hq⟩
    · exact Or.inl hl
    · exact Or.inr ⟨q, by rw [← ha q c hq]; exact hqa, hq⟩
  · show G.1 (ad q) = none
    rw [ha q c hq]
    exact h2 q c hq
  · exact h3 q q' c1 c2 hq hq' (by rw [← ha q c1 hq, ← ha q' c2 hq']; exact he)
theorem gH.keptAll {D dA b0} {G : gG} {H H1 : Heap} (h : gH D dA b0 G H) (ho : ∀ q : Nat, q < H.size → H1[q]? = H[q]?) : gH D dA b0 G H1 :=
  ⟨fun a c hl => ⟨(h.1 a c hl).1, (h.1 a c hl).2.kept (ho a (h.1 a c hl).2.lt)⟩, h.2⟩
theorem gH.one {D dA b0} {G : gG} {H : Heap} (h : gH D dA b0 G H) {a : Nat} {c : gC} (hl : gL G a c) : va_P D vwCl [(a, gE dA c)] H := by
  intro k q hq
  have hz : k < 1 := (List.getElem?_eq_some_iff.mp hq).1
  have hk : k = 0 := by omega
  subst hk
  cases hq
  exact (h.1 a c hl).2
def gIx (i : Int32) (j n : Nat) : Prop := ¬ i < 0 ∧ i.toNatClampNeg = j ∧ j < n
theorem gIx.vin {i : Int32} {j n : Nat} (h : gIx i j n) : vp_in i n := fun q => by
  rcases q with q | q
  · exact h.1 q
  · rw [h.2.1] at q
    exact absurd h.2.2 (Nat.not_lt.mpr q)
section GWH
variable {M : gM} {Q : Option Value → gG → Prop} {X : String → gG → Prop} {G : gG} {k n pc : Nat} {L : List (Option Value)} {st : List Value}
theorem GW.freeze {c : gC} (r : Nat) (hr : G.2.2 r = some c) (g : GW M Q X (gF G r) k n pc L st) : GW M Q X G k n pc L st := g.ghost fun _ _ _ _ h => h.freeze hr
theorem GW.getf {idx ci kf N : Nat} {C : String} {T : u_T} {ty : Nat → FieldType} (hf : gFl M.own idx ci kf C T N ty) {a : Nat} {fs : List Value} {v : Value} (hd : decode M.cc pc = .ok (.getfield idx, 3)) (hl : gL G a (.inl (ci, fs))) (hv : fs[kf]? = some v)
    (g : GW M Q X G k n (pc + 3) L (v :: st)) : GW M Q X G k n pc L (.ref a :: st) := by
  intro p l e R s m args below meth c D dA b0 hX H locs ls hG hS hL
  obtain ⟨⟨hc, hin, -, -⟩, hk, hlink⟩ := hf
  exact va_get hX.1 hX.2.1 hX.2.2.2.2.1 hin hX.2.2.2.1 hX.2.2.2.2.2.1.1 (hG.one hl) 0 rfl hc kf hk (hX.2.2.2.2.1 _ hlink) (fun _ h => h) hv hd (g p l e R s m args below meth c D dA b0 hX H locs ls hG hS hL)
theorem GW.putf {idx ci kf N : Nat} {C : String} {T : u_T} {ty : Nat → FieldType} (hf : gFl M.own idx ci kf C T N ty) {r : Nat} {fs : List Value} {v : Value} (hd : decode M.cc pc = .ok (.putfield idx, 3)) (hr : G.2.2 r = some (.inl (ci, fs))) (hl : kf < fs.length) (hfit : narrow (ty kf) v = v ∧ fits (ty kf) v = true) (hfin : (T kf).2.2.2 = false ∨ (M.nm = "<init>" ∧ (T kf).1 = M.own)) {a : Nat} (ha : G.2.1 r = a)
    (g : GW M Q X (gS G r (.inl (ci, fs.set kf v))) k n (pc + 3) L st) : GW M Q X G k n pc L (v :: .ref a :: st) := by
  subst ha
  intro p l e R s m args below meth c D dA b0 hX H locs ls hG hS hL
  obtain ⟨⟨hc, hin, hty, hnm⟩, hk, hlink⟩ := hf
  obtain ⟨hx, hb, -, hown, hts, ⟨hK, -⟩, -, -, -, -, -, hname, -⟩ := id hX
  have hap := va_apart (own := M.own) hts hin ty hty hnm hK hc
  obtain ⟨hb0, rr, h1, cell, q1, q2, q3, q4⟩ := hG.1 _ _ (Or.inr ⟨r, rfl, hr⟩)
  have hrr : rr = (C, T, N) := Option.some.inj (h1.symm.trans hc)
  subst hrr
  obtain ⟨hS1, hfc, kC, hkC, hkind⟩ := hK.1 ci _ hc
  obtain ⟨cf, kf', fi, f, hi, hsl⟩ := hS1 kf hk
  have hst := (u_facts hfc hkC (u_lays hts hin hk) hi).1
  have hlay := hts _ (hin _ (u_in_lay hk))
  unfold u_lay at hlay
  by_cases hF : (T kf).2.2.2 = true
  · have hF2 : M.nm = "<init>" ∧ (T kf).1 = M.own := by
      rcases hfin with h | h
      · rw [hF] at h; cases h
      · exact h
    rw [if_pos hF] at hlay
    have hcf : m.cls = cf := by
      obtain ⟨_, _, c', _, _, _, -, -, hf', -, -, -, hown2, -⟩ := Cond.laysFinal_spec hlay
      have e1 : c' = cf := by have := hi.symm.trans hf'; simp at this; exact this.1.symm
      rw [hF2.2] at hown2
      rw [← e1]; exact Option.some.inj (hown.symm.trans hown2)
    have h6 := u_fits hfc hkC hkind (Or.inr hlay) hi (hty kf hk) hfit.1 hfit.2
    refine W.putFinK hx hb hown (hts _ hlink) hi hst hcf (hname.trans hF2.1) (by rw [q2]; exact h6) q1 q3 (by rw [hsl]; exact k2_hasslot (q4 kf hk)) rfl rfl hd fun H' e1 e2 e3 => ?_
    rw [hsl] at e1 ⊢
    exact g p l e R s m args below meth c D dA b0 hX H' _ ls (hG.set hr ⟨_, hc, t_OB.to (V := updV (vp_V fs) kf v) ⟨_, e1, q2, q3, t_set q4 hap hk v⟩ (fun j _ => vp_updV_set hl v j)⟩ e3) (hS.put e2 e3 hb0) hL
  · rw [if_neg hF] at hlay
    have h6 := u_store hfc hkC hkind hlay hi (hty kf hk) hfit.1 hfit.2
    refine W.putK hx hb (f := f) ⟨hown, hts _ hlink, ⟨_, _, _, hi⟩, hst⟩ (by rw [q2]; exact h6) q1 q3 (by rw [hsl]; exact k2_hasslot (q4 kf hk)) rfl rfl hd fun H' e1 e2 e3 => ?_
    rw [hsl] at e1 ⊢
    exact g p l e R s m args below meth c D dA b0 hX H' _ ls (hG.set hr ⟨_, hc, t_OB.to (V := updV (vp_V fs) kf v) ⟨_, e1, q2, q3, t_set q4 hap hk v⟩ (fun j _ => vp_updV_set hl v j)⟩ e3) (hS.put e2 e3 hb0) hL
theorem GW.alen {kd N : Nat} {x : (Nat → Int32) ⊕ (Nat → Option Nat)} {a : Nat} {v : Int32} (hd : decode M.cc pc = .ok (.arraylength, 1)) (hl : gL G a (.inr (kd, N, x))) (hkd : kd < 7) (hv : Int32.ofNat N = v) (g : GW M Q X G k n (pc + 1) L (.int v :: st)) : GW M Q X G k n pc L (.ref a :: st) := by
  intro p l e R s m args below meth c D dA b0 hX H locs ls hG hS hL
  obtain ⟨ty, hty⟩ : ∃ ty, (gT dA)[kd]? = some (dA kd, ty) := by
    match kd, hkd with
    | 0, _ => exact ⟨_, rfl⟩
    | 1, _ => exact ⟨_, rfl⟩
    | 2, _ => exact ⟨_, rfl⟩
    | 3, _ => exact ⟨_, rfl⟩
    | 4, _ => exact ⟨_, rfl⟩
    | 5, _ => exact ⟨_, rfl⟩
    | 6, _ => exact ⟨_, rfl⟩
  rcases x with f | f
  · exact va_alen hX.1 hX.2.1 hX.2.2.2.2.2.1.1 (hG.one hl) 0 kd (x := (N, .inl f)) rfl hty hv hd (g p l e R s m args below meth c D dA b0 hX H locs ls hG hS hL)
  · exact va_alen hX.1 hX.2.1 hX.2.2.2.2.2.1.1 (hG.one hl) 0 kd (x := (N, .inr (.inr (.inr (.inr f))))) rfl hty hv hd (g p l e R s m args below meth c D dA b0 hX H locs ls hG hS hL)
theorem GW.iald {N j : Nat} {f : Nat → Int32} {a : Nat} {i : Int32} (hd : decode M.cc pc = .ok (.iaload, 1)) (hl : gL G a (.inr (0, N, .inl f))) (hi : gIx i j N) (g : GW M Q X G k n (pc + 1) L (.int (f j) :: st)) : GW M Q X G k n pc L (.int i :: .ref a :: st) := by
  intro p l e R s m args below meth c D dA b0 hX H locs ls hG hS hL
  have hj := hi.2.1
  subst hj
  exact va_iald hX.1 hX.2.1 hX.2.2.2.2.2.1.1 (hG.one hl) 0 0 (cA := dA 0) (n := N) (f := f) rfl rfl hi.vin hd (g p l e R s m args below meth c D dA b0 hX H locs ls hG hS hL)
theorem GW.aald {kd N j : Nat} {f : Nat → Option Nat} {a : Nat} {i : Int32} (hd : decode M.cc pc = .ok (.aaload, 1)) (hl : gL G a (.inr (kd, N, .inr f))) (hi : gIx i j N) (hkd : 0 < kd ∧ kd < 6) (g : GW M Q X G k n (pc + 1) L (va_rf (f j) :: st)) : GW M Q X G k n pc L (.int i :: .ref a :: st) := by
  intro p l e R s m args below meth c D dA b0 hX H locs ls hG hS hL
  have hj := hi.2.1
  subst hj
  obtain ⟨C, hC⟩ : ∃ C, (gT dA)[kd]? = some (dA kd, .object C) := by
    match kd, hkd with
    | 1, _ => exact ⟨_, rfl⟩
    | 2, _ => exact ⟨_, rfl⟩
    | 3, _ => exact ⟨_, rfl⟩
    | 4, _ => exact ⟨_, rfl⟩
    | 5, _ => exact ⟨_, rfl⟩
  exact va_aldq hX.1 hX.2.1 hX.2.2.2.2.2.1.1 (hG.one hl) 0 kd (cA := dA kd) (n := N) (f := f) rfl hC hi.vin hd (g p l e R s m args below meth c D dA b0 hX H locs ls hG hS hL)
theorem GW.iast {r N j : Nat} {f : Nat → Int32} {a : Nat} {i x : Int32} (hd : decode M.cc pc = .ok (.iastore, 1)) (hr : G.2.2 r = some (.inr (0, N, .inl f))) (hi : gIx i j N) (ha : G.2.1 r = a) (g : GW M Q X (gS G r (.inr (0, N, .inl (upd f j x)))) k n (pc + 1) L st) : GW M Q X G k n pc L (.int x :: .int i :: .ref a :: st) := by
  subst ha
  intro p l e R s m args below meth c D dA b0 hX H locs ls hG hS hL
  have hj := hi.2.1
  subst hj
  obtain ⟨hx, hb, -, hown, hts, ⟨hK, -⟩, -⟩ := id hX
  obtain ⟨hb0, hcell⟩ := hG.1 _ _ (Or.inr ⟨r, rfl, hr⟩)
  have hin := hi.vin
  refine W.iast hx hb hcell ((hK.2 0 (dA 0, .int) rfl).1 N (fun j => .int (f j))) (fun q => by cases q) (by show ¬ (i < 0 ∨ (arrV _ _ _).slots.size ≤ _); rw [arrV_size]; exact hin) rfl rfl hd fun H1 e1 z oq => ?_
  refine g p l e R s m args below meth c D dA b0 hX H1 _ ls (hG.set hr ?_ oq) (hS.put z oq hb0) hL
  show H1[_]? = some (vp_cell _ _)
  rw [e1]
  show some ((vp_cell (dA 0) (N, .inl f)).setSlot _ _) = _
  rw [vp_cell_i, vp_cell_i, arrV_store]
  congr 2
  funext q
  by_cases hq : q = i.toNatClampNeg
  · subst hq
    simp [updV, upd]
  · simp [updV, upd, hq]
theorem GW.aastN {r kd N j : Nat} {f : Nat → Option Nat} {a : Nat} {i : Int32} (hd : decode M.cc pc = .ok (.aastore, 1)) (hr : G.2.2 r = some (.inr (kd, N, .inr f))) (hi : gIx i j N) (hkd : 0 < kd ∧ kd < 6) (ha : G.2.1 r = a) (g : GW M Q X (gS G r (.inr (kd, N, .inr (va_up f j none)))) k n (pc + 1) L st) : GW M Q X G k n pc L (.null :: .int i :: .ref a :: st) := by
  subst ha
  intro p l e R s m args below meth c D dA b0 hX H locs ls hG hS hL
  have hj := hi.2.1
  subst hj
  obtain ⟨hx, hb, -, hown, hts, ⟨hK, -⟩, -⟩ := id hX
  obtain ⟨hb0, hcell⟩ := hG.1 _ _ (Or.inr ⟨r, rfl, hr⟩)
  have hin := hi.vin
  obtain ⟨C, hC⟩ : ∃ C, (gT dA)[kd]? = some (dA kd, .object C) := by
    match kd, hkd with
    | 1, _ => exact ⟨_, rfl⟩
    | 2, _ => exact ⟨_, rfl⟩
    | 3, _ => exact ⟨_, rfl⟩
    | 4, _ => exact ⟨_, rfl⟩
    | 5, _ => exact ⟨_, rfl⟩
  refine va_WaastN (C := C) hx hb hcell ((hK.2 kd _ hC).1 N (fun j => va_rf (f j))) (fun h => by cases h) (by show ¬ (i < 0 ∨ (arrV _ _ _).slots.size ≤ _); rw [arrV_size]; exact hin) rfl rfl hd fun H1 e1 z oq => ?_
  refine g p l e R s m args below meth c D dA b0 hX H1 _ ls (hG.set hr ?_ oq) (hS.put z oq hb0) hL
  show H1[_]? = some (vp_cell _ _)
  rw [e1]
  show some ((vp_cell (dA kd) (N, .inr (.inr (.inr (.inr f))))).setSlot _ _) = _
  rw [vp_cell_q, vp_cell_q, arrV_store]
  congr 2
  funext q
  by_cases hq : q = i.toNatClampNeg
  · subst hq
    simp [updV, va_up, va_rf]
  · simp [updV, va_up, hq]
theorem GW.aastR {r kd N j v : Nat} {vs : List Value} {f : Nat → Option Nat} {a : Nat} {i : Int32} (hd : decode M.cc pc = .ok (.aastore, 1)) (hr : G.2.2 r = some (.inr (kd, N, .inr f))) (hi : gIx i j N) (hkd : 0 < kd ∧ kd < 6) (ha : G.2.1 r = a) (hv : gL G v (.inl (gKo kd, vs))) (g : GW M Q X (gS G r (.inr (kd, N, .inr (va_up f j (some v))))) k n (pc + 1) L st) : GW M Q X G k n pc L (.ref v :: .int i :: .ref a :: st) := by
  subst ha
  intro p l e R s m args below meth c D dA b0 hX H locs ls hG hS hL
  have hj := hi.2.1
  subst hj
  obtain ⟨hx, hb, -, hown, hts, ⟨hK, -⟩, -⟩ := id hX
  obtain ⟨hb0, hcell⟩ := hG.1 _ _ (Or.inr ⟨r, rfl, hr⟩)
  have hin := hi.vin
  obtain ⟨rr, hC, hcl⟩ : ∃ rr, (gT dA)[kd]? = some (dA kd, .object rr.1) ∧ vwCl[gKo kd]? = some rr := by
    match kd, hkd with
    | 1, _ => exact ⟨(RX8, TX8, 6), rfl, rfl⟩
    | 2, _ => exact ⟨(RX3, TX3, 4), rfl, rfl⟩
    | 3, _ => exact ⟨(RX4, TX4, 2), rfl, rfl⟩
    | 4, _ => exact ⟨(RX6, TX6, 3), rfl, rfl⟩
    | 5, _ => exact ⟨(RX7, TX7, 11), rfl, rfl⟩
  have hlt : i.toNatClampNeg < N := hi.2.2
  obtain ⟨-, r', hr', cellV, g1, g2, g3, -⟩ := hG.1 v _ hv
  have hcls := (hK.1 _ rr hcl).2
  obtain ⟨kA, comp, k1, k2, k3, -⟩ := (hK.2 kd _ hC).2
  have hcomp : comp = D.1 (gKo kd) := Option.some.inj (k3.symm.trans hcls.1)
  subst hcomp
  obtain ⟨kC, hkC, -⟩ := hcls.2
  refine W.aast hx hb hcell (fun q h => by cases h) (fun h => by cases h) k1 k2 rfl hkC ⟨hi.1, by show _ < (arrV _ _ _).slots.size; rw [arrV_size]; exact hlt⟩ g1 (fun q h => by rw [g3] at h; cases h) (by rw [g2]; exact hkC) (by rw [g2]; exact va_assign hcls) rfl rfl hd fun H1 e1 z oq => ?_
  refine g p l e R s m args below meth c D dA b0 hX H1 _ ls (hG.set hr ?_ oq) (hS.put z oq hb0) hL
  show H1[_]? = some (vp_cell _ _)
  rw [e1]
  show some ((vp_cell (dA kd) (N, .inr (.inr (.inr (.inr f))))).setSlot _ _) = _
  rw [vp_cell_q, vp_cell_q, arrV_store]
  congr 2
  funext q
  by_cases hq : q = i.toNatClampNeg
  · subst hq
    simp [updV, va_up, va_rf]
  · simp [updV, va_up, hq]
/-- a reference, there or not -/
theorem GW.aast {r kd N j : Nat} {v : Option Nat} {f : Nat → Option Nat} {a : Nat} {i : Int32} (hd : decode M.cc pc = .ok (.aastore, 1)) (hr : G.2.2 r = some (.inr (kd, N, .inr f))) (hi : gIx i j N) (hkd : 0 < kd ∧ kd < 6) (ha : G.2.1 r = a) (hv : ∀ w, v = some w → ∃ vs, gL G w (.inl (gKo kd, vs))) (g : GW M Q X (gS G r (.inr (kd, N, .inr (va_up f j v)))) k n (pc + 1) L st) : GW M Q X G k n pc L (va_rf v :: .int i :: .ref a :: st) := by
  cases v with
  | none => exact GW.aastN hd hr hi hkd ha g
  | some w =>
    obtain ⟨vs, hw⟩ := hv w rfl
    exact GW.aastR hd hr hi hkd ha hw g
theorem GW.newo {idx ci N : Nat} {C : String} {T : u_T} {ty : Nat → FieldType} (hf : gNw M.own idx ci C T N ty) (r : Nat) (fs : List Value) (hd : decode M.cc pc = .ok (.new idx, 3)) (hr : G.2.2 r = none) (hfs : ∀ j, j < N → defaultValue (ty j) = vp_V fs j) (hk : k + 1 ≤ M.kc) (hn : n + N ≤ M.ks) (g : ∀ a, GW M Q X (gN G r a (.inl (ci, fs))) (k + 1) (n + N) (pc + 3) L (.ref a :: st)) : GW M Q X G k n pc L st := by
  intro p l e R s m args below meth c D dA b0 hX H locs ls hG hS hL
  obtain ⟨⟨hc, hin, hty, hnm⟩, hcl, hinst, hini⟩ := hf
  obtain ⟨hx, hb, -, hown, hts, ⟨hK, -⟩, -, -, -, hR, -, -, hb0⟩ := id hX
  have hKn := hK.1 ci _ hc
  refine W.newcK hx hb hown (hts _ hcl) (hts _ hinst) (hts _ hini) rfl hd (by rw [hR]; exact hk) (by rw [hR]; exact hn) hKn.2.1 rfl fun H1 kC hkC e1 z1 o1 => ?_
  refine g H.size p l e R s m args below meth c D dA b0 hX H1 locs ls (hG.new hr (Nat.le_trans hb0 hS.1) ⟨_, hc, (u_born ty hts hin hKn hkC e1 hty).to hfs⟩ o1) ⟨Nat.le_trans hS.1 (by omega), fun x h1 h2 => (o1 x (Nat.lt_of_lt_of_le h1 hS.1)).trans (hS.2.1 x h1 h2), hS.2.2⟩ hL
theorem GW.newi {N : Nat} {i : Int32} (r : Nat) (hd : decode M.cc pc = .ok (.newarray .int, 2)) (hr : G.2.2 r = none) (h0 : ¬ i < 0) (hN : i.toNatClampNeg = N) (hN2 : N ≤ 65536) (hw : Cond.arrayClass .int ∈ gW) (hk : k + 1 ≤ M.kc) (hn : n + N ≤ M.ks) (g : ∀ a, GW M Q X (gN G r a (.inr (0, N, .inl (fun _ => 0)))) (k + 1) (n + N) (pc + 2) L (.ref a :: st)) : GW M Q X G k n pc L (.int i :: st) := by
  intro p l e R s m args below meth c D dA b0 hX H locs ls hG hS hL
  obtain ⟨hx, hb, -, hown, hts, ⟨hK, -⟩, -, -, -, hR, -, -, hb0⟩ := id hX
  refine va_newaK (atype := .int) hx hb (hts _ hw) rfl hd rfl h0 hN (by show N * 4 ≤ _; omega) (by rw [hR]; exact hk) (by rw [hR]; exact hn) rfl fun H1 cA e1 z1 o1 hAr hNm => ?_
  have hcA : dA 0 = cA := Option.some.inj ((hK.2 0 (dA 0, .int) rfl).2.symm.trans hNm)
  subst hcA
  exact g H.size p l e R s m args below meth c D dA b0 hX H1 locs ls (hG.new hr (Nat.le_trans hb0 hS.1) e1 o1) ⟨Nat.le_trans hS.1 (by omega), fun x h1 h2 => (o1 x (Nat.lt_of_lt_of_le h1 hS.1)).trans (hS.2.1 x h1 h2), hS.2.2⟩ hL
theorem GW.newz {N : Nat} {i : Int32} (r : Nat) (hd : decode M.cc pc = .ok (.newarray .boolean, 2)) (hr : G.2.2 r = none) (h0 : ¬ i < 0) (hN : i.toNatClampNeg = N) (hN2 : N ≤ 65536) (hw : Cond.arrayClass .boolean ∈ gW) (hk : k + 1 ≤ M.kc) (hn : n + N ≤ M.ks) (g : ∀ a, GW M Q X (gN G r a (.inr (6, N, .inl (fun _ => 0)))) (k + 1) (n + N) (pc + 2) L (.ref a :: st)) : GW M Q X G k n pc L (.int i :: st) := by
  intro p l e R s m args below meth c D dA b0 hX H locs ls hG hS hL
  obtain ⟨hx, hb, -, hown, hts, ⟨hK, -⟩, -, -, -, hR, -, -, hb0⟩ := id hX
  refine va_newaK (atype := .boolean) hx hb (hts _ hw) rfl hd rfl h0 hN (by show N * 1 ≤ _; omega) (by rw [hR]; exact hk) (by rw [hR]; exact hn) rfl fun H1 cA e1 z1 o1 hAr hNm => ?_
  have hcA : dA 6 = cA := Option.some.inj ((hK.2 6 (dA 6, .boolean) rfl).2.symm.trans hNm)
  subst hcA
  exact g H.size p l e R s m args below meth c D dA b0 hX H1 locs ls (hG.new hr (Nat.le_trans hb0 hS.1) e1 o1) ⟨Nat.le_trans hS.1 (by omega), fun x h1 h2 => (o1 x (Nat.lt_of_lt_of_le h1 hS.1)).trans (hS.2.1 x h1 h2), hS.2.2⟩ hL
theorem GW.newq {idx ci kd N NN : Nat} {C : String} {T : u_T} {ty : Nat → FieldType} {i : Int32} (hf : gNw M.own idx ci C T NN ty) (r : Nat) (hd : decode M.cc pc = .ok (.anewarray idx, 3)) (hr : G.2.2 r = none) (h0 : ¬ i < 0) (hN : i.toNatClampNeg = N) (hN2 : N ≤ 65536) (hT : ∀ dA, (gT dA)[kd]? = some (dA kd, .object C)) (hAO : C ∈ gAO) (hk : k + 1 ≤ M.kc) (hn : n + N ≤ M.ks) (g : ∀ a, GW M Q X (gN G r a (.inr (kd, N, .inr (fun _ => none)))) (k + 1) (n + N) (pc + 3) L (.ref a :: st)) : GW M Q X G k n pc L (.int i :: st) := by
  intro p l e R s m args below meth c D dA b0 hX H locs ls hG hS hL
  obtain ⟨-, hcl, -, -⟩ := hf
  obtain ⟨hx, hb, -, hown, hts, ⟨hK, -, -, -, hao, -⟩, -, -, -, hR, -, -, hb0⟩ := id hX
  subst hN
  refine W.anew hx hb hown (hts _ hcl) (va_AO.use (hao C hAO)) rfl hd rfl h0 (by omega) (by rw [hR]; exact hk) (by rw [hR]; exact hn) fun cA kA comp f1 f2 f3 f4 => ?_
  generalize hH1 : H.push ({ cls := cA, slots := Array.replicate i.toNatClampNeg .null, vm := .none } : Cell) = H1
  have z1 : H1.size = H.size + 1 := by rw [← hH1, Array.size_push]
  have e1 : H1[H.size]? = some (arrV cA i.toNatClampNeg (fun _ => .null)) := by rw [← hH1, Array.getElem?_push_size, ← arrV_new]
  have o1 : ∀ q : Nat, q < H.size → H1[q]? = H[q]? := fun q hq => by rw [← hH1, Array.getElem?_push, if_neg (Nat.ne_of_lt hq)]
  obtain ⟨kA', comp', w1, w2, w3, w4⟩ := (hK.2 kd _ (hT dA)).2
  have hcA : dA kd = cA := Option.some.inj (w4.symm.trans f1)
  subst hcA
  exact g H.size p l e R s m args below meth c D dA b0 hX H1 locs ls (hG.new hr (Nat.le_trans hb0 hS.1) e1 o1) ⟨Nat.le_trans hS.1 (by omega), fun x h1 h2 => (o1 x (Nat.lt_of_lt_of_le h1 hS.1)).trans (hS.2.1 x h1 h2), hS.2.2⟩ hL
theorem GW.mmax {idx : Nat} {x y : Int32} (hs : gCs M.own idx Lib.Math.max.name) (hd : decode M.cc pc = .ok (.invokestatic idx, 3)) (hw : Cond.code Lib.Math.max.name Lib.Math.max.code 2 (some .int) ∈ gW) (hw2 : Cond.initialized "java/lang/Math" ∈ gW) (hdp : 1 ≤ M.dp) (hk : k ≤ M.kc) (hn : n ≤ M.ks) (hc : (st.map fun v => v.category).sum ≤ 8) (g : GW M Q X G k n (pc + 3) L (.int (if x < y then y else x) :: st)) : GW M Q X G k n pc L (.int y :: .int x :: st) := by
  intro p l e R s m args below meth c D dA b0 hX H locs ls hG hS hL
  obtain ⟨hx, hb, hml, hown, hts, ⟨hK, -⟩, -, -, -, hR, -, -, hb0⟩ := id hX
  exact va_mmax hx hb (hml.trans hL.1.symm) hown (hts _ hs.1) (hts _ hs.2) (hts _ hw2) (hts _ hw) (by rw [hR]; exact hdp) (by rw [hR]; show _ ≤ 100 * _; omega) (by rw [hR]; exact hk) (by rw [hR]; exact hn) hd (g p l e R s m args below meth c D dA b0 hX H locs ls hG hS hL)
theorem GW.mmin {idx : Nat} {x y : Int32} (hs : gCs M.own idx Lib.Math.min.name) (hd : decode M.cc pc = .ok (.invokestatic idx, 3)) (hw : Cond.code Lib.Math.min.name Lib.Math.min.code 2 (some .int) ∈ gW) (hw2 : Cond.initialized "java/lang/Math" ∈ gW) (hdp : 1 ≤ M.dp) (hk : k ≤ M.kc) (hn : n ≤ M.ks) (hc : (st.map fun v => v.category).sum ≤ 8) (g : GW M Q X G k n (pc + 3) L (.int (if y < x then y else x) :: st)) : GW M Q X G k n pc L (.int y :: .int x :: st) := by
  intro p l e R s m args below meth c D dA b0 hX H locs ls hG hS hL
  obtain ⟨hx, hb, hml, hown, hts, ⟨hK, -⟩, -, -, -, hR, -, -, hb0⟩ := id hX
  exact va_mmin hx hb (hml.trans hL.1.symm) hown (hts _ hs.1) (hts _ hs.2) (hts _ hw2) (hts _ hw) (by rw [hR]; exact hdp) (by rw [hR]; show _ ≤ 100 * _; omega) (by rw [hR]; exact hk) (by rw [hR]; exact hn) hd (g p l e R s m args below meth c D dA b0 hX H locs ls hG hS hL)
theorem GW.objInit {idx a : Nat} (hl : Cond.methodLink M.own idx Lib.objectInit ∈ gW) (hi : Cond.instanceMethod Lib.objectInit ∈ gW) (hw : Cond.code Lib.objectInit ⟨#[0xb1]⟩ 1 none ∈ gW) (hd : decode M.cc pc = .ok (.invokespecial idx, 3)) (hdp : 1 ≤ M.dp) (hc : (st.map fun v => v.category).sum ≤ 8) (g : GW M Q X G k n (pc + 3) L st) : GW M Q X G k n pc L (.ref a :: st) := by
  intro p l e R s m args below meth c D dA b0 hX H locs ls hG hS hL
  obtain ⟨hx, hb, hml, hown, hts, ⟨hK, -⟩, -, -, -, hR, -, -, hb0⟩ := id hX
  exact W.objInit hx hb hown (hts _ hl) (hts _ hi) (hts _ hw) (g := F0 m pc ls (.ref a :: st)) rfl (by show ls.size = _; rw [hml]; exact hL.1) rfl hd (by rw [hR]; exact hdp) (by rw [hR]; show 2 * 0 + _ + 12 ≤ 100 * _; omega) (g p l e R s m args below meth c D dA b0 hX H locs ls hG hS hL)
theorem GW.ireturn {v : Int32} (hd : decode M.cc pc = .ok (.ireturn, 1)) (hr : M.ret = some .int ∨ (M.ret = some .boolean ∧ (v = 0 ∨ v = 1))) (hk : k ≤ M.kc) (hn : n ≤ M.ks) (hQ : Q (some (.int v)) G) : GW M Q X G k n pc L [.int v] := by
  intro p l e R s m args below meth c D dA b0 hX H locs ls hG hS hL
  obtain ⟨hx, hb, hml, hown, hts, ⟨hK, -⟩, hret, hlk, -⟩ := id hX
  refine W.widen hk hn (vx_ret ?_)
  rcases hr with hr | ⟨hr, hv⟩
  · exact W.iret hx hb (hret.trans hr) (fun t ht hW => ⟨⟨_, G, rfl, hQ, by rw [ht]; exact hG⟩, hS.F ht⟩) hS.2.2 hd hlk
  · exact W.zret hx hb (hret.trans hr) (by rcases hv with rfl | rfl <;> rfl) (fun t ht hW => ⟨⟨_, G, rfl, hQ, by rw [ht]; exact hG⟩, hS.F ht⟩) hS.2.2 hd hlk
theorem GW.lreturn {v : Int64} (hd : decode M.cc pc = .ok (.lreturn, 1)) (hr : M.ret = some .long) (hk : k ≤ M.kc) (hn : n ≤ M.ks) (hQ : Q (some (.long v)) G) : GW M Q X G k n pc L [.long v] := by
  intro p l e R s m args below meth c D dA b0 hX H locs ls hG hS hL
  obtain ⟨hx, hb, hml, hown, hts, ⟨hK, -⟩, hret, hlk, -⟩ := id hX
  exact W.widen hk hn (vx_ret (W.lret hx hb (hret.trans hr) (fun t ht hW => ⟨⟨_, G, rfl, hQ, by rw [ht]; exact hG⟩, hS.F ht⟩) hS.2.2 hd hlk))
theorem GW.areturn {v : Value} (hd : decode M.cc pc = .ok (.areturn, 1)) (hr : (∃ C, M.ret = some (.object C)) ∨ ∃ t, M.ret = some (.array t)) (hk : k ≤ M.kc) (hn : n ≤ M.ks) (hQ : Q (some v) G) (hv : v = .null ∨ ∃ a, v = .ref a := by first | exact Or.inr ⟨_, rfl⟩ | exact Or.inl rfl | exact va_rf_or _) : GW M Q X G k n pc L [v] := by
  intro p l e R s m args below meth c D dA b0 hX H locs ls hG hS hL
  obtain ⟨hx, hb, hml, hown, hts, ⟨hK, -⟩, hret, hlk, -⟩ := id hX
  refine W.widen hk hn (vx_ret ?_)
  rcases hr with ⟨C, hr⟩ | ⟨t, hr⟩
  · exact W.aret hx hb (hret.trans hr) (Or.inl ⟨C, rfl⟩) hv (fun t ht hW => ⟨⟨_, G, rfl, hQ, by rw [ht]; exact hG⟩, hS.F ht⟩) hS.2.2 hd hlk
  · exact W.aret hx hb (hret.trans hr) (Or.inr ⟨t, rfl⟩) hv (fun t ht hW => ⟨⟨_, G, rfl, hQ, by rw [ht]; exact hG⟩, hS.F ht⟩) hS.2.2 hd hlk
theorem GW.vreturn (hd : decode M.cc pc = .ok (.return_, 1)) (hr : M.ret = none) (hk : k ≤ M.kc) (hn : n ≤ M.ks) (hQ : Q none G) : GW M Q X G k n pc L [] := by
  intro p l e R s m args below meth c D dA b0 hX H locs ls hG hS hL
  obtain ⟨hx, hb, hml, hown, hts, ⟨hK, -⟩, hret, hlk, -⟩ := id hX
  exact W.widen hk hn (vx_ret (W.vret hx hb (hret.trans hr) (fun t ht hW => ⟨⟨_, G, rfl, hQ, by rw [ht]; exact hG⟩, hS.F ht⟩) hS.2.2 hd hlk))
end GWH
end
section
/-! THE GHOST LAYER, third part: contracts out of bodies, calls by contract, throws -/
def gArg : List Value → List (Option Value)
  | [] => []
  | v :: vs => some v :: (if v.category = 2 then none :: gArg vs else gArg vs)
def gEnt (as : List Value) : List (Option Value) := (gArg as ++ List.replicate 12 none).take 12
theorem gArg_mem : ∀ (as : List Value) (o i : Nat) (v : Value), (gArg as)[i]? = some (some v) → (o + i, v) ∈ lv_args o as := by
  intro as
  induction as with
  | nil => intro o i v h; simp [gArg] at h
  | cons a as ih =>
    intro o i v h
    by_cases hc : a.category = 2
    · simp only [gArg, hc, if_true] at h
      simp only [lv_args, hc, if_true]
      cases i with
      | zero => simp at h; subst h; exact List.mem_cons_self
      | succ i =>
        cases i with
        | zero => simp at h
        | succ i =>
          simp at h
          have := ih (o + 2) i v h
          rw [show o + (i + 1 + 1) = o + 2 + i by omega]
          exact List.mem_cons_of_mem _ this
    · simp only [gArg, hc, if_false] at h
      simp only [lv_args, hc, if_false]
      cases i with
      | zero => simp at h; subst h; exact List.mem_cons_self
      | succ i =>
        simp at h
        have := ih (o + 1) i v h
        rw [show o + (i + 1) = o + 1 + i by omega]
        exact List.mem_cons_of_mem _ this
theorem gEnt_mem {as : List Value} {i : Nat} {v : Value} (h : (gEnt as)[i]? = some (some v)) : (i, v) ∈ lv_args 0 as := by
  unfold gEnt at h
  rw [List.getElem?_take] at h
  split at h
  · by_cases hl : i < (gArg as).length
    · rw [List.getElem?_append_left hl] at h
      have := gArg_mem as 0 i v h
      simpa using this
    · rw [List.getElem?_append_right (by omega), List.getElem?_replicate] at h
      split at h <;> cases h
  · cases h
theorem gA.blind {D dA b0} {U : State} (g : JFrame) (mk : MethodId) (a : Array Value) (h : gA D dA b0 U U.heap) : gA D dA b0 (U.calling g mk a) (U.calling g mk a).heap :=
  gA.warm (s := U) (U := U.calling g mk a) (State.WarmedH.refl U) h
theorem Ctr.blind {D dA b0} {as : List Value} {G : gG} : FrameBlind (va_Pc as (fun U => gA D dA b0 U U.heap ∧ gH D dA b0 G U.heap ∧ b0 ≤ U.heap.size)) :=
  fun a U g mk h => ⟨h.1, gA.blind g mk a h.2.1, h.2.2.1, h.2.2.2⟩
/-- a contract out of the walk of the body -/
theorem Ctr.of {y : MethodName} {cc : ByteArray} {mL : Nat} {ret : Option FieldType} {d kc ks : Nat} {as : List Value} {G : gG} {Q : Option Value → gG → Prop} {X : String → gG → Prop} {own nm : String} {L : List (Option Value)}
    (hy : plainName y.cls = true) (hown : y.cls = own) (hnm : y.name = nm) (hL : gEnt as = L) (hlen : (lg_sl as).length ≤ mL) (g : GW (own, cc, mL, ret, [], nm, d, kc, ks) Q X G 0 0 0 L []) : Ctr y cc mL ret d kc ks as G Q X := by
  subst hown hnm hL
  intro l D dA b0 hfl
  refine vx_ofW (cc := cc) (maxL := mL) (ret := ret) hy rfl ?_
  intro p e s m args below meth c s₁ B hml hno hv
  obtain ⟨rfl, hA, hG, hb0⟩ := hv
  have hts := atoms_spec (ws := gWs y cc mL ret) B.pre
  have hl := lv_entry as (n := mL) hlen
  rw [lg_entry_eq]
  generalize (lg_sl as ++ List.replicate (mL - (lg_sl as).length) Slot.unset).toArray = ls at hl ⊢
  have hh : gHas ls mL (gEnt as) := ⟨hl.1, hl.2.1, fun i v h => hl.2.2 (i, v) (gEnt_mem h)⟩
  refine g p l e _ s m _ below meth c D dA b0 ⟨B.exec, B.bytes, hml, findClass_of_methodNamed B.named, fun w hw => hts w (List.mem_cons_of_mem _ hw), hA, B.returns, B.notSynchronized, hfl, rfl, ?_, (name_of_methodNamed B.named B.method).1, hb0⟩ s.heap [] ls hG va_S.rf hh
  cases hx : c.exceptionTable.toList with
  | nil => rfl
  | cons x xs => exact (hno x (by rw [hx]; exact List.mem_cons_self)).elim
/-- .. of a body with a table -/
theorem Ctr.post {y : MethodName} {cc : ByteArray} {mL : Nat} {ret : Option FieldType} {d kc ks : Nat} {as : List Value} {G : gG} {Q Q' : Option Value → gG → Prop} {X X' : String → gG → Prop} (h : Ctr y cc mL ret d kc ks as G Q X) (hQ : ∀ v G', Q v G' → Q' v G') (hX : ∀ E G', X E G' → X' E G') : Ctr y cc mL ret d kc ks as G Q' X' := by
  intro l D dA b0 hfl p e ha hc hk s m args below hf happ hP hK
  obtain ⟨t, o, h1, h2, h3, h4⟩ := h l D dA b0 hfl p e ha hc hk s m args below hf happ hP hK
  refine ⟨t, o, h1, h2, h3, ?_⟩
  rcases h4 with ⟨⟨⟨v, G', e1, q1, q2⟩, f⟩, r⟩ | ⟨q, e1, E, ce, L1, ⟨⟨G', q1, q2⟩, f⟩, r⟩
  · exact Or.inl ⟨⟨⟨v, G', e1, hQ _ _ q1, q2⟩, f⟩, r⟩
  · exact Or.inr ⟨q, e1, E, ce, L1, ⟨⟨G', hX _ _ q1, q2⟩, f⟩, r⟩
section GWC
variable {M : gM} {Q : Option Value → gG → Prop} {X : String → gG → Prop} {G : gG} {k n pc : Nat} {L : List (Option Value)} {st : List Value}
variable {y : MethodName} {cc : ByteArray} {mL N : Nat} {ret : Option FieldType} {d kc ks : Nat} {As rest : List Value} {Qc : Option Value → gG → Prop} {Xc : String → gG → Prop} {idx : Nat}
/-- behind a call: it came back, or it threw -/
theorem gRun {p : Program} {l : Launch} {e : Env} {R : Room} {s : State} {m : MethodId} {args : Array Value} {below : List Frame} {meth : Method} {c : Code} {D : va_G} {dA : Nat → ClassId} {b0 : Nat} {H : Heap} {locs : List Loc} {ls : Array Slot} {ax : Array Value} {QQ : State → Prop} {st0 : List Value}
    (hr : vx_Run p l e R s m args below meth c H locs k n kc ks (F0 m pc ls st0) rest (gQ D dA b0 Qc ax) (gXC D dA b0 Xc) (gB b0)) (hS : va_S (gB b0) s.heap H locs)
    (kk : ∀ v G' (H1 : Heap) (locs1 : List Loc), Qc v G' → gH D dA b0 G' H1 → va_S (gB b0) s.heap H1 locs1 → W p l e R s m args below meth c H1 locs1 (k + kc) (n + ks) QQ (F0 m (pc + 3) ls (v.toList ++ rest)))
    (kx : ∀ E G' (H1 : Heap) (locs1 : List Loc) (q : Nat) (ce : Cell), Xc E G' → gH D dA b0 G' H1 → va_S (gB b0) s.heap H1 locs1 → H1[q]? = some ce → ce.vm = .none → s.vm.findClass E = some ce.cls → vx_W p l e R s m args below meth c H1 locs1 (k + kc) (n + ks) QQ (F0 m pc ls rest) q) :
    W p l e R s m args below meth c H locs k n QQ (F0 m pc ls st0) := by
  intro T hT XX
  rcases hr T hT XX with ⟨v, st₀, t, T', L, h0, X', hL, e1, e2, ⟨⟨v', G', hv, hq, hG'⟩, hF⟩, st⟩ | ⟨q, st₀, t, T', L, E, ce, h0, X', hL, e1, e2, ⟨⟨G', hq, hG'⟩, hF⟩, hce, hcv, hcl, st⟩
  · cases hv
    obtain ⟨-, -, k3⟩ := vx_keep h0 e1 hS (fun q _ h => h) (fun q h => h) hL hF
    obtain ⟨t2, a1, b1⟩ := kk v G' T'.heap (locs ++ L) hq (by rw [e1]; exact hG') k3 T' rfl X'
    exact ⟨t2, st t2 a1, b1⟩
  · obtain ⟨-, -, k3⟩ := vx_keep h0 e1 hS (fun q _ h => h) (fun q h => h) hL hF
    obtain ⟨t2, a1, b1⟩ := kx E G' T'.heap (locs ++ L) q ce hq (by rw [e1]; exact hG') k3 (by rw [e1]; exact hce) hcv hcl T' rfl X'
    exact ⟨t2, st.trans a1, b1⟩
theorem gOut {p : Program} {l : Launch} {e : Env} {R : Room} {s : State} {m : MethodId} {args : Array Value} {below : List Frame} {meth : Method} {c : Code} {D : va_G} {dA : Nat → ClassId} {b0 : Nat} {H : Heap} {locs : List Loc} {ls : Array Slot} {E : String} {G' : gG} {q : Nat} {ce : Cell}
    (hX : gX M D dA b0 p l R s m args meth c) (htab : M.tab = []) (hk : k ≤ M.kc) (hn : n ≤ M.ks) (hx : X E G') (hG : gH D dA b0 G' H) (hS : va_S (gB b0) s.heap H locs) (hc : H[q]? = some ce) (hv : ce.vm = .none) (hcl : s.vm.findClass E = some ce.cls) :
    vx_W p l e R s m args below meth c H locs k n (vx_MQ below (gQ D dA b0 Q) (gXC D dA b0 X) args s M.kc M.ks (gB b0)) (F0 m pc ls rest) q := by
  obtain ⟨hx1, hb, hml, hown, hts, ⟨hK, -⟩, hret, hlk, hfl, hR, htb, hnm, hb0⟩ := id hX
  exact vx_out (fun x h => by rw [htb, htab] at h; cases h) hlk hc hv hcl (fun t ht _ => ⟨⟨G', hx, by rw [ht]; exact hG⟩, hS.F ht⟩) hS.2.2 hk hn
theorem gPre {p : Program} {l : Launch} {R : Room} {s : State} {m : MethodId} {args : Array Value} {meth : Method} {c : Code} {D : va_G} {dA : Nat → ClassId} {b0 : Nat} {H : Heap} {locs : List Loc}
    (hX : gX M D dA b0 p l R s m args meth c) (hG : gH D dA b0 G H) (hS : va_S (gB b0) s.heap H locs) (U : State) (hU : U.heap = H) (hW : s.WarmedH U.vm) : va_Pc As (fun U => gA D dA b0 U U.heap ∧ gH D dA b0 G U.heap ∧ b0 ≤ U.heap.size) As.toArray U := by
  obtain ⟨hx1, hb, hml, hown, hts, hA, hret, hlk, hfl, hR, htb, hnm, hb0⟩ := id hX
  refine ⟨rfl, ?_, by rw [hU]; exact hG, by rw [hU]; exact Nat.le_trans hb0 hS.1⟩
  rw [hU]
  exact (hA.kept hS.2.1).warm hW
theorem GW.callV {b ci : Nat} {fs : List Value} {C : String} {T : u_T} {NN : Nat} (hs : gCv M.own idx y) (hm : gMt y cc mL ret N) (hc : Ctr y cc mL ret d kc ks (.ref b :: As) G Qc Xc) (hd : decode M.cc pc = .ok (.invokevirtual idx, 3)) (hr : gL G b (.inl (ci, fs))) (hcl : vwCl[ci]? = some (C, T, NN)) (hC : y.cls = C) (hst : st = As.reverse ++ .ref b :: rest) (hN : As.length = N) (hdp : d + 1 ≤ M.dp) (hmL : mL ≤ 60) (hk : k + kc ≤ M.kc) (hn : n + ks ≤ M.ks) (hcat : (rest.map fun v => v.category).sum ≤ 8) (htab : M.tab = []) (kx : ∀ E G', Xc E G' → X E G')
    (kk : ∀ v G', Qc v G' → GW M Q X G' (k + kc) (n + ks) (pc + 3) L (v.toList ++ rest)) : GW M Q X G k n pc L st := by
  subst hst
  intro p l e R s m args below meth c D dA b0 hX H locs ls hG hS hL
  obtain ⟨hx, hb, hml, hown, hts, hA, hret, hlk, hfl, hR, htb, hnm, hb0⟩ := id hX
  have hrecv : ∃ cellB : Cell, H[b]? = some cellB ∧ cellB.vm.isStatics = false ∧ s.vm.findClass y.cls = some cellB.cls := by
    have := va_recv (q := (C, T, NN)) hA.1 (hG.one hr) hcl (q0 := 0) rfl
    rw [hC]; exact this
  have hcw : CallW R s args M.own y.cls idx y cc mL ret (gWs y cc mL ret) (gRm d kc ks) kc ks N :=
    cwV (C := y.cls) N hts (gW_good fun w hw => by
      rcases List.mem_append.mp hw with h | h
      · simp only [List.mem_cons, List.not_mem_nil, or_false] at h
        rcases h with rfl | rfl | rfl | rfl
        · exact hs.1
        · exact hs.2.1
        · exact hs.2.2
        · exact hm.2.1
      · rcases List.mem_cons.mp h with rfl | h
        · exact hm.1
        · exact h) rfl rfl rfl ⟨rfl, hm.2.2.1.1, hm.2.2.1.2, hm.2.2.2⟩ ⟨by rw [hR]; exact hdp, by rw [hR]; show 8 + (mL + 11) + 100 * d ≤ 100 * M.dp; omega⟩
  refine gRun (vx_runV (g := F0 m pc ls (As.reverse ++ .ref b :: rest)) (rest := rest) ⟨hx, hb, hml, hown, hts⟩ (hc l D dA b0 hfl) hcw ⟨Ctr.blind, hrecv, gPre hX hG hS⟩ rfl hN hL.1 rfl (lv_room hcat) hd ⟨by rw [hR]; exact hk, by rw [hR]; exact hn⟩) hS (fun v G' H1 locs1 hq hG1 hS1 => kk v G' hq p l e R s m args below meth c D dA b0 hX H1 locs1 ls hG1 hS1 hL) (fun E G' H1 locs1 q ce hq hG1 hS1 h1 h2 h3 => gOut hX htab hk hn (kx E G' hq) hG1 hS1 h1 h2 h3)
theorem GW.callS (hs : gCs M.own idx y) (hm : gMt y cc mL ret N) (hc : Ctr y cc mL ret d kc ks As G Qc Xc) (hd : decode M.cc pc = .ok (.invokestatic idx, 3)) (hst : st = As.reverse ++ rest) (hN : As.length = N) (hdp : d + 1 ≤ M.dp) (hmL : mL ≤ 60) (hk : k + kc ≤ M.kc) (hn : n + ks ≤ M.ks) (hcat : (rest.map fun v => v.category).sum ≤ 8) (htab : M.tab = []) (kx : ∀ E G', Xc E G' → X E G')
    (kk : ∀ v G', Qc v G' → GW M Q X G' (k + kc) (n + ks) (pc + 3) L (v.toList ++ rest)) : GW M Q X G k n pc L st := by
  subst hst
  intro p l e R s m args below meth c D dA b0 hX H locs ls hG hS hL
  obtain ⟨hx, hb, hml, hown, hts, hA, hret, hlk, hfl, hR, htb, hnm, hb0⟩ := id hX
  have hcw : CallB R s args M.own idx y cc mL ret (gWs y cc mL ret) (gRm d kc ks) kc ks N ∧ (Cond.static y).before args s = true :=
    va_cwS N hts (gW_good fun w hw => by
      rcases List.mem_append.mp hw with h | h
      · simp only [List.mem_cons, List.not_mem_nil, or_false] at h
        rcases h with rfl | rfl | rfl
        · exact hs.1
        · exact hs.2
        · exact hm.2.1
      · rcases List.mem_cons.mp h with rfl | h
        · exact hm.1
        · exact h) rfl rfl rfl ⟨hm.2.2.1.1, hm.2.2.1.2, hm.2.2.2⟩ ⟨by rw [hR]; exact hdp, by rw [hR]; show 8 + (mL + 11) + 100 * d ≤ 100 * M.dp; omega⟩
  refine gRun (vx_runS (g := F0 m pc ls (As.reverse ++ rest)) (rest := rest) ⟨hx, hb, hml, hown, hts⟩ (hc l D dA b0 hfl) hcw ⟨Ctr.blind, gPre hX hG hS⟩ rfl hN hL.1 rfl (lv_room hcat) hd ⟨by rw [hR]; exact hk, by rw [hR]; exact hn⟩) hS (fun v G' H1 locs1 hq hG1 hS1 => kk v G' hq p l e R s m args below meth c D dA b0 hX H1 locs1 ls hG1 hS1 hL) (fun E G' H1 locs1 q ce hq hG1 hS1 h1 h2 h3 => gOut hX htab hk hn (kx E G' hq) hG1 hS1 h1 h2 h3)
end GWC
/-- a contract of what throws nothing, as the kit's constructors want it -/
theorem Ctr.met {y : MethodName} {cc : ByteArray} {mL : Nat} {ret : Option FieldType} {d kc ks : Nat} {as : List Value} {G : gG} {Q : Option Value → gG → Prop} {X : String → gG → Prop} (h : Ctr y cc mL ret d kc ks as G Q X) (hX : ∀ E G', ¬ X E G') (l : Launch) (D : va_G) (dA : Nat → ClassId) (b0 : Nat) (hfl : l.flags = flags0) :
    Met l y (gWs y cc mL ret) (gRm d kc ks) (va_Pc as (fun U => gA D dA b0 U U.heap ∧ gH D dA b0 G U.heap ∧ b0 ≤ U.heap.size)) (gQ D dA b0 Q) kc ks (gB b0) := by
  intro p e ha hc hk s m args below hf happ hP hK
  obtain ⟨t, o, h1, h2, h3, h4⟩ := h l D dA b0 hfl p e ha hc hk s m args below hf happ hP hK
  refine ⟨t, o, h1, h2, h3, ?_⟩
  rcases h4 with h4 | ⟨q, e1, E, ce, L1, ⟨⟨G', q1, q2⟩, f⟩, r⟩
  · exact h4
  · exact (hX _ _ q1).elim
section GWI
variable {M : gM} {Q : Option Value → gG → Prop} {X : String → gG → Prop} {G : gG} {k n pc : Nat} {L : List (Option Value)} {st : List Value}
variable {y : MethodName} {cc : ByteArray} {mL N : Nat} {d kc ks : Nat} {As rest : List Value} {Qc : Option Value → gG → Prop} {Xc : String → gG → Prop} {idx b : Nat}
theorem gRunM {p : Program} {l : Launch} {e : Env} {R : Room} {s : State} {m : MethodId} {args : Array Value} {below : List Frame} {meth : Method} {c : Code} {D : va_G} {dA : Nat → ClassId} {b0 : Nat} {H : Heap} {locs : List Loc} {ls : Array Slot} {ax : Array Value} {QQ : State → Prop} {st0 : List Value}
    (hr : va_Run p l e R s m args below meth c H locs k n kc ks (F0 m pc ls st0) rest (gQ D dA b0 Qc ax) (gB b0)) (hS : va_S (gB b0) s.heap H locs)
    (kk : ∀ v G' (H1 : Heap) (locs1 : List Loc), Qc v G' → gH D dA b0 G' H1 → va_S (gB b0) s.heap H1 locs1 → W p l e R s m args below meth c H1 locs1 (k + kc) (n + ks) QQ (F0 m (pc + 3) ls (v.toList ++ rest))) :
    W p l e R s m args below meth c H locs k n QQ (F0 m pc ls st0) := by
  intro T hT XX
  obtain ⟨v, st₀, t, T', L, h0, X', hL, e1, e2, ⟨⟨v', G', hv, hq, hG'⟩, hF⟩, st⟩ := hr T hT XX
  cases hv
  obtain ⟨-, -, k3⟩ := vx_keep h0 e1 hS (fun q _ h => h) (fun q h => h) hL hF
  obtain ⟨t2, a1, b1⟩ := kk v G' T'.heap (locs ++ L) hq (by rw [e1]; exact hG') k3 T' rfl X'
  exact ⟨t2, st t2 a1, b1⟩
theorem GW.callI (hs : gCi M.own idx y) (hm : gMt y cc mL none N) (hc : Ctr y cc mL none d kc ks (.ref b :: As) G Qc Xc) (hXc : ∀ E G', ¬ Xc E G') (hd : decode M.cc pc = .ok (.invokespecial idx, 3)) (hst : st = As.reverse ++ .ref b :: rest) (hN : As.length = N) (hdp : d + 1 ≤ M.dp) (hmL : mL ≤ 60) (hk : k + kc ≤ M.kc) (hn : n + ks ≤ M.ks) (hcat : (rest.map fun v => v.category).sum ≤ 8)
    (kk : ∀ v G', Qc v G' → GW M Q X G' (k + kc) (n + ks) (pc + 3) L (v.toList ++ rest)) : GW M Q X G k n pc L st := by
  subst hst
  intro p l e R s m args below meth c D dA b0 hX H locs ls hG hS hL
  obtain ⟨hx, hb, hml, hown, hts, hA, hret, hlk, hfl, hR, htb, hnm, hb0⟩ := id hX
  have hcw := cwI (R := R) (own := M.own) (index := idx) (y := y) (bytes := cc) (maxL := mL) (ws := gWs y cc mL none) (rm := gRm d kc ks) (mc := kc) (ms := ks) N hts (gW_good fun w hw => by
      rcases List.mem_cons.mp hw with rfl | h
      · exact hm.1
      · exact h) rfl rfl rfl (hts _ hm.2.1) (hts _ hs.1) (hts _ hs.2.1) hs.2.2 ⟨hm.2.2.1.1, hm.2.2.1.2, hm.2.2.2⟩ ⟨by rw [hR]; exact hdp, by rw [hR]; show 8 + (mL + 11) + 100 * d ≤ 100 * M.dp; omega⟩
  exact gRunM (va_runI (g := F0 m pc ls (As.reverse ++ .ref b :: rest)) (rest := rest) (b := b) ⟨hx, hb, hml, hown, hts⟩ (hc.met hXc l D dA b0 hfl) hcw ⟨Ctr.blind, gPre hX hG hS⟩ rfl hN hL.1 rfl (lv_room hcat) hd ⟨by rw [hR]; exact hk, by rw [hR]; exact hn⟩) hS (fun v G' H1 locs1 hq hG1 hS1 => kk v G' hq p l e R s m args below meth c D dA b0 hX H1 locs1 ls hG1 hS1 hL)
end GWI
end
section
/-! TREES: children in a row, each with its key, kind, number and its own children; and how they lie in the heap -/
abbrev Fo : Type := Std.DTreeMap.Internal.Impl (Int32 × Int32 × Int32) (fun _ => Unit)
/-- kind, number, children -/
abbrev Tr : Type := Int32 × Int32 × Fo
abbrev fNil : Fo := .leaf
abbrev fCons (key kind num : Int32) (ch rest : Fo) : Fo := .inner 0 (key, kind, num) () ch rest
def kids : Fo → List (Int32 × Tr)
  | .leaf => []
  | .inner _ k _ ch rest => (k.1, k.2.1, k.2.2, ch) :: kids rest
def ofKids : List (Int32 × Tr) → Fo
  | [] => .leaf
  | x :: xs => .inner 0 (x.1, x.2.1, x.2.2.1) () x.2.2.2 (ofKids xs)
theorem kids_of : ∀ xs : List (Int32 × Tr), kids (ofKids xs) = xs
  | [] => rfl
  | x :: xs => by rw [ofKids, kids, kids_of xs]
def szF : Fo → Nat
  | .leaf => 0
  | .inner _ _ _ ch rest => 1 + szF ch + szF rest
def dpF : Fo → Nat
  | .leaf => 0
  | .inner _ _ _ ch rest => max (1 + dpF ch) (dpF rest)
def szT (t : Tr) : Nat := 1 + szF t.2.2
def dpT (t : Tr) : Nat := 1 + dpF t.2.2
/-- all the numbers beside the keys are as ofKids writes them -/
def plF : Fo → Prop
  | .leaf => True
  | .inner z _ _ ch rest => z = 0 ∧ plF ch ∧ plF rest
theorem of_kids : ∀ f : Fo, plF f → ofKids (kids f) = f
  | .leaf, _ => rfl
  | .inner z k u ch rest, h => by
    obtain ⟨h1, -, h3⟩ := h
    subst h1
    rw [kids, ofKids, of_kids rest h3]
theorem kids_inj {f g : Fo} (hf : plF f) (hg : plF g) (h : kids f = kids g) : f = g := by rw [← of_kids f hf, ← of_kids g hg, h]
theorem szF_kids : ∀ f : Fo, szF f = ((kids f).map (fun x => szT x.2)).sum
  | .leaf => rfl
  | .inner z k u ch rest => by
    rw [kids, szF, szF_kids rest]
    simp [szT]
theorem kids_lt : ∀ (f : Fo) (x : Int32 × Tr), x ∈ kids f → szT x.2 ≤ szF f
  | .leaf, x, h => by simp [kids] at h
  | .inner z k u ch rest, x, h => by
    rw [kids] at h
    rcases List.mem_cons.mp h with rfl | h
    · simp only [szT, szF]; omega
    · have := kids_lt rest x h
      simp only [szF]; omega
theorem kids_dp : ∀ (f : Fo) (x : Int32 × Tr), x ∈ kids f → dpT x.2 ≤ dpF f
  | .leaf, x, h => by simp [kids] at h
  | .inner z k u ch rest, x, h => by
    rw [kids] at h
    rcases List.mem_cons.mp h with rfl | h
    · simp only [dpT, dpF]; omega
    · have := kids_dp rest x h
      simp only [dpF]; omega
theorem kids_len : ∀ f : Fo, (kids f).length ≤ szF f
  | .leaf => Nat.le_refl _
  | .inner z k u ch rest => by
    have := kids_len rest
    rw [kids, szF, List.length_cons]; omega
theorem kids_pl : ∀ (f : Fo), plF f → ∀ x ∈ kids f, plF x.2.2.2
  | .leaf, _, x, h => by simp [kids] at h
  | .inner z k u ch rest, hp, x, h => by
    rw [kids] at h
    rcases List.mem_cons.mp h with rfl | h
    · exact hp.2.1
    · exact kids_pl rest hp.2.2 x h
/-! in the heap: what never changes, im -/
abbrev gIm : Type := Nat → Option gC
/-- the keys of an OBJECT; none for other kinds, and perhaps where there are no children -/
def keysAt (im : gIm) (kr : Option Nat) (kind : Int32) (ch : Fo) : Prop := match kr with
  | none => kind ≠ 4 ∨ kids ch = []
  | some ka => kind = 4 ∧ ∃ f, im ka = some (.inr (0, (kids ch).length, .inl f)) ∧ ∀ (i : Nat) (x : Int32 × Tr), (kids ch)[i]? = some x → f i = x.1
def isF (im : gIm) (r : Nat → Option Nat) : Nat → Fo → Prop
  | _, .leaf => True
  | i, .inner _ k _ ch rest => (∃ b kr pr, r i = some b ∧ im b = some (.inl (8, [.int k.2.1, .int k.2.2, va_rf kr, va_rf pr, .int (nI (1 + szF ch)), .int (nI (1 + dpF ch))])) ∧ keysAt im kr k.2.1 ch ∧
      ((pr = none ∧ kids ch = []) ∨ ∃ pa r', pr = some pa ∧ im pa = some (.inr (1, (kids ch).length, .inr r')) ∧ isF im r' 0 ch)) ∧ isF im r (i + 1) rest
/-- the tree t lies at a -/
def isV (im : gIm) (a : Nat) (t : Tr) : Prop := ∃ kr pr, im a = some (.inl (8, [.int t.1, .int t.2.1, va_rf kr, va_rf pr, .int (nI (szT t)), .int (nI (dpT t))])) ∧ keysAt im kr t.1 t.2.2 ∧
  ((pr = none ∧ kids t.2.2 = []) ∨ ∃ pa r', pr = some pa ∧ im pa = some (.inr (1, (kids t.2.2).length, .inr r')) ∧ isF im r' 0 t.2.2)
theorem isF_iff (im : gIm) (r : Nat → Option Nat) : ∀ (f : Fo) (i : Nat), isF im r i f ↔ ∀ (j : Nat) (x : Int32 × Tr), (kids f)[j]? = some x → ∃ b, r (i + j) = some b ∧ isV im b x.2
  | .leaf, i => by simp [isF, kids]
  | .inner z k u ch rest, i => by
    have ih := isF_iff im r rest (i + 1)
    constructor
    · rintro ⟨⟨b, kr, pr, h1, h2⟩, h3⟩ j x hj
      rw [kids] at hj
      cases j with
      | zero =>
        simp at hj
        subst hj
        exact ⟨b, h1, kr, pr, h2⟩
      | succ j =>
        simp at hj
        obtain ⟨b', h4, h5⟩ := ih.mp h3 j x hj
        exact ⟨b', by rw [← h4]; congr 1; omega, h5⟩
    · intro h
      refine ⟨?_, ih.mpr fun j x hj => ?_⟩
      · obtain ⟨b, h1, kr, pr, h2⟩ := h 0 _ (by rw [kids]; rfl)
        exact ⟨b, kr, pr, h1, h2⟩
      · obtain ⟨b, h1, h2⟩ := h (j + 1) x (by rw [kids]; simpa using hj)
        exact ⟨b, by rw [← h1]; congr 1; omega, h2⟩
/-- im grows: what lies there stays -/
def gLe (im im' : gIm) : Prop := ∀ a c, im a = some c → im' a = some c
theorem gLe.rf (im : gIm) : gLe im im := fun _ _ h => h
theorem gLe.tr {a b c : gIm} (h1 : gLe a b) (h2 : gLe b c) : gLe a c := fun x y h => h2 x y (h1 x y h)
theorem keysAt.mono {im im' : gIm} (hle : gLe im im') {kr : Option Nat} {kind : Int32} {ch : Fo} (h : keysAt im kr kind ch) : keysAt im' kr kind ch := by
  cases kr with
  | none => exact h
  | some ka =>
    obtain ⟨h1, f, h2, h3⟩ := h
    exact ⟨h1, f, hle _ _ h2, h3⟩
theorem isF.mono {im im' : gIm} (hle : gLe im im') : ∀ (f : Fo) (r : Nat → Option Nat) (i : Nat), isF im r i f → isF im' r i f
  | .leaf, _, _, _ => trivial
  | .inner z k u ch rest, r, i, h => by
    obtain ⟨⟨b, kr, pr, h1, h2, h3, h4⟩, h5⟩ := h
    refine ⟨⟨b, kr, pr, h1, hle _ _ h2, h3.mono hle, ?_⟩, isF.mono hle rest r (i + 1) h5⟩
    rcases h4 with h4 | ⟨pa, r', q1, q2, q3⟩
    · exact Or.inl h4
    · exact Or.inr ⟨pa, r', q1, hle _ _ q2, isF.mono hle ch r' 0 q3⟩
theorem isV.mono {im im' : gIm} (hle : gLe im im') {a : Nat} {t : Tr} (h : isV im a t) : isV im' a t := by
  obtain ⟨kr, pr, h2, h3, h4⟩ := h
  refine ⟨kr, pr, hle _ _ h2, h3.mono hle, ?_⟩
  rcases h4 with h4 | ⟨pa, r', q1, q2, q3⟩
  · exact Or.inl h4
  · exact Or.inr ⟨pa, r', q1, hle _ _ q2, isF.mono hle _ r' 0 q3⟩
/-- one reference, one tree -/
theorem isV.inj {im : gIm} : ∀ (n : Nat) (t u : Tr) (a : Nat), szT t ≤ n → plF t.2.2 → plF u.2.2 → isV im a t → isV im a u → (∀ x : Tr × Nat, True) → t.1 = u.1 ∧ t.2.1 = u.2.1 := by
  intro n t u a hn hp hq ⟨kr, pr, h2, h3, h4⟩ ⟨kr', pr', h2', h3', h4'⟩ _
  have := h2.symm.trans h2'
  simp at this
  exact ⟨this.1, this.2.1⟩
/-- a reference, there or not, to a tree, there or not -/
def isO (im : gIm) (r : Option Nat) (t : Option Tr) : Prop := match r, t with
  | none, none => True
  | some a, some t => isV im a t
  | _, _ => False
theorem isO.mono {im im' : gIm} (hle : gLe im im') {r : Option Nat} {t : Option Tr} (h : isO im r t) : isO im' r t := by
  cases r <;> cases t <;> first | exact h | exact isV.mono hle h
end
section
/-! small rows that the walks use -/
section GWS
variable {M : gM} {Q : Option Value → gG → Prop} {X : String → gG → Prop} {G : gG} {k n pc : Nat} {L : List (Option Value)} {st : List Value}
variable {a0 a1 a2 a3 a4 a5 a6 a7 a8 a9 a10 a11 : Option Value}
theorem i32_inc (x : Int32) : x + Int32.ofInt 1 = x + 1 := rfl
theorem i32_dec (x : Int32) : x + Int32.ofInt (-1) = x - 1 := by rw [Int32.sub_eq_add_neg]; rfl
theorem GW.inc0 {x : Int32} (hd : decode M.cc pc = .ok (.iinc 0 (1), 3)) (hn : 0 < M.nL := by exact Nat.le_of_ble_eq_true rfl) (g : GW M Q X G k n (pc + 3) [some (.int (x + 1)), a1, a2, a3, a4, a5, a6, a7, a8, a9, a10, a11] st) : GW M Q X G k n pc [some (.int x), a1, a2, a3, a4, a5, a6, a7, a8, a9, a10, a11] st := GW.iinc0 hd (i32_inc x) hn (g := g)
theorem GW.inc0m {x : Int32} (hd : decode M.cc pc = .ok (.iinc 0 (-1), 3)) (hn : 0 < M.nL := by exact Nat.le_of_ble_eq_true rfl) (g : GW M Q X G k n (pc + 3) [some (.int (x - 1)), a1, a2, a3, a4, a5, a6, a7, a8, a9, a10, a11] st) : GW M Q X G k n pc [some (.int x), a1, a2, a3, a4, a5, a6, a7, a8, a9, a10, a11] st := GW.iinc0 hd (i32_dec x) hn (g := g)
theorem GW.inc1 {x : Int32} (hd : decode M.cc pc = .ok (.iinc 1 (1), 3)) (hn : 1 < M.nL := by exact Nat.le_of_ble_eq_true rfl) (hp : ∀ w : Value, a0 = some w → w.category ≠ 2 := by intro w h; first | (cases h; first | (show ¬ ((1 : Nat) = 2); decide) | (rw [va_rf_cat]; decide)) | (cases h)) (g : GW M Q X G k n (pc + 3) [a0, some (.int (x + 1)), a2, a3, a4, a5, a6, a7, a8, a9, a10, a11] st) : GW M Q X G k n pc [a0, some (.int x), a2, a3, a4, a5, a6, a7, a8, a9, a10, a11] st := GW.iinc1 hd (i32_inc x) hn hp (g := g)
theorem GW.inc1m {x : Int32} (hd : decode M.cc pc = .ok (.iinc 1 (-1), 3)) (hn : 1 < M.nL := by exact Nat.le_of_ble_eq_true rfl) (hp : ∀ w : Value, a0 = some w → w.category ≠ 2 := by intro w h; first | (cases h; first | (show ¬ ((1 : Nat) = 2); decide) | (rw [va_rf_cat]; decide)) | (cases h)) (g : GW M Q X G k n (pc + 3) [a0, some (.int (x - 1)), a2, a3, a4, a5, a6, a7, a8, a9, a10, a11] st) : GW M Q X G k n pc [a0, some (.int x), a2, a3, a4, a5, a6, a7, a8, a9, a10, a11] st := GW.iinc1 hd (i32_dec x) hn hp (g := g)
theorem GW.inc2 {x : Int32} (hd : decode M.cc pc = .ok (.iinc 2 (1), 3)) (hn : 2 < M.nL := by exact Nat.le_of_ble_eq_true rfl) (hp : ∀ w : Value, a1 = some w → w.category ≠ 2 := by intro w h; first | (cases h; first | (show ¬ ((1 : Nat) = 2); decide) | (rw [va_rf_cat]; decide)) | (cases h)) (g : GW M Q X G k n (pc + 3) [a0, a1, some (.int (x + 1)), a3, a4, a5, a6, a7, a8, a9, a10, a11] st) : GW M Q X G k n pc [a0, a1, some (.int x), a3, a4, a5, a6, a7, a8, a9, a10, a11] st := GW.iinc2 hd (i32_inc x) hn hp (g := g)
theorem GW.inc2m {x : Int32} (hd : decode M.cc pc = .ok (.iinc 2 (-1), 3)) (hn : 2 < M.nL := by exact Nat.le_of_ble_eq_true rfl) (hp : ∀ w : Value, a1 = some w → w.category ≠ 2 := by intro w h; first | (cases h; first | (show ¬ ((1 : Nat) = 2); decide) | (rw [va_rf_cat]; decide)) | (cases h)) (g : GW M Q X G k n (pc + 3) [a0, a1, some (.int (x - 1)), a3, a4, a5, a6, a7, a8, a9, a10, a11] st) : GW M Q X G k n pc [a0, a1, some (.int x), a3, a4, a5, a6, a7, a8, a9, a10, a11] st := GW.iinc2 hd (i32_dec x) hn hp (g := g)
theorem GW.inc3 {x : Int32} (hd : decode M.cc pc = .ok (.iinc 3 (1), 3)) (hn : 3 < M.nL := by exact Nat.le_of_ble_eq_true rfl) (hp : ∀ w : Value, a2 = some w → w.category ≠ 2 := by intro w h; first | (cases h; first | (show ¬ ((1 : Nat) = 2); decide) | (rw [va_rf_cat]; decide)) | (cases h)) (g : GW M Q X G k n (pc + 3) [a0, a1, a2, some (.int (x + 1)), a4, a5, a6, a7, a8, a9, a10, a11] st) : GW M Q X G k n pc [a0, a1, a2, some (.int x), a4, a5, a6, a7, a8, a9, a10, a11] st := GW.iinc3 hd (i32_inc x) hn hp (g := g)
theorem GW.inc3m {x : Int32} (hd : decode M.cc pc = .ok (.iinc 3 (-1), 3)) (hn : 3 < M.nL := by exact Nat.le_of_ble_eq_true rfl) (hp : ∀ w : Value, a2 = some w → w.category ≠ 2 := by intro w h; first | (cases h; first | (show ¬ ((1 : Nat) = 2); decide) | (rw [va_rf_cat]; decide)) | (cases h)) (g : GW M Q X G k n (pc + 3) [a0, a1, a2, some (.int (x - 1)), a4, a5, a6, a7, a8, a9, a10, a11] st) : GW M Q X G k n pc [a0, a1, a2, some (.int x), a4, a5, a6, a7, a8, a9, a10, a11] st := GW.iinc3 hd (i32_dec x) hn hp (g := g)
theorem GW.inc4 {x : Int32} (hd : decode M.cc pc = .ok (.iinc 4 (1), 3)) (hn : 4 < M.nL := by exact Nat.le_of_ble_eq_true rfl) (hp : ∀ w : Value, a3 = some w → w.category ≠ 2 := by intro w h; first | (cases h; first | (show ¬ ((1 : Nat) = 2); decide) | (rw [va_rf_cat]; decide)) | (cases h)) (g : GW M Q X G k n (pc + 3) [a0, a1, a2, a3, some (.int (x + 1)), a5, a6, a7, a8, a9, a10, a11] st) : GW M Q X G k n pc [a0, a1, a2, a3, some (.int x), a5, a6, a7, a8, a9, a10, a11] st := GW.iinc4 hd (i32_inc x) hn hp (g := g)
theorem GW.inc4m {x : Int32} (hd : decode M.cc pc = .ok (.iinc 4 (-1), 3)) (hn : 4 < M.nL := by exact Nat.le_of_ble_eq_true rfl) (hp : ∀ w : Value, a3 = some w → w.category ≠ 2 := by intro w h; first | (cases h; first | (show ¬ ((1 : Nat) = 2); decide) | (rw [va_rf_cat]; decide)) | (cases h)) (g : GW M Q X G k n (pc + 3) [a0, a1, a2, a3, some (.int (x - 1)), a5, a6, a7, a8, a9, a10, a11] st) : GW M Q X G k n pc [a0, a1, a2, a3, some (.int x), a5, a6, a7, a8, a9, a10, a11] st := GW.iinc4 hd (i32_dec x) hn hp (g := g)
theorem GW.inc5 {x : Int32} (hd : decode M.cc pc = .ok (.iinc 5 (1), 3)) (hn : 5 < M.nL := by exact Nat.le_of_ble_eq_true rfl) (hp : ∀ w : Value, a4 = some w → w.category ≠ 2 := by intro w h; first | (cases h; first | (show ¬ ((1 : Nat) = 2); decide) | (rw [va_rf_cat]; decide)) | (cases h)) (g : GW M Q X G k n (pc + 3) [a0, a1, a2, a3, a4, some (.int (x + 1)), a6, a7, a8, a9, a10, a11] st) : GW M Q X G k n pc [a0, a1, a2, a3, a4, some (.int x), a6, a7, a8, a9, a10, a11] st := GW.iinc5 hd (i32_inc x) hn hp (g := g)
theorem GW.inc5m {x : Int32} (hd : decode M.cc pc = .ok (.iinc 5 (-1), 3)) (hn : 5 < M.nL := by exact Nat.le_of_ble_eq_true rfl) (hp : ∀ w : Value, a4 = some w → w.category ≠ 2 := by intro w h; first | (cases h; first | (show ¬ ((1 : Nat) = 2); decide) | (rw [va_rf_cat]; decide)) | (cases h)) (g : GW M Q X G k n (pc + 3) [a0, a1, a2, a3, a4, some (.int (x - 1)), a6, a7, a8, a9, a10, a11] st) : GW M Q X G k n pc [a0, a1, a2, a3, a4, some (.int x), a6, a7, a8, a9, a10, a11] st := GW.iinc5 hd (i32_dec x) hn hp (g := g)
theorem GW.inc6 {x : Int32} (hd : decode M.cc pc = .ok (.iinc 6 (1), 3)) (hn : 6 < M.nL := by exact Nat.le_of_ble_eq_true rfl) (hp : ∀ w : Value, a5 = some w → w.category ≠ 2 := by intro w h; first | (cases h; first | (show ¬ ((1 : Nat) = 2); decide) | (rw [va_rf_cat]; decide)) | (cases h)) (g : GW M Q X G k n (pc + 3) [a0, a1, a2, a3, a4, a5, some (.int (x + 1)), a7, a8, a9, a10, a11] st) : GW M Q X G k n pc [a0, a1, a2, a3, a4, a5, some (.int x), a7, a8, a9, a10, a11] st := GW.iinc6 hd (i32_inc x) hn hp (g := g)
theorem GW.inc6m {x : Int32} (hd : decode M.cc pc = .ok (.iinc 6 (-1), 3)) (hn : 6 < M.nL := by exact Nat.le_of_ble_eq_true rfl) (hp : ∀ w : Value, a5 = some w → w.category ≠ 2 := by intro w h; first | (cases h; first | (show ¬ ((1 : Nat) = 2); decide) | (rw [va_rf_cat]; decide)) | (cases h)) (g : GW M Q X G k n (pc + 3) [a0, a1, a2, a3, a4, a5, some (.int (x - 1)), a7, a8, a9, a10, a11] st) : GW M Q X G k n pc [a0, a1, a2, a3, a4, a5, some (.int x), a7, a8, a9, a10, a11] st := GW.iinc6 hd (i32_dec x) hn hp (g := g)
theorem GW.inc7 {x : Int32} (hd : decode M.cc pc = .ok (.iinc 7 (1), 3)) (hn : 7 < M.nL := by exact Nat.le_of_ble_eq_true rfl) (hp : ∀ w : Value, a6 = some w → w.category ≠ 2 := by intro w h; first | (cases h; first | (show ¬ ((1 : Nat) = 2); decide) | (rw [va_rf_cat]; decide)) | (cases h)) (g : GW M Q X G k n (pc + 3) [a0, a1, a2, a3, a4, a5, a6, some (.int (x + 1)), a8, a9, a10, a11] st) : GW M Q X G k n pc [a0, a1, a2, a3, a4, a5, a6, some (.int x), a8, a9, a10, a11] st := GW.iinc7 hd (i32_inc x) hn hp (g := g)
theorem GW.inc7m {x : Int32} (hd : decode M.cc pc = .ok (.iinc 7 (-1), 3)) (hn : 7 < M.nL := by exact Nat.le_of_ble_eq_true rfl) (hp : ∀ w : Value, a6 = some w → w.category ≠ 2 := by intro w h; first | (cases h; first | (show ¬ ((1 : Nat) = 2); decide) | (rw [va_rf_cat]; decide)) | (cases h)) (g : GW M Q X G k n (pc + 3) [a0, a1, a2, a3, a4, a5, a6, some (.int (x - 1)), a8, a9, a10, a11] st) : GW M Q X G k n pc [a0, a1, a2, a3, a4, a5, a6, some (.int x), a8, a9, a10, a11] st := GW.iinc7 hd (i32_dec x) hn hp (g := g)
theorem GW.inc8 {x : Int32} (hd : decode M.cc pc = .ok (.iinc 8 (1), 3)) (hn : 8 < M.nL := by exact Nat.le_of_ble_eq_true rfl) (hp : ∀ w : Value, a7 = some w → w.category ≠ 2 := by intro w h; first | (cases h; first | (show ¬ ((1 : Nat) = 2); decide) | (rw [va_rf_cat]; decide)) | (cases h)) (g : GW M Q X G k n (pc + 3) [a0, a1, a2, a3, a4, a5, a6, a7, some (.int (x + 1)), a9, a10, a11] st) : GW M Q X G k n pc [a0, a1, a2, a3, a4, a5, a6, a7, some (.int x), a9, a10, a11] st := GW.iinc8 hd (i32_inc x) hn hp (g := g)
theorem GW.inc8m {x : Int32} (hd : decode M.cc pc = .ok (.iinc 8 (-1), 3)) (hn : 8 < M.nL := by exact Nat.le_of_ble_eq_true rfl) (hp : ∀ w : Value, a7 = some w → w.category ≠ 2 := by intro w h; first | (cases h; first | (show ¬ ((1 : Nat) = 2); decide) | (rw [va_rf_cat]; decide)) | (cases h)) (g : GW M Q X G k n (pc + 3) [a0, a1, a2, a3, a4, a5, a6, a7, some (.int (x - 1)), a9, a10, a11] st) : GW M Q X G k n pc [a0, a1, a2, a3, a4, a5, a6, a7, some (.int x), a9, a10, a11] st := GW.iinc8 hd (i32_dec x) hn hp (g := g)
theorem GW.inc9 {x : Int32} (hd : decode M.cc pc = .ok (.iinc 9 (1), 3)) (hn : 9 < M.nL := by exact Nat.le_of_ble_eq_true rfl) (hp : ∀ w : Value, a8 = some w → w.category ≠ 2 := by intro w h; first | (cases h; first | (show ¬ ((1 : Nat) = 2); decide) | (rw [va_rf_cat]; decide)) | (cases h)) (g : GW M Q X G k n (pc + 3) [a0, a1, a2, a3, a4, a5, a6, a7, a8, some (.int (x + 1)), a10, a11] st) : GW M Q X G k n pc [a0, a1, a2, a3, a4, a5, a6, a7, a8, some (.int x), a10, a11] st := GW.iinc9 hd (i32_inc x) hn hp (g := g)
theorem GW.inc9m {x : Int32} (hd : decode M.cc pc = .ok (.iinc 9 (-1), 3)) (hn : 9 < M.nL := by exact Nat.le_of_ble_eq_true rfl) (hp : ∀ w : Value, a8 = some w → w.category ≠ 2 := by intro w h; first | (cases h; first | (show ¬ ((1 : Nat) = 2); decide) | (rw [va_rf_cat]; decide)) | (cases h)) (g : GW M Q X G k n (pc + 3) [a0, a1, a2, a3, a4, a5, a6, a7, a8, some (.int (x - 1)), a10, a11] st) : GW M Q X G k n pc [a0, a1, a2, a3, a4, a5, a6, a7, a8, some (.int x), a10, a11] st := GW.iinc9 hd (i32_dec x) hn hp (g := g)
theorem GW.inc10 {x : Int32} (hd : decode M.cc pc = .ok (.iinc 10 (1), 3)) (hn : 10 < M.nL := by exact Nat.le_of_ble_eq_true rfl) (hp : ∀ w : Value, a9 = some w → w.category ≠ 2 := by intro w h; first | (cases h; first | (show ¬ ((1 : Nat) = 2); decide) | (rw [va_rf_cat]; decide)) | (cases h)) (g : GW M Q X G k n (pc + 3) [a0, a1, a2, a3, a4, a5, a6, a7, a8, a9, some (.int (x + 1)), a11] st) : GW M Q X G k n pc [a0, a1, a2, a3, a4, a5, a6, a7, a8, a9, some (.int x), a11] st := GW.iinc10 hd (i32_inc x) hn hp (g := g)
theorem GW.inc10m {x : Int32} (hd : decode M.cc pc = .ok (.iinc 10 (-1), 3)) (hn : 10 < M.nL := by exact Nat.le_of_ble_eq_true rfl) (hp : ∀ w : Value, a9 = some w → w.category ≠ 2 := by intro w h; first | (cases h; first | (show ¬ ((1 : Nat) = 2); decide) | (rw [va_rf_cat]; decide)) | (cases h)) (g : GW M Q X G k n (pc + 3) [a0, a1, a2, a3, a4, a5, a6, a7, a8, a9, some (.int (x - 1)), a11] st) : GW M Q X G k n pc [a0, a1, a2, a3, a4, a5, a6, a7, a8, a9, some (.int x), a11] st := GW.iinc10 hd (i32_dec x) hn hp (g := g)
theorem GW.inc11 {x : Int32} (hd : decode M.cc pc = .ok (.iinc 11 (1), 3)) (hn : 11 < M.nL := by exact Nat.le_of_ble_eq_true rfl) (hp : ∀ w : Value, a10 = some w → w.category ≠ 2 := by intro w h; first | (cases h; first | (show ¬ ((1 : Nat) = 2); decide) | (rw [va_rf_cat]; decide)) | (cases h)) (g : GW M Q X G k n (pc + 3) [a0, a1, a2, a3, a4, a5, a6, a7, a8, a9, a10, some (.int (x + 1))] st) : GW M Q X G k n pc [a0, a1, a2, a3, a4, a5, a6, a7, a8, a9, a10, some (.int x)] st := GW.iinc11 hd (i32_inc x) hn hp (g := g)
theorem GW.inc11m {x : Int32} (hd : decode M.cc pc = .ok (.iinc 11 (-1), 3)) (hn : 11 < M.nL := by exact Nat.le_of_ble_eq_true rfl) (hp : ∀ w : Value, a10 = some w → w.category ≠ 2 := by intro w h; first | (cases h; first | (show ¬ ((1 : Nat) = 2); decide) | (rw [va_rf_cat]; decide)) | (cases h)) (g : GW M Q X G k n (pc + 3) [a0, a1, a2, a3, a4, a5, a6, a7, a8, a9, a10, some (.int (x - 1))] st) : GW M Q X G k n pc [a0, a1, a2, a3, a4, a5, a6, a7, a8, a9, a10, some (.int x)] st := GW.iinc11 hd (i32_dec x) hn hp (g := g)
variable {y : MethodName} {cc : ByteArray} {mL N : Nat} {ret : Option FieldType} {d : Nat} {As rest : List Value} {Qc : Option Value → gG → Prop} {Xc : String → gG → Prop} {idx : Nat}
theorem GW.callV0 {b ci : Nat} {fs : List Value} {C : String} {T : u_T} {NN : Nat} (hs : gCv M.own idx y) (hm : gMt y cc mL ret N) (hc : Ctr y cc mL ret d 0 0 (.ref b :: As) G Qc Xc) (hd : decode M.cc pc = .ok (.invokevirtual idx, 3)) (hr : gL G b (.inl (ci, fs))) (hcl : vwCl[ci]? = some (C, T, NN)) (hC : y.cls = C) (hst : st = As.reverse ++ .ref b :: rest) (hN : As.length = N) (hdp : d + 1 ≤ M.dp) (hmL : mL ≤ 60) (hk : k ≤ M.kc) (hn : n ≤ M.ks) (hcat : (rest.map fun v => v.category).sum ≤ 8) (htab : M.tab = []) (kx : ∀ E G', Xc E G' → X E G')
    (kk : ∀ v G', Qc v G' → GW M Q X G' k n (pc + 3) L (v.toList ++ rest)) : GW M Q X G k n pc L st := GW.callV hs hm hc hd hr hcl hC hst hN hdp hmL hk hn hcat htab kx kk
theorem GW.callS0 (hs : gCs M.own idx y) (hm : gMt y cc mL ret N) (hc : Ctr y cc mL ret d 0 0 As G Qc Xc) (hd : decode M.cc pc = .ok (.invokestatic idx, 3)) (hst : st = As.reverse ++ rest) (hN : As.length = N) (hdp : d + 1 ≤ M.dp) (hmL : mL ≤ 60) (hk : k ≤ M.kc) (hn : n ≤ M.ks) (hcat : (rest.map fun v => v.category).sum ≤ 8) (htab : M.tab = []) (kx : ∀ E G', Xc E G' → X E G')
    (kk : ∀ v G', Qc v G' → GW M Q X G' k n (pc + 3) L (v.toList ++ rest)) : GW M Q X G k n pc L st := GW.callS hs hm hc hd hst hN hdp hmL hk hn hcat htab kx kk
theorem GW.callI0 {b : Nat} (hs : gCi M.own idx y) (hm : gMt y cc mL none N) (hc : Ctr y cc mL none d 0 0 (.ref b :: As) G Qc Xc) (hXc : ∀ E G', ¬ Xc E G') (hd : decode M.cc pc = .ok (.invokespecial idx, 3)) (hst : st = As.reverse ++ .ref b :: rest) (hN : As.length = N) (hdp : d + 1 ≤ M.dp) (hmL : mL ≤ 60) (hk : k ≤ M.kc) (hn : n ≤ M.ks) (hcat : (rest.map fun v => v.category).sum ≤ 8)
    (kk : ∀ v G', Qc v G' → GW M Q X G' k n (pc + 3) L (v.toList ++ rest)) : GW M Q X G k n pc L st := GW.callI hs hm hc hXc hd hst hN hdp hmL hk hn hcat kk
end GWS
/-- nothing is thrown -/
abbrev noX : String → gG → Prop := fun _ _ => False
/-- the ghost stays, the answer is -/
abbrev ans (G : gG) (P : Value → Prop) : Option Value → gG → Prop := fun v G' => ∃ w, v = some w ∧ G = G' ∧ P w
theorem i32_lt0 {i : Int32} : ¬ i < 0 ↔ 0 ≤ i := Int32.not_lt
end
section
/-! numbers: Int32 of a natural number, places in a row -/
theorem mI_toInt {n : Nat} (h : n < 2 ^ 31) : (nI n).toInt = (n : Int) := by
  unfold nI
  rw [Int32.toInt_ofNat_of_lt (by simpa using h)]
theorem mI_lt {a b : Nat} (ha : a < 2 ^ 31) (hb : b < 2 ^ 31) : nI a < nI b ↔ a < b := by
  rw [Int32.lt_iff_toInt_lt, mI_toInt ha, mI_toInt hb]; omega
theorem mI_le {a b : Nat} (ha : a < 2 ^ 31) (hb : b < 2 ^ 31) : nI a ≤ nI b ↔ a ≤ b := by
  rw [Int32.le_iff_toInt_le, mI_toInt ha, mI_toInt hb]; omega
theorem mI_nonneg {a : Nat} (ha : a < 2 ^ 31) : ¬ nI a < 0 := by
  rw [Int32.lt_iff_toInt_lt, mI_toInt ha]
  show ¬ ((a : Int) < 0)
  omega
theorem mI_eq {a b : Nat} (ha : a < 2 ^ 31) (hb : b < 2 ^ 31) : nI a = nI b ↔ a = b := by
  constructor
  · intro h
    have := congrArg Int32.toInt h
    rw [mI_toInt ha, mI_toInt hb] at this
    omega
  · intro h; rw [h]
theorem mI_clamp {a : Nat} (ha : a < 2 ^ 31) : (nI a).toNatClampNeg = a := by
  unfold Int32.toNatClampNeg
  rw [mI_toInt ha]
  rfl
theorem mI_add (a b : Nat) : nI a + nI b = nI (a + b) := by unfold nI; rw [Int32.ofNat_add]
theorem mI_succ (a : Nat) : nI a + 1 = nI (a + 1) := by unfold nI; rw [Int32.ofNat_add]; rfl
theorem mI_pred {a : Nat} (h : 0 < a) : nI a - 1 = nI (a - 1) := by
  have : nI a = nI (a - 1) + 1 := by rw [mI_succ]; congr 1; omega
  rw [this, Int32.add_sub_cancel]
theorem mI_z : nI 0 = 0 := rfl
theorem mI_ix {j n : Nat} (hj : j < n) (hn : n ≤ 2 ^ 31) : gIx (nI j) j n := ⟨mI_nonneg (by omega), mI_clamp (by omega), hj⟩
theorem i32_cases (i : Int32) : i < 0 ∨ ∃ j, j < 2 ^ 31 ∧ i = nI j := by
  by_cases h : i < 0
  · exact Or.inl h
  · refine Or.inr ⟨i.toNatClampNeg, ?_, ?_⟩
    · have := Int32.toInt_lt i
      unfold Int32.toNatClampNeg
      omega
    · apply Int32.toInt_inj.mp
      have h1 := Int32.toInt_lt i
      have h2 : ¬ i.toInt < 0 := by
        rw [Int32.lt_iff_toInt_lt] at h
        exact h
      rw [mI_toInt (by unfold Int32.toNatClampNeg; omega)]
      unfold Int32.toNatClampNeg
      omega
/-- the place that an int names, if it is none less than 0 -/
def pIx (i : Int32) : Option Nat := if i < 0 then none else some i.toNatClampNeg
theorem pIx_neg {i : Int32} (h : i < 0) : pIx i = none := if_pos h
theorem pIx_mI {j : Nat} (h : j < 2 ^ 31) : pIx (nI j) = some j := by unfold pIx; rw [if_neg (mI_nonneg h), mI_clamp h]
/-- -1, or a place -/
def oI : Option Nat → Int32
  | none => -1
  | some j => nI j
theorem pIx_oI {o : Option Nat} (h : ∀ j, o = some j → j < 2 ^ 31) : pIx (oI o) = o := by
  cases o with
  | none => exact pIx_neg (by decide)
  | some j => exact pIx_mI (h j rfl)
theorem oI_neg {o : Option Nat} (h : ∀ j, o = some j → j < 2 ^ 31) : oI o < 0 ↔ o = none := by
  cases o with
  | none => simp only [oI, iff_true]; decide
  | some j => simp only [oI]; exact ⟨fun q => absurd q (mI_nonneg (h j rfl)), fun q => by cases q⟩
end
section
/-! VALUE, what only reads: width, partAt, stepOf, placeOf, placeToAdd -/
def partsAt (im : gIm) (pr : Option Nat) (ch : Fo) : Prop := match pr with
  | none => kids ch = []
  | some pa => ∃ r', im pa = some (.inr (1, (kids ch).length, .inr r')) ∧ ∀ (j : Nat) (x : Int32 × Tr), (kids ch)[j]? = some x → ∃ b, r' j = some b ∧ isV im b x.2
theorem isV.node {im : gIm} {a : Nat} {t : Tr} (h : isV im a t) : ∃ kr pr, im a = some (.inl (8, [.int t.1, .int t.2.1, va_rf kr, va_rf pr, .int (nI (szT t)), .int (nI (dpT t))])) ∧ keysAt im kr t.1 t.2.2 ∧ partsAt im pr t.2.2 := by
  obtain ⟨kr, pr, h1, h2, h3⟩ := h
  refine ⟨kr, pr, h1, h2, ?_⟩
  rcases h3 with ⟨rfl, h⟩ | ⟨pa, r', rfl, h4, h5⟩
  · exact h
  · refine ⟨r', h4, fun j x hj => ?_⟩
    have := (isF_iff im r' t.2.2 0).mp h5 j x hj
    simpa using this
theorem isV.of {im : gIm} {a : Nat} {t : Tr} {kr pr : Option Nat} (h1 : im a = some (.inl (8, [.int t.1, .int t.2.1, va_rf kr, va_rf pr, .int (nI (szT t)), .int (nI (dpT t))]))) (h2 : keysAt im kr t.1 t.2.2) (h3 : partsAt im pr t.2.2) : isV im a t := by
  refine ⟨kr, pr, h1, h2, ?_⟩
  cases pr with
  | none => exact Or.inl ⟨rfl, h3⟩
  | some pa =>
    obtain ⟨r', h4, h5⟩ := h3
    exact Or.inr ⟨pa, r', rfl, h4, (isF_iff im r' t.2.2 0).mpr fun j x hj => by simpa using h5 j x hj⟩
/-- how wide, the child at a place, its step, the place of a step -/
def wd (t : Tr) : Nat := (kids t.2.2).length
def kid (t : Tr) (j : Nat) : Option Tr := (kids t.2.2)[j]?.map (·.2)
def partT (t : Tr) (i : Int32) : Option Tr := (pIx i).bind (kid t)
def stepT (t : Tr) (i : Int32) : Int32 := match pIx i with
  | none => i
  | some j => if t.1 = 4 then (match (kids t.2.2)[j]? with
    | some x => x.1
    | none => i) else i
def plc (s : Int32) : List (Int32 × Tr) → Nat → Option Nat
  | [], _ => none
  | x :: xs, j => if x.1 = s then some j else plc s xs (j + 1)
def placeT (t : Tr) (s : Int32) : Option Nat := if t.1 = 4 then plc s (kids t.2.2) 0 else (pIx s).filter (fun j => decide (j < wd t))
/-- no tree here is large -/
def sml (t : Tr) : Prop := szT t < 2 ^ 20
theorem sml.wd {t : Tr} (h : sml t) : wd t < 2 ^ 20 := by
  have := kids_len t.2.2
  unfold sml szT at h
  unfold _root_.Jvm.Pilot.CMarlStoreLaw_law_r1597_55c78a.wd
  omega
theorem sml.kid {t u : Tr} {j : Nat} (h : sml t) (hk : kid t j = some u) : sml u := by
  unfold _root_.Jvm.Pilot.CMarlStoreLaw_law_r1597_55c78a.kid at hk
  cases hx : (kids t.2.2)[j]? with
  | none => rw [hx] at hk; cases hk
  | some x =>
    rw [hx] at hk
    cases hk
    have := kids_lt t.2.2 x (List.mem_of_getElem? hx)
    unfold sml szT at h
    show szT x.2 < _
    omega
theorem plc_lt (s : Int32) : ∀ (xs : List (Int32 × Tr)) (j k : Nat), plc s xs j = some k → j ≤ k ∧ k < j + xs.length
  | [], j, k, h => by cases h
  | x :: xs, j, k, h => by
    rw [plc] at h
    split at h
    · cases h; simp
    · have := plc_lt s xs (j + 1) k h
      simp only [List.length_cons]; omega
theorem placeT_lt {t : Tr} {s : Int32} {j : Nat} (h : placeT t s = some j) : j < wd t := by
  unfold placeT at h
  split at h
  · have := plc_lt s _ 0 j h
    simpa [wd] using this.2
  · rw [Option.filter_eq_some_iff] at h
    simpa using h.2
abbrev mX8_width (d kc ks : Nat) : gM := (RX8, cX8_width, 1, (some .int), [], "width", d, kc, ks)
abbrev kX8_width (d kc ks : Nat) (as : List Value) (G : gG) (Q : Option Value → gG → Prop) (X : String → gG → Prop) : Prop := Ctr yX8_width cX8_width 1 (some .int) d kc ks as G Q X
theorem oX8_width {d kc ks : Nat} {as : List Value} {G : gG} {Q : Option Value → gG → Prop} {X : String → gG → Prop} {L : List (Option Value)} (hL : gEnt as = L) (hlen : (lg_sl as).length ≤ 1) (g : GW (mX8_width d kc ks) Q X G 0 0 0 L []) : kX8_width d kc ks as G Q X := Ctr.of (by decide +kernel) rfl rfl hL hlen g
theorem c_width {G : gG} {a : Nat} {t : Tr} (hv : isV G.1 a t) : kX8_width 0 0 0 [.ref a] G (ans G (fun w => w = .int (nI (wd t)))) noX := by
  obtain ⟨kr, pr, hn, hk, hp⟩ := hv.node
  have hn : gL G a (.inl (8, _)) := Or.inl hn
  refine oX8_width (L := [some (.ref a), none, none, none, none, none, none, none, none, none, none, none]) rfl (Nat.le_of_ble_eq_true rfl) ?_
  refine GW.aload0 dX8_width_0 (g := ?_)
  refine GW.getf fl_X8_22 dX8_width_1 (by assumption) (by rfl) ?_
  refine GW.ifnonnull (tgt := 11) dX8_width_4 (by decide) (fun r4 h4 => ?_) (fun h4 => ?_)
  · subst h4
    obtain ⟨r', hr, -⟩ := hp
    have hr : gL G r4 (.inr (1, _, .inr r')) := Or.inl hr
    refine GW.aload0 dX8_width_11 (g := ?_)
    refine GW.getf fl_X8_22 dX8_width_12 (by assumption) (by rfl) ?_
    refine GW.alen dX8_width_15 (by assumption) (by decide) rfl ?_
    refine GW.ireturn dX8_width_16 (Or.inl rfl) (by first | exact Nat.le_of_ble_eq_true rfl | exact Nat.le_refl _ | omega | (dsimp only [mX8_width, gM.dp, gM.kc, gM.ks]; omega)) (by first | exact Nat.le_of_ble_eq_true rfl | exact Nat.le_refl _ | omega | (dsimp only [mX8_width, gM.dp, gM.kc, gM.ks]; omega)) ?_
    exact ⟨_, rfl, rfl, rfl⟩
  · subst h4
    refine GW.iconst (v := 0) dX8_width_7 (by decide) ?_
    refine GW.goto (tgt := 16) dX8_width_8 (by decide) ?_
    refine GW.ireturn dX8_width_16 (Or.inl rfl) (by first | exact Nat.le_of_ble_eq_true rfl | exact Nat.le_refl _ | omega | (dsimp only [mX8_width, gM.dp, gM.kc, gM.ks]; omega)) (by first | exact Nat.le_of_ble_eq_true rfl | exact Nat.le_refl _ | omega | (dsimp only [mX8_width, gM.dp, gM.kc, gM.ks]; omega)) ?_
    refine ⟨_, rfl, rfl, ?_⟩
    have : kids t.2.2 = [] := hp
    rw [wd, this]
    rfl
abbrev mX8_partAt (d kc ks : Nat) : gM := (RX8, cX8_partAt, 2, (some (.object "MarlStore$Value")), [], "partAt", d, kc, ks)
abbrev kX8_partAt (d kc ks : Nat) (as : List Value) (G : gG) (Q : Option Value → gG → Prop) (X : String → gG → Prop) : Prop := Ctr yX8_partAt cX8_partAt 2 (some (.object "MarlStore$Value")) d kc ks as G Q X
theorem oX8_partAt {d kc ks : Nat} {as : List Value} {G : gG} {Q : Option Value → gG → Prop} {X : String → gG → Prop} {L : List (Option Value)} (hL : gEnt as = L) (hlen : (lg_sl as).length ≤ 2) (g : GW (mX8_partAt d kc ks) Q X G 0 0 0 L []) : kX8_partAt d kc ks as G Q X := Ctr.of (by decide +kernel) rfl rfl hL hlen g
theorem c_partAt {G : gG} {a : Nat} {t : Tr} (hv : isV G.1 a t) (hb : sml t) (i : Int32) : kX8_partAt 0 0 0 [.ref a, .int i] G (fun v G' => ∃ r, v = some (va_rf r) ∧ G = G' ∧ isO G.1 r (partT t i)) noX := by
  have hw := hb.wd
  obtain ⟨kr, pr, hn, hk, hp⟩ := hv.node
  have hn : gL G a (.inl (8, _)) := Or.inl hn
  refine oX8_partAt (L := [some (.ref a), some (.int i), none, none, none, none, none, none, none, none, none, none]) rfl (Nat.le_of_ble_eq_true rfl) ?_
  have out : partT t i = none → GW (mX8_partAt 0 0 0) (fun v G' => ∃ r, v = some (va_rf r) ∧ G = G' ∧ isO G.1 r (partT t i)) noX G 0 0 20 [some (.ref a), some (.int i), none, none, none, none, none, none, none, none, none, none] [] := by
    intro h
    refine GW.null dX8_partAt_20 ?_
    refine GW.areturn dX8_partAt_21 (Or.inl ⟨_, rfl⟩) (by first | exact Nat.le_of_ble_eq_true rfl | exact Nat.le_refl _ | omega | (dsimp only [mX8_partAt, gM.dp, gM.kc, gM.ks]; omega)) (by first | exact Nat.le_of_ble_eq_true rfl | exact Nat.le_refl _ | omega | (dsimp only [mX8_partAt, gM.dp, gM.kc, gM.ks]; omega)) ?_
    exact ⟨none, rfl, rfl, by rw [h]; trivial⟩
  refine GW.aload0 dX8_partAt_0 (g := ?_)
  refine GW.getf fl_X8_22 dX8_partAt_1 (by assumption) (by rfl) ?_
  refine GW.ifnull (tgt := 20) dX8_partAt_4 (by decide) (fun h4 => ?_) (fun r4 h4 => ?_)
  · subst h4
    refine out ?_
    have : kids t.2.2 = [] := hp
    unfold partT kid
    rw [this]
    cases pIx i <;> simp
  · subst h4
    obtain ⟨r', hr, hkid⟩ := hp
    have hr : gL G r4 (.inr (1, wd t, .inr r')) := Or.inl hr
    refine GW.iload1 dX8_partAt_7 ?_
    refine GW.if_lt (tgt := 20) dX8_partAt_8 (by decide) (fun h8 => ?_) (fun h8 => ?_)
    · exact out (by unfold partT; rw [pIx_neg h8]; rfl)
    · rcases i32_cases i with hi | ⟨j, hj, rfl⟩
      · exact absurd hi h8
      · refine GW.iload1 dX8_partAt_11 ?_
        refine GW.aload0 dX8_partAt_12 (g := ?_)
        refine GW.getf fl_X8_22 dX8_partAt_13 (by assumption) (by rfl) ?_
        refine GW.alen dX8_partAt_16 (by assumption) (by decide) rfl ?_
        refine GW.icmp_lt (tgt := 22) dX8_partAt_17 (by decide) (fun h17 => ?_) (fun h17 => ?_)
        · have hjw := (mI_lt hj (by omega)).mp h17
          have hix := mI_ix hjw (by omega)
          refine GW.aload0 dX8_partAt_22 (g := ?_)
          refine GW.getf fl_X8_22 dX8_partAt_23 (by assumption) (by rfl) ?_
          refine GW.iload1 dX8_partAt_26 ?_
          refine GW.aald dX8_partAt_27 (by assumption) (by assumption) (by decide) ?_
          refine GW.areturn dX8_partAt_28 (Or.inl ⟨_, rfl⟩) (by first | exact Nat.le_of_ble_eq_true rfl | exact Nat.le_refl _ | omega | (dsimp only [mX8_partAt, gM.dp, gM.kc, gM.ks]; omega)) (by first | exact Nat.le_of_ble_eq_true rfl | exact Nat.le_refl _ | omega | (dsimp only [mX8_partAt, gM.dp, gM.kc, gM.ks]; omega)) ?_
          refine ⟨_, rfl, rfl, ?_⟩
          obtain ⟨x, hx⟩ : ∃ x, (kids t.2.2)[j]? = some x := ⟨_, List.getElem?_eq_getElem hjw⟩
          obtain ⟨b, h1, h2⟩ := hkid j x hx
          unfold partT kid
          rw [pIx_mI hj, Option.bind_some, hx, h1]
          exact h2
        · refine out ?_
          have hjw : wd t ≤ j := by
            rcases Nat.lt_or_ge j (wd t) with q | q
            · exact absurd ((mI_lt hj (by omega)).mpr q) h17
            · exact q
          unfold partT kid
          rw [pIx_mI hj, Option.bind_some, List.getElem?_eq_none hjw]
          rfl
abbrev mX8_stepOf (d kc ks : Nat) : gM := (RX8, cX8_stepOf, 2, (some .int), [], "stepOf", d, kc, ks)
abbrev kX8_stepOf (d kc ks : Nat) (as : List Value) (G : gG) (Q : Option Value → gG → Prop) (X : String → gG → Prop) : Prop := Ctr yX8_stepOf cX8_stepOf 2 (some .int) d kc ks as G Q X
theorem oX8_stepOf {d kc ks : Nat} {as : List Value} {G : gG} {Q : Option Value → gG → Prop} {X : String → gG → Prop} {L : List (Option Value)} (hL : gEnt as = L) (hlen : (lg_sl as).length ≤ 2) (g : GW (mX8_stepOf d kc ks) Q X G 0 0 0 L []) : kX8_stepOf d kc ks as G Q X := Ctr.of (by decide +kernel) rfl rfl hL hlen g
theorem c_stepOf {G : gG} {a : Nat} {t : Tr} (hv : isV G.1 a t) (hb : sml t) (i : Int32) : kX8_stepOf 0 0 0 [.ref a, .int i] G (ans G (fun w => w = .int (stepT t i))) noX := by
  have hw := hb.wd
  obtain ⟨kr, pr, hn, hk, hp⟩ := hv.node
  have hn : gL G a (.inl (8, _)) := Or.inl hn
  refine oX8_stepOf (L := [some (.ref a), some (.int i), none, none, none, none, none, none, none, none, none, none]) rfl (Nat.le_of_ble_eq_true rfl) ?_
  have out : stepT t i = i → GW (mX8_stepOf 0 0 0) (ans G (fun w => w = .int (stepT t i))) noX G 0 0 20 [some (.ref a), some (.int i), none, none, none, none, none, none, none, none, none, none] [] := by
    intro h
    refine GW.iload1 dX8_stepOf_20 ?_
    refine GW.ireturn dX8_stepOf_21 (Or.inl rfl) (by first | exact Nat.le_of_ble_eq_true rfl | exact Nat.le_refl _ | omega | (dsimp only [mX8_stepOf, gM.dp, gM.kc, gM.ks]; omega)) (by first | exact Nat.le_of_ble_eq_true rfl | exact Nat.le_refl _ | omega | (dsimp only [mX8_stepOf, gM.dp, gM.kc, gM.ks]; omega)) ?_
    exact ⟨_, rfl, rfl, by rw [h]⟩
  refine GW.aload0 dX8_stepOf_0 (g := ?_)
  refine GW.getf fl_X8_18 dX8_stepOf_1 (by assumption) (by rfl) ?_
  refine GW.ifnull (tgt := 20) dX8_stepOf_4 (by decide) (fun h4 => ?_) (fun r4 h4 => ?_)
  · subst h4
    refine out ?_
    unfold stepT
    cases hi : pIx i with
    | none => rfl
    | some j =>
      rcases hk with hk | hk
      · simp only [if_neg hk]
      · simp only [hk]; simp
  · subst h4
    obtain ⟨hk4, f, hf, hfx⟩ := hk
    have hf : gL G r4 (.inr (0, wd t, .inl f)) := Or.inl hf
    refine GW.iload1 dX8_stepOf_7 ?_
    refine GW.if_lt (tgt := 20) dX8_stepOf_8 (by decide) (fun h8 => ?_) (fun h8 => ?_)
    · exact out (by unfold stepT; rw [pIx_neg h8])
    · rcases i32_cases i with hi | ⟨j, hj, rfl⟩
      · exact absurd hi h8
      · refine GW.iload1 dX8_stepOf_11 ?_
        refine GW.aload0 dX8_stepOf_12 (g := ?_)
        refine GW.getf fl_X8_18 dX8_stepOf_13 (by assumption) (by rfl) ?_
        refine GW.alen dX8_stepOf_16 (by assumption) (by decide) rfl ?_
        refine GW.icmp_lt (tgt := 22) dX8_stepOf_17 (by decide) (fun h17 => ?_) (fun h17 => ?_)
        · have hjw := (mI_lt hj (by omega)).mp h17
          have hix := mI_ix hjw (by omega)
          refine GW.aload0 dX8_stepOf_22 (g := ?_)
          refine GW.getf fl_X8_18 dX8_stepOf_23 (by assumption) (by rfl) ?_
          refine GW.iload1 dX8_stepOf_26 ?_
          refine GW.iald dX8_stepOf_27 (by assumption) (by assumption) ?_
          refine GW.ireturn dX8_stepOf_28 (Or.inl rfl) (by first | exact Nat.le_of_ble_eq_true rfl | exact Nat.le_refl _ | omega | (dsimp only [mX8_stepOf, gM.dp, gM.kc, gM.ks]; omega)) (by first | exact Nat.le_of_ble_eq_true rfl | exact Nat.le_refl _ | omega | (dsimp only [mX8_stepOf, gM.dp, gM.kc, gM.ks]; omega)) ?_
          refine ⟨_, rfl, rfl, ?_⟩
          obtain ⟨x, hx⟩ : ∃ x, (kids t.2.2)[j]? = some x := ⟨_, List.getElem?_eq_getElem hjw⟩
          unfold stepT
          rw [pIx_mI hj]
          simp only [if_pos hk4, hx]
          rw [hfx j x hx]
        · refine out ?_
          have hjw : wd t ≤ j := by
            rcases Nat.lt_or_ge j (wd t) with q | q
            · exact absurd ((mI_lt hj (by omega)).mpr q) h17
            · exact q
          unfold stepT
          rw [pIx_mI hj]
          have hz : (kids t.2.2)[j]? = none := List.getElem?_eq_none hjw
          simp only [hz]
          split <;> rfl
abbrev mX8_placeOf (d kc ks : Nat) : gM := (RX8, cX8_placeOf, 3, (some .int), [], "placeOf", d, kc, ks)
abbrev kX8_placeOf (d kc ks : Nat) (as : List Value) (G : gG) (Q : Option Value → gG → Prop) (X : String → gG → Prop) : Prop := Ctr yX8_placeOf cX8_placeOf 3 (some .int) d kc ks as G Q X
theorem oX8_placeOf {d kc ks : Nat} {as : List Value} {G : gG} {Q : Option Value → gG → Prop} {X : String → gG → Prop} {L : List (Option Value)} (hL : gEnt as = L) (hlen : (lg_sl as).length ≤ 3) (g : GW (mX8_placeOf d kc ks) Q X G 0 0 0 L []) : kX8_placeOf d kc ks as G Q X := Ctr.of (by decide +kernel) rfl rfl hL hlen g
theorem plc_step {s : Int32} {xs : List (Int32 × Tr)} {j : Nat} {x : Int32 × Tr} (h : xs[j]? = some x) : plc s (xs.drop j) j = if x.1 = s then some j else plc s (xs.drop (j + 1)) (j + 1) := by
  have hl : j < xs.length := (List.getElem?_eq_some_iff.mp h).1
  rw [List.drop_eq_getElem_cons hl, plc]
  have : xs[j] = x := (List.getElem?_eq_some_iff.mp h).2
  rw [this]
theorem c_placeOf {G : gG} {a : Nat} {t : Tr} (hv : isV G.1 a t) (hb : sml t) (s : Int32) : kX8_placeOf 0 0 0 [.ref a, .int s] G (ans G (fun w => w = .int (oI (placeT t s)))) noX := by
  have hw := hb.wd
  obtain ⟨kr, pr, hn, hk, hp⟩ := hv.node
  have hn : gL G a (.inl (8, _)) := Or.inl hn
  refine oX8_placeOf (L := [some (.ref a), some (.int s), none, none, none, none, none, none, none, none, none, none]) rfl (Nat.le_of_ble_eq_true rfl) ?_
  generalize hQ : ans G _ = Q
  refine GW.aload0 dX8_placeOf_0 (g := ?_)
  refine GW.getf fl_X8_9 dX8_placeOf_1 (by assumption) (by rfl) ?_
  refine GW.iconst (v := 4) dX8_placeOf_4 (by decide) ?_
  refine GW.icmp_eq (tgt := 34) dX8_placeOf_5 (by decide) (fun h5 => ?_) (fun h5 => ?_)
  · have hp4 : placeT t s = plc s (kids t.2.2) 0 := if_pos h5
    refine GW.iconst (v := 0) dX8_placeOf_34 (by decide) ?_
    refine GW.istore2 dX8_placeOf_35 (g := ?_)
    have key : ∀ (m j : Nat), j + m = wd t → plc s (kids t.2.2) 0 = plc s ((kids t.2.2).drop j) j → GW (mX8_placeOf 0 0 0) Q noX G 0 0 36 [some (.ref a), some (.int s), some (.int (nI j)), none, none, none, none, none, none, none, none, none] [] := by
      intro m
      induction m with
      | zero =>
        intro j hj hpl
        have hnone : placeT t s = none := by
          rw [hp4, hpl, List.drop_eq_nil_of_le (by unfold wd at hj; omega)]
          rfl
        refine GW.aload0 dX8_placeOf_36 (g := ?_)
        refine GW.getf fl_X8_18 dX8_placeOf_37 (by assumption) (by rfl) ?_
        refine GW.ifnull (tgt := 70) dX8_placeOf_40 (by decide) (fun h40 => ?_) (fun r40 h40 => ?_)
        · refine GW.iconst (v := -1) dX8_placeOf_70 (by decide) ?_
          refine GW.ireturn dX8_placeOf_71 (Or.inl rfl) (by first | exact Nat.le_of_ble_eq_true rfl | exact Nat.le_refl _ | omega | (dsimp only [mX8_placeOf, gM.dp, gM.kc, gM.ks]; omega)) (by first | exact Nat.le_of_ble_eq_true rfl | exact Nat.le_refl _ | omega | (dsimp only [mX8_placeOf, gM.dp, gM.kc, gM.ks]; omega)) ?_
          subst hQ
          exact ⟨_, rfl, rfl, by rw [hnone]; rfl⟩
        · subst h40
          obtain ⟨-, f, hf, hfx⟩ := hk
          have hf : gL G r40 (.inr (0, wd t, .inl f)) := Or.inl hf
          refine GW.iload2 dX8_placeOf_43 ?_
          refine GW.aload0 dX8_placeOf_44 (g := ?_)
          refine GW.getf fl_X8_18 dX8_placeOf_45 (by assumption) (by rfl) ?_
          refine GW.alen dX8_placeOf_48 (by assumption) (by decide) rfl ?_
          refine GW.icmp_ge (tgt := 70) dX8_placeOf_49 (by decide) (fun h49 => ?_) (fun h49 => ?_)
          · refine GW.iconst (v := -1) dX8_placeOf_70 (by decide) ?_
            refine GW.ireturn dX8_placeOf_71 (Or.inl rfl) (by first | exact Nat.le_of_ble_eq_true rfl | exact Nat.le_refl _ | omega | (dsimp only [mX8_placeOf, gM.dp, gM.kc, gM.ks]; omega)) (by first | exact Nat.le_of_ble_eq_true rfl | exact Nat.le_refl _ | omega | (dsimp only [mX8_placeOf, gM.dp, gM.kc, gM.ks]; omega)) ?_
            subst hQ
            exact ⟨_, rfl, rfl, by rw [hnone]; rfl⟩
          · exact absurd ((mI_le (by omega) (by omega)).mpr (by omega)) h49
      | succ m ih =>
        intro j hj hpl
        obtain ⟨x, hx⟩ : ∃ x, (kids t.2.2)[j]? = some x := ⟨_, List.getElem?_eq_getElem (by unfold wd at hj; omega)⟩
        rw [plc_step hx] at hpl
        refine GW.aload0 dX8_placeOf_36 (g := ?_)
        refine GW.getf fl_X8_18 dX8_placeOf_37 (by assumption) (by rfl) ?_
        refine GW.ifnull (tgt := 70) dX8_placeOf_40 (by decide) (fun h40 => ?_) (fun r40 h40 => ?_)
        · subst h40
          rcases hk with hk | hk
          · exact absurd h5 hk
          · rw [hk] at hx
            simp at hx
        · subst h40
          obtain ⟨-, f, hf, hfx⟩ := id hk
          have hf : gL G r40 (.inr (0, wd t, .inl f)) := Or.inl hf
          have hix : gIx (nI j) j (wd t) := mI_ix (by omega) (by omega)
          refine GW.iload2 dX8_placeOf_43 ?_
          refine GW.aload0 dX8_placeOf_44 (g := ?_)
          refine GW.getf fl_X8_18 dX8_placeOf_45 (by assumption) (by rfl) ?_
          refine GW.alen dX8_placeOf_48 (by assumption) (by decide) rfl ?_
          refine GW.icmp_ge (tgt := 70) dX8_placeOf_49 (by decide) (fun h49 => ?_) (fun h49 => ?_)
          · exact absurd ((mI_le (by omega) (by omega)).mp h49) (by omega)
          · refine GW.aload0 dX8_placeOf_52 (g := ?_)
            refine GW.getf fl_X8_18 dX8_placeOf_53 (by assumption) (by rfl) ?_
            refine GW.iload2 dX8_placeOf_56 ?_
            refine GW.iald dX8_placeOf_57 (by assumption) (by assumption) ?_
            refine GW.iload1 dX8_placeOf_58 ?_
            rw [hfx j x hx]
            refine GW.icmp_ne (tgt := 64) dX8_placeOf_59 (by decide) (fun h59 => ?_) (fun h59 => ?_)
            · rw [if_neg h59] at hpl
              refine GW.inc2 dX8_placeOf_64 (g := ?_)
              refine GW.goto (tgt := 36) dX8_placeOf_67 (by decide) ?_
              rw [mI_succ]
              exact ih (j + 1) (by omega) hpl
            · rw [if_pos h59] at hpl
              refine GW.iload2 dX8_placeOf_62 ?_
              refine GW.ireturn dX8_placeOf_63 (Or.inl rfl) (by first | exact Nat.le_of_ble_eq_true rfl | exact Nat.le_refl _ | omega | (dsimp only [mX8_placeOf, gM.dp, gM.kc, gM.ks]; omega)) (by first | exact Nat.le_of_ble_eq_true rfl | exact Nat.le_refl _ | omega | (dsimp only [mX8_placeOf, gM.dp, gM.kc, gM.ks]; omega)) ?_
              subst hQ
              exact ⟨_, rfl, rfl, by rw [hp4, hpl]; rfl⟩
    exact key (wd t) 0 (by omega) (by rw [List.drop_zero])
  · have hp4 : placeT t s = (pIx s).filter (fun j => decide (j < wd t)) := if_neg h5
    have out : placeT t s = none → GW (mX8_placeOf 0 0 0) Q noX G 0 0 32 [some (.ref a), some (.int s), none, none, none, none, none, none, none, none, none, none] [] := by
      intro h
      refine GW.iconst (v := -1) dX8_placeOf_32 (by decide) ?_
      refine GW.ireturn dX8_placeOf_33 (Or.inl rfl) (by first | exact Nat.le_of_ble_eq_true rfl | exact Nat.le_refl _ | omega | (dsimp only [mX8_placeOf, gM.dp, gM.kc, gM.ks]; omega)) (by first | exact Nat.le_of_ble_eq_true rfl | exact Nat.le_refl _ | omega | (dsimp only [mX8_placeOf, gM.dp, gM.kc, gM.ks]; omega)) ?_
      subst hQ
      exact ⟨_, rfl, rfl, by rw [h]; rfl⟩
    refine GW.aload0 dX8_placeOf_8 (g := ?_)
    refine GW.getf fl_X8_22 dX8_placeOf_9 (by assumption) (by rfl) ?_
    refine GW.ifnull (tgt := 32) dX8_placeOf_12 (by decide) (fun h12 => ?_) (fun r12 h12 => ?_)
    · subst h12
      refine out ?_
      have : kids t.2.2 = [] := hp
      have hz : wd t = 0 := by unfold wd; rw [this]; rfl
      rw [hp4, hz]
      cases pIx s <;> simp
    · subst h12
      obtain ⟨r', hr, hkid⟩ := hp
      have hr : gL G r12 (.inr (1, wd t, .inr r')) := Or.inl hr
      refine GW.iload1 dX8_placeOf_15 ?_
      refine GW.if_lt (tgt := 32) dX8_placeOf_16 (by decide) (fun h16 => ?_) (fun h16 => ?_)
      · exact out (by rw [hp4, pIx_neg h16]; rfl)
      · rcases i32_cases s with hi | ⟨j, hj, rfl⟩
        · exact absurd hi h16
        · refine GW.iload1 dX8_placeOf_19 ?_
          refine GW.aload0 dX8_placeOf_20 (g := ?_)
          refine GW.getf fl_X8_22 dX8_placeOf_21 (by assumption) (by rfl) ?_
          refine GW.alen dX8_placeOf_24 (by assumption) (by decide) rfl ?_
          refine GW.icmp_ge (tgt := 32) dX8_placeOf_25 (by decide) (fun h25 => ?_) (fun h25 => ?_)
          · have hjw := (mI_le (by omega) hj).mp h25
            exact out (by rw [hp4, pIx_mI hj]; simp; omega)
          · have hjw : j < wd t := by
              rcases Nat.lt_or_ge j (wd t) with q | q
              · exact q
              · exact absurd ((mI_le (by omega) hj).mpr q) h25
            refine GW.iload1 dX8_placeOf_28 ?_
            refine GW.goto (tgt := 33) dX8_placeOf_29 (by decide) ?_
            refine GW.ireturn dX8_placeOf_33 (Or.inl rfl) (by first | exact Nat.le_of_ble_eq_true rfl | exact Nat.le_refl _ | omega | (dsimp only [mX8_placeOf, gM.dp, gM.kc, gM.ks]; omega)) (by first | exact Nat.le_of_ble_eq_true rfl | exact Nat.le_refl _ | omega | (dsimp only [mX8_placeOf, gM.dp, gM.kc, gM.ks]; omega)) ?_
            subst hQ
            refine ⟨_, rfl, rfl, ?_⟩
            rw [hp4, pIx_mI hj]
            rw [show (some j).filter (fun j => decide (j < wd t)) = some j from by simp [hjw]]
            rfl
end
section
/-! VALUE, more that only reads: placeToAdd, below, areSame, isSameAs -/
def ins (s : Int32) : List (Int32 × Tr) → Nat → Nat
  | [], j => j
  | x :: xs, j => if x.1 < s then ins s xs (j + 1) else j
def addT (t : Tr) (s : Int32) : Option Nat :=
  if t.1 = 3 then (pIx s).filter (fun j => decide (j ≤ wd t)) else if t.1 = 4 ∧ ¬ s < 0 ∧ ¬ 99 < s ∧ placeT t s = none then some (ins s (kids t.2.2) 0) else none
theorem ins_step {s : Int32} {xs : List (Int32 × Tr)} {j : Nat} {x : Int32 × Tr} (h : xs[j]? = some x) : ins s (xs.drop j) j = if x.1 < s then ins s (xs.drop (j + 1)) (j + 1) else j := by
  have hl : j < xs.length := (List.getElem?_eq_some_iff.mp h).1
  rw [List.drop_eq_getElem_cons hl, ins]
  have : xs[j] = x := (List.getElem?_eq_some_iff.mp h).2
  rw [this]
theorem ins_le (s : Int32) : ∀ (xs : List (Int32 × Tr)) (j : Nat), j ≤ ins s xs j ∧ ins s xs j ≤ j + xs.length
  | [], j => by simp [ins]
  | x :: xs, j => by
    rw [ins]
    have := ins_le s xs (j + 1)
    split
    · simp only [List.length_cons]; omega
    · simp
theorem addT_le {t : Tr} {s : Int32} {j : Nat} (h : addT t s = some j) : j ≤ wd t := by
  unfold addT at h
  split at h
  · rw [Option.filter_eq_some_iff] at h
    simpa using h.2
  · split at h
    · cases h
      have := ins_le s (kids t.2.2) 0
      unfold wd; omega
    · cases h
/-- one step down, a path down -/
def stp (t : Tr) (s : Int32) : Option Tr := (placeT t s).bind (kid t)
def belT : Tr → List Int32 → Option Tr
  | t, [] => some t
  | t, s :: r => (stp t s).bind (fun u => belT u r)
theorem partT_placeT {t : Tr} (hb : sml t) (s : Int32) : partT t (oI (placeT t s)) = stp t s := by
  unfold partT stp
  rw [pIx_oI fun j h => by have := placeT_lt h; have := hb.wd; omega]
theorem kid_some {t : Tr} {j : Nat} {x : Int32 × Tr} (h : (kids t.2.2)[j]? = some x) : kid t j = some x.2 := by unfold kid; rw [h]; rfl
abbrev mX8_placeToAdd (d kc ks : Nat) : gM := (RX8, cX8_placeToAdd, 3, (some .int), [], "placeToAdd", d, kc, ks)
abbrev kX8_placeToAdd (d kc ks : Nat) (as : List Value) (G : gG) (Q : Option Value → gG → Prop) (X : String → gG → Prop) : Prop := Ctr yX8_placeToAdd cX8_placeToAdd 3 (some .int) d kc ks as G Q X
theorem oX8_placeToAdd {d kc ks : Nat} {as : List Value} {G : gG} {Q : Option Value → gG → Prop} {X : String → gG → Prop} {L : List (Option Value)} (hL : gEnt as = L) (hlen : (lg_sl as).length ≤ 3) (g : GW (mX8_placeToAdd d kc ks) Q X G 0 0 0 L []) : kX8_placeToAdd d kc ks as G Q X := Ctr.of (by decide +kernel) rfl rfl hL hlen g
theorem c_placeToAdd {G : gG} {a : Nat} {t : Tr} (hv : isV G.1 a t) (hb : sml t) (s : Int32) : kX8_placeToAdd 1 0 0 [.ref a, .int s] G (ans G (fun w => w = .int (oI (addT t s)))) noX := by
  have hw := hb.wd
  obtain ⟨kr, pr, hn, hk, hp⟩ := hv.node
  have hn : gL G a (.inl (8, _)) := Or.inl hn
  refine oX8_placeToAdd (L := [some (.ref a), some (.int s), none, none, none, none, none, none, none, none, none, none]) rfl (Nat.le_of_ble_eq_true rfl) ?_
  generalize hQ : ans G _ = Q
  refine GW.aload0 dX8_placeToAdd_0 (g := ?_)
  refine GW.getf fl_X8_9 dX8_placeToAdd_1 (by assumption) (by rfl) ?_
  refine GW.iconst (v := 3) dX8_placeToAdd_4 (by decide) ?_
  refine GW.icmp_ne (tgt := 26) dX8_placeToAdd_5 (by decide) (fun h5 => ?_) (fun h5 => ?_)
  · have no4 : addT t s = if t.1 = 4 ∧ ¬ s < 0 ∧ ¬ 99 < s ∧ placeT t s = none then some (ins s (kids t.2.2) 0) else none := if_neg h5
    have out : addT t s = none → GW (mX8_placeToAdd 1 0 0) Q noX G 0 0 52 [some (.ref a), some (.int s), none, none, none, none, none, none, none, none, none, none] [] := by
      intro h
      refine GW.iconst (v := -1) dX8_placeToAdd_52 (by decide) ?_
      refine GW.ireturn dX8_placeToAdd_53 (Or.inl rfl) (by first | exact Nat.le_of_ble_eq_true rfl | exact Nat.le_refl _ | omega | (dsimp only [mX8_placeToAdd, gM.dp, gM.kc, gM.ks]; omega)) (by first | exact Nat.le_of_ble_eq_true rfl | exact Nat.le_refl _ | omega | (dsimp only [mX8_placeToAdd, gM.dp, gM.kc, gM.ks]; omega)) ?_
      subst hQ
      exact ⟨_, rfl, rfl, by rw [h]; rfl⟩
    refine GW.aload0 dX8_placeToAdd_26 (g := ?_)
    refine GW.getf fl_X8_9 dX8_placeToAdd_27 (by assumption) (by rfl) ?_
    refine GW.iconst (v := 4) dX8_placeToAdd_30 (by decide) ?_
    refine GW.icmp_ne (tgt := 52) dX8_placeToAdd_31 (by decide) (fun h31 => ?_) (fun h31 => ?_)
    · exact out (by rw [no4, if_neg (fun q => h31 q.1)])
    · refine GW.iload1 dX8_placeToAdd_34 ?_
      refine GW.if_lt (tgt := 52) dX8_placeToAdd_35 (by decide) (fun h35 => ?_) (fun h35 => ?_)
      · exact out (by rw [no4, if_neg (fun q => q.2.1 h35)])
      · refine GW.iload1 dX8_placeToAdd_38 ?_
        refine GW.bipush (v := 99) dX8_placeToAdd_39 (by decide) ?_
        refine GW.icmp_gt (tgt := 52) dX8_placeToAdd_41 (by decide) (fun h41 => ?_) (fun h41 => ?_)
        · exact out (by rw [no4, if_neg (fun q => q.2.2.1 h41)])
        · refine GW.aload0 dX8_placeToAdd_44 (g := ?_)
          refine GW.iload1 dX8_placeToAdd_45 ?_
          refine GW.callV0 cv_X8_42 mt_X8_placeOf (c_placeOf hv hb s) dX8_placeToAdd_46 (by assumption) rfl rfl rfl rfl (by first | exact Nat.le_of_ble_eq_true rfl | exact Nat.le_refl _ | omega | (dsimp only [mX8_placeToAdd, gM.dp, gM.kc, gM.ks]; omega)) (by decide) (by first | exact Nat.le_of_ble_eq_true rfl | exact Nat.le_refl _ | omega | (dsimp only [mX8_placeToAdd, gM.dp, gM.kc, gM.ks]; omega)) (by first | exact Nat.le_of_ble_eq_true rfl | exact Nat.le_refl _ | omega | (dsimp only [mX8_placeToAdd, gM.dp, gM.kc, gM.ks]; omega)) (by first | exact Nat.le_of_ble_eq_true rfl | (simp [va_rf_cat]; done) | (simp [va_rf_cat, Value.category]; done)) rfl (fun _ _ h => h.elim) (fun v46 G46 hq => ?_)
          obtain ⟨w, rfl, rfl, rfl⟩ := hq
          refine GW.if_lt (tgt := 54) dX8_placeToAdd_49 (by decide) (fun h49 => ?_) (fun h49 => ?_)
          · have hpn : placeT t s = none := (oI_neg fun j h => by have := placeT_lt h; omega).mp h49
            have hyes : addT t s = some (ins s (kids t.2.2) 0) := by rw [no4, if_pos ⟨h31, h35, h41, hpn⟩]
            refine GW.iconst (v := 0) dX8_placeToAdd_54 (by decide) ?_
            refine GW.istore2 dX8_placeToAdd_55 (g := ?_)
            have key : ∀ (m j : Nat), j + m = wd t → ins s (kids t.2.2) 0 = ins s ((kids t.2.2).drop j) j → GW (mX8_placeToAdd 1 0 0) Q noX G 0 0 56 [some (.ref a), some (.int s), some (.int (nI j)), none, none, none, none, none, none, none, none, none] [] := by
              have fin : ∀ j, ins s (kids t.2.2) 0 = j → GW (mX8_placeToAdd 1 0 0) Q noX G 0 0 88 [some (.ref a), some (.int s), some (.int (nI j)), none, none, none, none, none, none, none, none, none] [] := by
                intro j hj
                refine GW.iload2 dX8_placeToAdd_88 ?_
                refine GW.ireturn dX8_placeToAdd_89 (Or.inl rfl) (by first | exact Nat.le_of_ble_eq_true rfl | exact Nat.le_refl _ | omega | (dsimp only [mX8_placeToAdd, gM.dp, gM.kc, gM.ks]; omega)) (by first | exact Nat.le_of_ble_eq_true rfl | exact Nat.le_refl _ | omega | (dsimp only [mX8_placeToAdd, gM.dp, gM.kc, gM.ks]; omega)) ?_
                subst hQ
                exact ⟨_, rfl, rfl, by rw [hyes, hj]; rfl⟩
              intro m
              induction m with
              | zero =>
                intro j hj hpl
                have hnil : ins s (kids t.2.2) 0 = j := by
                  rw [hpl, List.drop_eq_nil_of_le (by unfold wd at hj; omega)]
                  rfl
                refine GW.aload0 dX8_placeToAdd_56 (g := ?_)
                refine GW.getf fl_X8_18 dX8_placeToAdd_57 (by assumption) (by rfl) ?_
                refine GW.ifnull (tgt := 88) dX8_placeToAdd_60 (by decide) (fun h60 => ?_) (fun r60 h60 => ?_)
                · exact fin j hnil
                · subst h60
                  obtain ⟨-, f, hf, hfx⟩ := hk
                  have hf : gL G r60 (.inr (0, wd t, .inl f)) := Or.inl hf
                  refine GW.iload2 dX8_placeToAdd_63 ?_
                  refine GW.aload0 dX8_placeToAdd_64 (g := ?_)
                  refine GW.getf fl_X8_18 dX8_placeToAdd_65 (by assumption) (by rfl) ?_
                  refine GW.alen dX8_placeToAdd_68 (by assumption) (by decide) rfl ?_
                  refine GW.icmp_ge (tgt := 88) dX8_placeToAdd_69 (by decide) (fun h69 => ?_) (fun h69 => ?_)
                  · exact fin j hnil
                  · exact absurd ((mI_le (by omega) (by omega)).mpr (by omega)) h69
              | succ m ih =>
                intro j hj hpl
                obtain ⟨x, hx⟩ : ∃ x, (kids t.2.2)[j]? = some x := ⟨_, List.getElem?_eq_getElem (by unfold wd at hj; omega)⟩
                rw [ins_step hx] at hpl
                refine GW.aload0 dX8_placeToAdd_56 (g := ?_)
                refine GW.getf fl_X8_18 dX8_placeToAdd_57 (by assumption) (by rfl) ?_
                refine GW.ifnull (tgt := 88) dX8_placeToAdd_60 (by decide) (fun h60 => ?_) (fun r60 h60 => ?_)
                · subst h60
                  rcases hk with hk | hk
                  · exact absurd h31 hk
                  · rw [hk] at hx
                    simp at hx
                · subst h60
                  obtain ⟨-, f, hf, hfx⟩ := id hk
                  have hf : gL G r60 (.inr (0, wd t, .inl f)) := Or.inl hf
                  have hix : gIx (nI j) j (wd t) := mI_ix (by omega) (by omega)
                  refine GW.iload2 dX8_placeToAdd_63 ?_
                  refine GW.aload0 dX8_placeToAdd_64 (g := ?_)
                  refine GW.getf fl_X8_18 dX8_placeToAdd_65 (by assumption) (by rfl) ?_
                  refine GW.alen dX8_placeToAdd_68 (by assumption) (by decide) rfl ?_
                  refine GW.icmp_ge (tgt := 88) dX8_placeToAdd_69 (by decide) (fun h69 => ?_) (fun h69 => ?_)
                  · exact absurd ((mI_le (by omega) (by omega)).mp h69) (by omega)
                  · refine GW.aload0 dX8_placeToAdd_72 (g := ?_)
                    refine GW.getf fl_X8_18 dX8_placeToAdd_73 (by assumption) (by rfl) ?_
                    refine GW.iload2 dX8_placeToAdd_76 ?_
                    refine GW.iald dX8_placeToAdd_77 (by assumption) (by assumption) ?_
                    refine GW.iload1 dX8_placeToAdd_78 ?_
                    rw [hfx j x hx]
                    refine GW.icmp_ge (tgt := 88) dX8_placeToAdd_79 (by decide) (fun h79 => ?_) (fun h79 => ?_)
                    · rw [if_neg (Int32.not_lt.mpr h79)] at hpl
                      exact fin j hpl
                    · rw [if_pos (Int32.not_le.mp h79)] at hpl
                      refine GW.inc2 dX8_placeToAdd_82 (g := ?_)
                      refine GW.goto (tgt := 56) dX8_placeToAdd_85 (by decide) ?_
                      rw [mI_succ]
                      exact ih (j + 1) (by omega) hpl
            exact key (wd t) 0 (by omega) (by rw [List.drop_zero])
          · exact out (by rw [no4, if_neg (fun q => h49 ((oI_neg fun j h => by have := placeT_lt h; omega).mpr q.2.2.2))])
  · have h5 : t.1 = 3 := h5
    have yes3 : addT t s = (pIx s).filter (fun j => decide (j ≤ wd t)) := if_pos h5
    have out : addT t s = none → GW (mX8_placeToAdd 1 0 0) Q noX G 0 0 24 [some (.ref a), some (.int s), none, none, none, none, none, none, none, none, none, none] [] := by
      intro h
      refine GW.iconst (v := -1) dX8_placeToAdd_24 (by decide) ?_
      refine GW.ireturn dX8_placeToAdd_25 (Or.inl rfl) (by first | exact Nat.le_of_ble_eq_true rfl | exact Nat.le_refl _ | omega | (dsimp only [mX8_placeToAdd, gM.dp, gM.kc, gM.ks]; omega)) (by first | exact Nat.le_of_ble_eq_true rfl | exact Nat.le_refl _ | omega | (dsimp only [mX8_placeToAdd, gM.dp, gM.kc, gM.ks]; omega)) ?_
      subst hQ
      exact ⟨_, rfl, rfl, by rw [h]; rfl⟩
    refine GW.iload1 dX8_placeToAdd_8 ?_
    refine GW.if_lt (tgt := 24) dX8_placeToAdd_9 (by decide) (fun h9 => ?_) (fun h9 => ?_)
    · exact out (by rw [yes3, pIx_neg h9]; rfl)
    · refine GW.iload1 dX8_placeToAdd_12 ?_
      refine GW.aload0 dX8_placeToAdd_13 (g := ?_)
      refine GW.callV0 cv_X8_38 mt_X8_width (c_width hv) dX8_placeToAdd_14 (by assumption) rfl rfl rfl rfl (by first | exact Nat.le_of_ble_eq_true rfl | exact Nat.le_refl _ | omega | (dsimp only [mX8_placeToAdd, gM.dp, gM.kc, gM.ks]; omega)) (by decide) (by first | exact Nat.le_of_ble_eq_true rfl | exact Nat.le_refl _ | omega | (dsimp only [mX8_placeToAdd, gM.dp, gM.kc, gM.ks]; omega)) (by first | exact Nat.le_of_ble_eq_true rfl | exact Nat.le_refl _ | omega | (dsimp only [mX8_placeToAdd, gM.dp, gM.kc, gM.ks]; omega)) (by first | exact Nat.le_of_ble_eq_true rfl | (simp [va_rf_cat]; done) | (simp [va_rf_cat, Value.category]; done)) rfl (fun _ _ h => h.elim) (fun v14 G14 hq => ?_)
      obtain ⟨w, rfl, rfl, rfl⟩ := hq
      rcases i32_cases s with hi | ⟨j, hj, rfl⟩
      · exact absurd hi h9
      · refine GW.icmp_gt (tgt := 24) dX8_placeToAdd_17 (by decide) (fun h17 => ?_) (fun h17 => ?_)
        · have hjw := (mI_lt (by omega) hj).mp h17
          refine out ?_
          rw [yes3, pIx_mI hj]
          simp; omega
        · have hjw : j ≤ wd t := by
            rcases Nat.lt_or_ge (wd t) j with q | q
            · exact absurd ((mI_lt (by omega) hj).mpr q) h17
            · exact q
          refine GW.iload1 dX8_placeToAdd_20 ?_
          refine GW.goto (tgt := 25) dX8_placeToAdd_21 (by decide) ?_
          refine GW.ireturn dX8_placeToAdd_25 (Or.inl rfl) (by first | exact Nat.le_of_ble_eq_true rfl | exact Nat.le_refl _ | omega | (dsimp only [mX8_placeToAdd, gM.dp, gM.kc, gM.ks]; omega)) (by first | exact Nat.le_of_ble_eq_true rfl | exact Nat.le_refl _ | omega | (dsimp only [mX8_placeToAdd, gM.dp, gM.kc, gM.ks]; omega)) ?_
          subst hQ
          refine ⟨_, rfl, rfl, ?_⟩
          rw [yes3, pIx_mI hj, show (some j).filter (fun j => decide (j ≤ wd t)) = some j from by simp [hjw]]
          rfl
/-- n steps of a row, from the place i on -/
def stps (f : Nat → Int32) (i n : Nat) : List Int32 := (List.range' i n).map f
theorem stps_succ (f : Nat → Int32) (i n : Nat) : stps f i (n + 1) = f i :: stps f (i + 1) n := by unfold stps; rw [List.range'_succ]; rfl
abbrev mX8_below (d kc ks : Nat) : gM := (RX8, cX8_below, 5, (some (.object "MarlStore$Value")), [], "below", d, kc, ks)
abbrev kX8_below (d kc ks : Nat) (as : List Value) (G : gG) (Q : Option Value → gG → Prop) (X : String → gG → Prop) : Prop := Ctr yX8_below cX8_below 5 (some (.object "MarlStore$Value")) d kc ks as G Q X
theorem oX8_below {d kc ks : Nat} {as : List Value} {G : gG} {Q : Option Value → gG → Prop} {X : String → gG → Prop} {L : List (Option Value)} (hL : gEnt as = L) (hlen : (lg_sl as).length ≤ 5) (g : GW (mX8_below d kc ks) Q X G 0 0 0 L []) : kX8_below d kc ks as G Q X := Ctr.of (by decide +kernel) rfl rfl hL hlen g
theorem c_below {G : gG} {a pa N n : Nat} {t : Tr} {f : Nat → Int32} (hv : isV G.1 a t) (hb : sml t) (hpa : gL G pa (.inr (0, N, .inl f))) (hn : n ≤ N) (hN : N < 2 ^ 20) : kX8_below 1 0 0 [.ref a, .ref pa, .int (nI n)] G (fun v G' => ∃ r, v = some (va_rf r) ∧ G = G' ∧ isO G.1 r (belT t (stps f 0 n))) noX := by
  refine oX8_below (L := [some (.ref a), some (.ref pa), some (.int (nI n)), none, none, none, none, none, none, none, none, none]) rfl (Nat.le_of_ble_eq_true rfl) ?_
  generalize hQ : (fun (v : Option Value) (G' : gG) => ∃ r, v = some (va_rf r) ∧ G = G' ∧ isO G.1 r (belT t (stps f 0 n))) = Q
  refine GW.aload0 dX8_below_0 (g := ?_)
  refine GW.astore3 dX8_below_1 (g := ?_)
  refine GW.iconst (v := 0) dX8_below_2 (by decide) ?_
  refine GW.istore4 dX8_below_3 (g := ?_)
  have fin : ∀ (r : Option Nat) (i : Nat), isO G.1 r (belT t (stps f 0 n)) → GW (mX8_below 1 0 0) Q noX G 0 0 41 [some (.ref a), some (.ref pa), some (.int (nI n)), some (va_rf r), some (.int (nI i)), none, none, none, none, none, none, none] [] := by
    intro r i h
    refine GW.aload3 dX8_below_41 (g := ?_)
    refine GW.areturn dX8_below_42 (Or.inl ⟨_, rfl⟩) (by first | exact Nat.le_of_ble_eq_true rfl | exact Nat.le_refl _ | omega | (dsimp only [mX8_below, gM.dp, gM.kc, gM.ks]; omega)) (by first | exact Nat.le_of_ble_eq_true rfl | exact Nat.le_refl _ | omega | (dsimp only [mX8_below, gM.dp, gM.kc, gM.ks]; omega)) ?_
    subst hQ
    exact ⟨r, rfl, rfl, h⟩
  have key : ∀ (m i : Nat) (r : Option Nat) (o : Option Tr), i + m = n → isO G.1 r o → (∀ u, o = some u → sml u) → belT t (stps f 0 n) = o.bind (fun u => belT u (stps f i m)) → GW (mX8_below 1 0 0) Q noX G 0 0 5 [some (.ref a), some (.ref pa), some (.int (nI n)), some (va_rf r), some (.int (nI i)), none, none, none, none, none, none, none] [] := by
    intro m
    induction m with
    | zero =>
      intro i r o hi hr hs he
      have he : belT t (stps f 0 n) = o := by
        rw [he]
        cases o <;> rfl
      refine GW.iload4 dX8_below_5 ?_
      refine GW.iload2 dX8_below_7 ?_
      refine GW.icmp_ge (tgt := 41) dX8_below_8 (by decide) (fun h8 => ?_) (fun h8 => ?_)
      · exact fin r i (by rw [he]; exact hr)
      · exact absurd ((mI_le (by omega) (by omega)).mpr (by omega)) h8
    | succ m ih =>
      intro i r o hi hr hs he
      refine GW.iload4 dX8_below_5 ?_
      refine GW.iload2 dX8_below_7 ?_
      refine GW.icmp_ge (tgt := 41) dX8_below_8 (by decide) (fun h8 => ?_) (fun h8 => ?_)
      · exact absurd ((mI_le (by omega) (by omega)).mp h8) (by omega)
      · refine GW.iload4 dX8_below_11 ?_
        refine GW.aload1 dX8_below_13 (g := ?_)
        refine GW.alen dX8_below_14 (by assumption) (by decide) rfl ?_
        refine GW.icmp_ge (tgt := 41) dX8_below_15 (by decide) (fun h15 => ?_) (fun h15 => ?_)
        · exact absurd ((mI_le (by omega) (by omega)).mp h15) (by omega)
        · refine GW.aload3 dX8_below_18 (g := ?_)
          refine GW.ifnull (tgt := 41) dX8_below_19 (by decide) (fun h19 => ?_) (fun r19 h19 => ?_)
          · subst h19
            cases o with
            | some u => exact hr.elim
            | none => exact fin none i (by rw [he]; trivial)
          · subst h19
            cases o with
            | none => exact hr.elim
            | some u =>
              have hr : isV G.1 r19 u := hr
              obtain ⟨kr, pr, hnd, -, -⟩ := hr.node
              have hnd : gL G r19 (.inl (8, _)) := Or.inl hnd
              have hix : gIx (nI i) i N := mI_ix (by omega) (by omega)
              refine GW.aload3 dX8_below_22 (g := ?_)
              refine GW.aload3 dX8_below_23 (g := ?_)
              refine GW.aload1 dX8_below_24 (g := ?_)
              refine GW.iload4 dX8_below_25 ?_
              refine GW.iald dX8_below_27 (by assumption) (by assumption) ?_
              refine GW.callV0 cv_X8_42 mt_X8_placeOf (c_placeOf hr (hs u rfl) (f i)) dX8_below_28 (by assumption) rfl rfl rfl rfl (by first | exact Nat.le_of_ble_eq_true rfl | exact Nat.le_refl _ | omega | (dsimp only [mX8_below, gM.dp, gM.kc, gM.ks]; omega)) (by decide) (by first | exact Nat.le_of_ble_eq_true rfl | exact Nat.le_refl _ | omega | (dsimp only [mX8_below, gM.dp, gM.kc, gM.ks]; omega)) (by first | exact Nat.le_of_ble_eq_true rfl | exact Nat.le_refl _ | omega | (dsimp only [mX8_below, gM.dp, gM.kc, gM.ks]; omega)) (by first | exact Nat.le_of_ble_eq_true rfl | (simp [va_rf_cat]; done) | (simp [va_rf_cat, Value.category]; done)) rfl (fun _ _ h => h.elim) (fun v28 G28 hq => ?_)
              obtain ⟨w, rfl, rfl, rfl⟩ := hq
              refine GW.callV0 cv_X8_46 mt_X8_partAt (c_partAt hr (hs u rfl) (oI (placeT u (f i)))) dX8_below_31 (by assumption) rfl rfl rfl rfl (by first | exact Nat.le_of_ble_eq_true rfl | exact Nat.le_refl _ | omega | (dsimp only [mX8_below, gM.dp, gM.kc, gM.ks]; omega)) (by decide) (by first | exact Nat.le_of_ble_eq_true rfl | exact Nat.le_refl _ | omega | (dsimp only [mX8_below, gM.dp, gM.kc, gM.ks]; omega)) (by first | exact Nat.le_of_ble_eq_true rfl | exact Nat.le_refl _ | omega | (dsimp only [mX8_below, gM.dp, gM.kc, gM.ks]; omega)) (by first | exact Nat.le_of_ble_eq_true rfl | (simp [va_rf_cat]; done) | (simp [va_rf_cat, Value.category]; done)) rfl (fun _ _ h => h.elim) (fun v31 G31 hq => ?_)
              obtain ⟨r', rfl, rfl, hq⟩ := hq
              rw [partT_placeT (hs u rfl)] at hq
              refine GW.astore3 dX8_below_34 (g := ?_)
              refine GW.inc4 dX8_below_35 (g := ?_)
              refine GW.goto (tgt := 5) dX8_below_38 (by decide) ?_
              rw [mI_succ]
              refine ih (i + 1) r' (stp u (f i)) (by omega) hq ?_ ?_
              · intro u' hu'
                unfold stp at hu'
                cases hpl : placeT u (f i) with
                | none => rw [hpl] at hu'; cases hu'
                | some j => rw [hpl] at hu'; exact (hs u rfl).kid hu'
              · rw [he, stps_succ]
                rfl
  exact key n 0 (some a) (some t) (by omega) hv (fun u h => by cases h; exact hb) rfl
end
section
/-! what a right tree is; one address, one tree; areSame, isSameAs -/
/-- the keys of an OBJECT rise, and lie from 0 to 99 -/
def keysOk (xs : List (Int32 × Tr)) : Prop := xs.Pairwise (fun x y => x.1 < y.1) ∧ ∀ x ∈ xs, 0 ≤ x.1 ∧ x.1 ≤ 99
def okN (kind num : Int32) (ch : Fo) : Prop :=
  (kind = 0 ∨ kind = 1 ∨ kind = 2 ∨ kind = 3 ∨ kind = 4) ∧ (num = -10000 ↔ (kind ≠ 1 ∧ kind ≠ 2)) ∧ (kids ch ≠ [] → kind = 3 ∨ kind = 4) ∧ (kind ≠ 4 → ∀ x ∈ kids ch, x.1 = 0) ∧ (kind = 4 → keysOk (kids ch))
def wfF : Fo → Prop
  | .leaf => True
  | .inner z k _ ch rest => z = 0 ∧ okN k.2.1 k.2.2 ch ∧ wfF ch ∧ wfF rest
def wfT (t : Tr) : Prop := okN t.1 t.2.1 t.2.2 ∧ wfF t.2.2
theorem wfF.pl : ∀ f : Fo, wfF f → plF f
  | .leaf, _ => trivial
  | .inner z k _ ch rest, h => ⟨h.1, wfF.pl ch h.2.2.1, wfF.pl rest h.2.2.2⟩
theorem wfF_iff : ∀ xs : List (Int32 × Tr), wfF (ofKids xs) ↔ ∀ x ∈ xs, wfT x.2
  | [] => by simp [ofKids, wfF]
  | x :: xs => by
    rw [ofKids, wfF, wfF_iff xs]
    simp only [List.mem_cons, forall_eq_or_imp, true_and, wfT]
    exact and_assoc.symm
theorem wfF.kid {f : Fo} (h : wfF f) (x : Int32 × Tr) (hx : x ∈ kids f) : wfT x.2 := by
  have h1 := of_kids f (wfF.pl f h)
  rw [← h1] at h
  exact (wfF_iff _).mp h x hx
theorem wfT.kid {t u : Tr} {j : Nat} (h : wfT t) (hk : kid t j = some u) : wfT u := by
  unfold _root_.Jvm.Pilot.CMarlStoreLaw_law_r1597_55c78a.kid at hk
  cases hx : (kids t.2.2)[j]? with
  | none => rw [hx] at hk; cases hk
  | some x =>
    rw [hx] at hk
    cases hk
    exact h.2.kid x (List.mem_of_getElem? hx)
theorem va_rf_inj {r q : Option Nat} (h : va_rf r = va_rf q) : r = q := by
  cases r <;> cases q <;> simp_all [va_rf]
theorem szT_pos (t : Tr) : 1 ≤ szT t := by unfold szT; omega
theorem kid_sz {t : Tr} {x : Int32 × Tr} (hx : x ∈ kids t.2.2) : szT x.2 < szT t := by
  have := kids_lt t.2.2 x hx
  unfold szT at *; omega
theorem kid_dp {t : Tr} {x : Int32 × Tr} (hx : x ∈ kids t.2.2) : dpT x.2 < dpT t := by
  have := kids_dp t.2.2 x hx
  unfold dpT at *; omega
theorem tr_ext {t u : Tr} (ht : wfT t) (hu : wfT u) (h1 : t.1 = u.1) (h2 : t.2.1 = u.2.1) (h3 : kids t.2.2 = kids u.2.2) : t = u := by
  obtain ⟨a, b, c⟩ := t
  obtain ⟨d, e, f⟩ := u
  dsimp only at h1 h2 h3
  have hcf : c = f := kids_inj (wfF.pl c ht.2) (wfF.pl f hu.2) h3
  subst h1 h2 hcf
  rfl
theorem isV_inj {im : gIm} : ∀ (n : Nat) (t u : Tr) (a : Nat), szT t ≤ n → wfT t → wfT u → isV im a t → isV im a u → t = u := by
  intro n
  induction n with
  | zero =>
    intro t u a hn
    have := szT_pos t
    omega
  | succ n ih =>
    intro t u a hn ht hu h1 h2
    obtain ⟨kr, pr, hc, hk, hp⟩ := h1.node
    obtain ⟨kr', pr', hc', hk', hp'⟩ := h2.node
    have he := hc.symm.trans hc'
    simp only [Option.some.injEq, Sum.inl.injEq, Prod.mk.injEq, List.cons.injEq, Value.int.injEq, true_and, and_true] at he
    obtain ⟨e1, e2, e3, e4, e5, e6⟩ := he
    have e3 := va_rf_inj e3
    have e4 := va_rf_inj e4
    subst e3 e4
    refine tr_ext ht hu e1 e2 ?_
    cases pr with
    | none =>
      have q1 : kids t.2.2 = [] := hp
      have q2 : kids u.2.2 = [] := hp'
      rw [q1, q2]
    | some pa =>
      obtain ⟨r, g1, g2⟩ := hp
      obtain ⟨r', g1', g2'⟩ := hp'
      have hz := g1.symm.trans g1'
      simp only [Option.some.injEq, Sum.inr.injEq, Prod.mk.injEq, true_and] at hz
      obtain ⟨hlen, hr⟩ := hz
      subst hr
      apply List.ext_getElem? 
      intro j
      rcases Nat.lt_or_ge j (kids t.2.2).length with hj | hj
      · obtain ⟨x, hx⟩ : ∃ x, (kids t.2.2)[j]? = some x := ⟨_, List.getElem?_eq_getElem hj⟩
        obtain ⟨y, hy⟩ : ∃ y, (kids u.2.2)[j]? = some y := ⟨_, List.getElem?_eq_getElem (by omega)⟩
        obtain ⟨b, k1, k2⟩ := g2 j x hx
        obtain ⟨b', k1', k2'⟩ := g2' j y hy
        have hb : b = b' := Option.some.inj (k1.symm.trans k1')
        subst hb
        have hmx := List.mem_of_getElem? hx
        have hmy := List.mem_of_getElem? hy
        have hsub := ih x.2 y.2 b (by have := kid_sz hmx; omega) (ht.2.kid x hmx) (hu.2.kid y hmy) k2 k2'
        have hkey : x.1 = y.1 := by
          by_cases h4 : t.1 = 4
          · cases kr with
            | none =>
              rcases hk with hk | hk
              · exact absurd h4 hk
              · rw [hk] at hx; simp at hx
            | some ka =>
              obtain ⟨-, f, w1, w2⟩ := hk
              obtain ⟨-, f', w1', w2'⟩ := hk'
              have hz := w1.symm.trans w1'
              simp only [Option.some.injEq, Sum.inr.injEq, Prod.mk.injEq, Sum.inl.injEq, true_and] at hz
              rw [← w2 j x hx, ← w2' j y hy, hz.2]
          · rw [ht.1.2.2.2.1 h4 x hmx, hu.1.2.2.2.1 (by rw [← e1]; exact h4) y hmy]
        rw [hx, hy]
        exact congrArg some (Prod.ext hkey hsub)
      · rw [List.getElem?_eq_none hj, List.getElem?_eq_none (by omega)]
/-- 1 or 0 -/
noncomputable def bI (p : Prop) : Int32 := @ite _ p (Classical.propDecidable p) 1 0
theorem bI_t {p : Prop} (h : p) : bI p = 1 := by unfold bI; exact if_pos h
theorem bI_f {p : Prop} (h : ¬ p) : bI p = 0 := by unfold bI; exact if_neg h
theorem bI_01 (p : Prop) : bI p = 0 ∨ bI p = 1 := by
  by_cases h : p
  · exact Or.inr (bI_t h)
  · exact Or.inl (bI_f h)
theorem partT_mI {t : Tr} {j : Nat} (hj : j < 2 ^ 31) : partT t (nI j) = kid t j := by unfold partT; rw [pIx_mI hj]; rfl
theorem stepT_mI {t : Tr} {j : Nat} {x : Int32 × Tr} (hj : j < 2 ^ 31) (hx : (kids t.2.2)[j]? = some x) : stepT t (nI j) = if t.1 = 4 then x.1 else nI j := by
  unfold stepT; rw [pIx_mI hj]; simp only [hx]
abbrev mX8_areSame (d kc ks : Nat) : gM := (RX8, cX8_areSame, 4, (some .boolean), [], "areSame", d, kc, ks)
abbrev kX8_areSame (d kc ks : Nat) (as : List Value) (G : gG) (Q : Option Value → gG → Prop) (X : String → gG → Prop) : Prop := Ctr yX8_areSame cX8_areSame 4 (some .boolean) d kc ks as G Q X
theorem oX8_areSame {d kc ks : Nat} {as : List Value} {G : gG} {Q : Option Value → gG → Prop} {X : String → gG → Prop} {L : List (Option Value)} (hL : gEnt as = L) (hlen : (lg_sl as).length ≤ 4) (g : GW (mX8_areSame d kc ks) Q X G 0 0 0 L []) : kX8_areSame d kc ks as G Q X := Ctr.of (by decide +kernel) rfl rfl hL hlen g
theorem c_areSame : ∀ (N : Nat) {G : gG} {a b : Nat} {t u : Tr} {l : Nat}, isV G.1 a t → isV G.1 b u → wfT t → wfT u → sml t → sml u → dpT t ≤ N → l + N ≤ 41 →
    kX8_areSame (N + 1) 0 0 [va_rf (some a), va_rf (some b), .int (nI l)] G (ans G (fun w => w = .int (bI (t = u)))) noX := by
  intro N
  induction N with
  | zero =>
    intro G a b t u l _ _ _ _ _ _ h
    unfold dpT at h
    omega
  | succ N ih =>
    intro G a b t u l ha hb ht hu hst hsu hd hl
    have hwt := hst.wd
    have hwu := hsu.wd
    obtain ⟨kr, pr, hn, hk, hp⟩ := ha.node
    have hn : gL G a (.inl (8, _)) := Or.inl hn
    obtain ⟨kr', pr', hn', hk', hp'⟩ := hb.node
    have hn' : gL G b (.inl (8, _)) := Or.inl hn'
    refine oX8_areSame (L := [some (va_rf (some a)), some (va_rf (some b)), some (.int (nI l)), none, none, none, none, none, none, none, none, none]) rfl (Nat.le_of_ble_eq_true rfl) ?_
    generalize hQ : ans G _ = Q
    have no : t ≠ u → GW (mX8_areSame (N + 1 + 1) 0 0) Q noX G 0 0 65 [some (va_rf (some a)), some (va_rf (some b)), some (.int (nI l)), none, none, none, none, none, none, none, none, none] [] := by
      intro h
      refine GW.iconst (v := 0) dX8_areSame_65 (by decide) ?_
      refine GW.ireturn dX8_areSame_66 (Or.inr ⟨rfl, by first | exact Or.inl rfl | exact Or.inr rfl | assumption⟩) (by first | exact Nat.le_of_ble_eq_true rfl | exact Nat.le_refl _ | omega | (dsimp only [mX8_areSame, gM.dp, gM.kc, gM.ks]; omega)) (by first | exact Nat.le_of_ble_eq_true rfl | exact Nat.le_refl _ | omega | (dsimp only [mX8_areSame, gM.dp, gM.kc, gM.ks]; omega)) ?_
      subst hQ
      exact ⟨_, rfl, rfl, by rw [bI_f h]⟩
    refine GW.aload0 dX8_areSame_0 (g := ?_)
    refine GW.aload1 dX8_areSame_1 (g := ?_)
    refine GW.acmp_ne (tgt := 7) dX8_areSame_2 (by decide) (fun h2 => ?_) (fun h2 => ?_)
    · refine GW.aload0 dX8_areSame_7 (g := ?_)
      refine GW.ifnull (tgt := 65) dX8_areSame_8 (by decide) (fun h8 => ?_) (fun r8 h8 => ?_)
      · cases h8
      · refine GW.aload1 dX8_areSame_11 (g := ?_)
        refine GW.ifnull (tgt := 65) dX8_areSame_12 (by decide) (fun h12 => ?_) (fun r12 h12 => ?_)
        · cases h12
        · refine GW.iload2 dX8_areSame_15 ?_
          refine GW.bipush (v := 40) dX8_areSame_16 (by decide) ?_
          refine GW.icmp_gt (tgt := 65) dX8_areSame_18 (by decide) (fun h18 => ?_) (fun h18 => ?_)
          · exact absurd ((mI_lt (a := 40) (by omega) (by omega)).mp h18) (by omega)
          · refine GW.aload0 dX8_areSame_21 (g := ?_)
            refine GW.getf fl_X8_9 dX8_areSame_22 (by assumption) (by rfl) ?_
            refine GW.aload1 dX8_areSame_25 (g := ?_)
            refine GW.getf fl_X8_9 dX8_areSame_26 (by assumption) (by rfl) ?_
            refine GW.icmp_ne (tgt := 65) dX8_areSame_29 (by decide) (fun h29 => ?_) (fun h29 => ?_)
            · exact no fun h => h29 (by rw [h])
            · refine GW.aload0 dX8_areSame_32 (g := ?_)
              refine GW.getf fl_X8_15 dX8_areSame_33 (by assumption) (by rfl) ?_
              refine GW.aload1 dX8_areSame_36 (g := ?_)
              refine GW.getf fl_X8_15 dX8_areSame_37 (by assumption) (by rfl) ?_
              refine GW.icmp_ne (tgt := 65) dX8_areSame_40 (by decide) (fun h40 => ?_) (fun h40 => ?_)
              · exact no fun h => h40 (by rw [h])
              · refine GW.aload0 dX8_areSame_43 (g := ?_)
                refine GW.getf fl_X8_26 dX8_areSame_44 (by assumption) (by rfl) ?_
                refine GW.aload1 dX8_areSame_47 (g := ?_)
                refine GW.getf fl_X8_26 dX8_areSame_48 (by assumption) (by rfl) ?_
                refine GW.icmp_ne (tgt := 65) dX8_areSame_51 (by decide) (fun h51 => ?_) (fun h51 => ?_)
                · exact no fun h => h51 (by rw [h])
                · refine GW.aload0 dX8_areSame_54 (g := ?_)
                  refine GW.callV0 cv_X8_38 mt_X8_width (c_width ha) dX8_areSame_55 (by assumption) rfl rfl rfl rfl (by first | exact Nat.le_of_ble_eq_true rfl | exact Nat.le_refl _ | omega | (dsimp only [mX8_areSame, gM.dp, gM.kc, gM.ks]; omega)) (by decide) (by first | exact Nat.le_of_ble_eq_true rfl | exact Nat.le_refl _ | omega | (dsimp only [mX8_areSame, gM.dp, gM.kc, gM.ks]; omega)) (by first | exact Nat.le_of_ble_eq_true rfl | exact Nat.le_refl _ | omega | (dsimp only [mX8_areSame, gM.dp, gM.kc, gM.ks]; omega)) (by first | exact Nat.le_of_ble_eq_true rfl | (simp [va_rf_cat]; done) | (simp [va_rf_cat, Value.category]; done)) rfl (fun _ _ h => h.elim) (fun v55 G55 hq => ?_)
                  obtain ⟨w, rfl, rfl, rfl⟩ := hq
                  refine GW.aload1 dX8_areSame_58 (g := ?_)
                  refine GW.callV0 cv_X8_38 mt_X8_width (c_width hb) dX8_areSame_59 (by assumption) rfl rfl rfl rfl (by first | exact Nat.le_of_ble_eq_true rfl | exact Nat.le_refl _ | omega | (dsimp only [mX8_areSame, gM.dp, gM.kc, gM.ks]; omega)) (by decide) (by first | exact Nat.le_of_ble_eq_true rfl | exact Nat.le_refl _ | omega | (dsimp only [mX8_areSame, gM.dp, gM.kc, gM.ks]; omega)) (by first | exact Nat.le_of_ble_eq_true rfl | exact Nat.le_refl _ | omega | (dsimp only [mX8_areSame, gM.dp, gM.kc, gM.ks]; omega)) (by first | exact Nat.le_of_ble_eq_true rfl | (simp [va_rf_cat]; done) | (simp [va_rf_cat, Value.category]; done)) rfl (fun _ _ h => h.elim) (fun v59 G59 hq => ?_)
                  obtain ⟨w, rfl, rfl, rfl⟩ := hq
                  refine GW.icmp_eq (tgt := 67) dX8_areSame_62 (by decide) (fun h62 => ?_) (fun h62 => ?_)
                  · have hw : wd t = wd u := (mI_eq (by omega) (by omega)).mp h62
                    refine GW.iconst (v := 0) dX8_areSame_67 (by decide) ?_
                    refine GW.istore3 dX8_areSame_68 (g := ?_)
                    have key : ∀ (m j : Nat), j + m = wd t → (∀ i, i < j → (kids t.2.2)[i]? = (kids u.2.2)[i]?) → GW (mX8_areSame (N + 1 + 1) 0 0) Q noX G 0 0 69 [some (va_rf (some a)), some (va_rf (some b)), some (.int (nI l)), some (.int (nI j)), none, none, none, none, none, none, none, none] [] := by
                      have no2 : ∀ j, t ≠ u → GW (mX8_areSame (N + 1 + 1) 0 0) Q noX G 0 0 109 [some (va_rf (some a)), some (va_rf (some b)), some (.int (nI l)), some (.int (nI j)), none, none, none, none, none, none, none, none] [] := by
                        intro j h
                        refine GW.iconst (v := 0) dX8_areSame_109 (by decide) ?_
                        refine GW.ireturn dX8_areSame_110 (Or.inr ⟨rfl, by first | exact Or.inl rfl | exact Or.inr rfl | assumption⟩) (by first | exact Nat.le_of_ble_eq_true rfl | exact Nat.le_refl _ | omega | (dsimp only [mX8_areSame, gM.dp, gM.kc, gM.ks]; omega)) (by first | exact Nat.le_of_ble_eq_true rfl | exact Nat.le_refl _ | omega | (dsimp only [mX8_areSame, gM.dp, gM.kc, gM.ks]; omega)) ?_
                        subst hQ
                        exact ⟨_, rfl, rfl, by rw [bI_f h]⟩
                      intro m
                      induction m with
                      | zero =>
                        intro j hj hall
                        refine GW.iload3 dX8_areSame_69 ?_
                        refine GW.aload0 dX8_areSame_70 (g := ?_)
                        refine GW.callV0 cv_X8_38 mt_X8_width (c_width ha) dX8_areSame_71 (by assumption) rfl rfl rfl rfl (by first | exact Nat.le_of_ble_eq_true rfl | exact Nat.le_refl _ | omega | (dsimp only [mX8_areSame, gM.dp, gM.kc, gM.ks]; omega)) (by decide) (by first | exact Nat.le_of_ble_eq_true rfl | exact Nat.le_refl _ | omega | (dsimp only [mX8_areSame, gM.dp, gM.kc, gM.ks]; omega)) (by first | exact Nat.le_of_ble_eq_true rfl | exact Nat.le_refl _ | omega | (dsimp only [mX8_areSame, gM.dp, gM.kc, gM.ks]; omega)) (by first | exact Nat.le_of_ble_eq_true rfl | (simp [va_rf_cat]; done) | (simp [va_rf_cat, Value.category]; done)) rfl (fun _ _ h => h.elim) (fun v71 G71 hq => ?_)
                        obtain ⟨w, rfl, rfl, rfl⟩ := hq
                        refine GW.icmp_ge (tgt := 117) dX8_areSame_74 (by decide) (fun h74 => ?_) (fun h74 => ?_)
                        · refine GW.iconst (v := 1) dX8_areSame_117 (by decide) ?_
                          refine GW.ireturn dX8_areSame_118 (Or.inr ⟨rfl, by first | exact Or.inl rfl | exact Or.inr rfl | assumption⟩) (by first | exact Nat.le_of_ble_eq_true rfl | exact Nat.le_refl _ | omega | (dsimp only [mX8_areSame, gM.dp, gM.kc, gM.ks]; omega)) (by first | exact Nat.le_of_ble_eq_true rfl | exact Nat.le_refl _ | omega | (dsimp only [mX8_areSame, gM.dp, gM.kc, gM.ks]; omega)) ?_
                          subst hQ
                          refine ⟨_, rfl, rfl, ?_⟩
                          rw [bI_t]
                          refine tr_ext ht hu h29 h40 (List.ext_getElem? fun i => ?_)
                          rcases Nat.lt_or_ge i j with q | q
                          · exact hall i q
                          · unfold wd at hj hw
                            rw [List.getElem?_eq_none (by omega), List.getElem?_eq_none (by omega)]
                        · exact absurd ((mI_le (by omega) (by omega)).mpr (by omega)) h74
                      | succ m ihm =>
                        intro j hj hall
                        refine GW.iload3 dX8_areSame_69 ?_
                        refine GW.aload0 dX8_areSame_70 (g := ?_)
                        refine GW.callV0 cv_X8_38 mt_X8_width (c_width ha) dX8_areSame_71 (by assumption) rfl rfl rfl rfl (by first | exact Nat.le_of_ble_eq_true rfl | exact Nat.le_refl _ | omega | (dsimp only [mX8_areSame, gM.dp, gM.kc, gM.ks]; omega)) (by decide) (by first | exact Nat.le_of_ble_eq_true rfl | exact Nat.le_refl _ | omega | (dsimp only [mX8_areSame, gM.dp, gM.kc, gM.ks]; omega)) (by first | exact Nat.le_of_ble_eq_true rfl | exact Nat.le_refl _ | omega | (dsimp only [mX8_areSame, gM.dp, gM.kc, gM.ks]; omega)) (by first | exact Nat.le_of_ble_eq_true rfl | (simp [va_rf_cat]; done) | (simp [va_rf_cat, Value.category]; done)) rfl (fun _ _ h => h.elim) (fun v71 G71 hq => ?_)
                        obtain ⟨w, rfl, rfl, rfl⟩ := hq
                        refine GW.icmp_ge (tgt := 117) dX8_areSame_74 (by decide) (fun h74 => ?_) (fun h74 => ?_)
                        · exact absurd ((mI_le (by omega) (by omega)).mp h74) (by omega)
                        · obtain ⟨x, hx⟩ : ∃ x, (kids t.2.2)[j]? = some x := ⟨_, List.getElem?_eq_getElem (by unfold wd at hj; omega)⟩
                          obtain ⟨y, hy⟩ : ∃ y, (kids u.2.2)[j]? = some y := ⟨_, List.getElem?_eq_getElem (by unfold wd at hj hw; omega)⟩
                          refine GW.aload0 dX8_areSame_77 (g := ?_)
                          refine GW.iload3 dX8_areSame_78 ?_
                          refine GW.callV0 cv_X8_53 mt_X8_stepOf (c_stepOf ha hst (nI j)) dX8_areSame_79 (by assumption) rfl rfl rfl rfl (by first | exact Nat.le_of_ble_eq_true rfl | exact Nat.le_refl _ | omega | (dsimp only [mX8_areSame, gM.dp, gM.kc, gM.ks]; omega)) (by decide) (by first | exact Nat.le_of_ble_eq_true rfl | exact Nat.le_refl _ | omega | (dsimp only [mX8_areSame, gM.dp, gM.kc, gM.ks]; omega)) (by first | exact Nat.le_of_ble_eq_true rfl | exact Nat.le_refl _ | omega | (dsimp only [mX8_areSame, gM.dp, gM.kc, gM.ks]; omega)) (by first | exact Nat.le_of_ble_eq_true rfl | (simp [va_rf_cat]; done) | (simp [va_rf_cat, Value.category]; done)) rfl (fun _ _ h => h.elim) (fun v79 G79 hq => ?_)
                          obtain ⟨w, rfl, rfl, rfl⟩ := hq
                          refine GW.aload1 dX8_areSame_82 (g := ?_)
                          refine GW.iload3 dX8_areSame_83 ?_
                          refine GW.callV0 cv_X8_53 mt_X8_stepOf (c_stepOf hb hsu (nI j)) dX8_areSame_84 (by assumption) rfl rfl rfl rfl (by first | exact Nat.le_of_ble_eq_true rfl | exact Nat.le_refl _ | omega | (dsimp only [mX8_areSame, gM.dp, gM.kc, gM.ks]; omega)) (by decide) (by first | exact Nat.le_of_ble_eq_true rfl | exact Nat.le_refl _ | omega | (dsimp only [mX8_areSame, gM.dp, gM.kc, gM.ks]; omega)) (by first | exact Nat.le_of_ble_eq_true rfl | exact Nat.le_refl _ | omega | (dsimp only [mX8_areSame, gM.dp, gM.kc, gM.ks]; omega)) (by first | exact Nat.le_of_ble_eq_true rfl | (simp [va_rf_cat]; done) | (simp [va_rf_cat, Value.category]; done)) rfl (fun _ _ h => h.elim) (fun v84 G84 hq => ?_)
                          obtain ⟨w, rfl, rfl, rfl⟩ := hq
                          rw [stepT_mI (by omega) hx, stepT_mI (by omega) hy]
                          have hmx := List.mem_of_getElem? hx
                          have hmy := List.mem_of_getElem? hy
                          refine GW.icmp_ne (tgt := 109) dX8_areSame_87 (by decide) (fun h87 => ?_) (fun h87 => ?_)
                          · refine no2 j fun h => h87 ?_
                            subst h
                            rw [hx] at hy
                            cases hy
                            rfl
                          · have hkey : x.1 = y.1 := by
                              by_cases h4 : t.1 = 4
                              · rw [if_pos h4, if_pos (by rw [← h29]; exact h4)] at h87
                                exact h87
                              · rw [ht.1.2.2.2.1 h4 x hmx, hu.1.2.2.2.1 (by rw [← h29]; exact h4) y hmy]
                            refine GW.aload0 dX8_areSame_90 (g := ?_)
                            refine GW.iload3 dX8_areSame_91 ?_
                            refine GW.callV0 cv_X8_46 mt_X8_partAt (c_partAt ha hst (nI j)) dX8_areSame_92 (by assumption) rfl rfl rfl rfl (by first | exact Nat.le_of_ble_eq_true rfl | exact Nat.le_refl _ | omega | (dsimp only [mX8_areSame, gM.dp, gM.kc, gM.ks]; omega)) (by decide) (by first | exact Nat.le_of_ble_eq_true rfl | exact Nat.le_refl _ | omega | (dsimp only [mX8_areSame, gM.dp, gM.kc, gM.ks]; omega)) (by first | exact Nat.le_of_ble_eq_true rfl | exact Nat.le_refl _ | omega | (dsimp only [mX8_areSame, gM.dp, gM.kc, gM.ks]; omega)) (by first | exact Nat.le_of_ble_eq_true rfl | (simp [va_rf_cat]; done) | (simp [va_rf_cat, Value.category]; done)) rfl (fun _ _ h => h.elim) (fun v92 G92 hq => ?_)
                            obtain ⟨r1, rfl, rfl, hq1⟩ := hq
                            rw [partT_mI (by omega), kid_some hx] at hq1
                            refine GW.aload1 dX8_areSame_95 (g := ?_)
                            refine GW.iload3 dX8_areSame_96 ?_
                            refine GW.callV0 cv_X8_46 mt_X8_partAt (c_partAt hb hsu (nI j)) dX8_areSame_97 (by assumption) rfl rfl rfl rfl (by first | exact Nat.le_of_ble_eq_true rfl | exact Nat.le_refl _ | omega | (dsimp only [mX8_areSame, gM.dp, gM.kc, gM.ks]; omega)) (by decide) (by first | exact Nat.le_of_ble_eq_true rfl | exact Nat.le_refl _ | omega | (dsimp only [mX8_areSame, gM.dp, gM.kc, gM.ks]; omega)) (by first | exact Nat.le_of_ble_eq_true rfl | exact Nat.le_refl _ | omega | (dsimp only [mX8_areSame, gM.dp, gM.kc, gM.ks]; omega)) (by first | exact Nat.le_of_ble_eq_true rfl | (simp [va_rf_cat]; done) | (simp [va_rf_cat, Value.category]; done)) rfl (fun _ _ h => h.elim) (fun v97 G97 hq => ?_)
                            obtain ⟨r2, rfl, rfl, hq2⟩ := hq
                            rw [partT_mI (by omega), kid_some hy] at hq2
                            cases r1 with
                            | none => exact hq1.elim
                            | some b1 =>
                              cases r2 with
                              | none => exact hq2.elim
                              | some b2 =>
                                have hq1 : isV G.1 b1 x.2 := hq1
                                have hq2 : isV G.1 b2 y.2 := hq2
                                refine GW.iload2 dX8_areSame_100 ?_
                                refine GW.iconst (v := 1) dX8_areSame_101 (by decide) ?_
                                refine GW.iadd dX8_areSame_102 ?_
                                rw [mI_succ]
                                refine GW.callS0 cs_X8_56 mt_X8_areSame (ih (l := l + 1) hq1 hq2 (ht.2.kid x hmx) (hu.2.kid y hmy) (hst.kid (kid_some hx)) (hsu.kid (kid_some hy)) (by have := kid_dp hmx; omega) (by omega)) dX8_areSame_103 rfl rfl (by first | exact Nat.le_of_ble_eq_true rfl | exact Nat.le_refl _ | omega | (dsimp only [mX8_areSame, gM.dp, gM.kc, gM.ks]; omega)) (by decide) (by first | exact Nat.le_of_ble_eq_true rfl | exact Nat.le_refl _ | omega | (dsimp only [mX8_areSame, gM.dp, gM.kc, gM.ks]; omega)) (by first | exact Nat.le_of_ble_eq_true rfl | exact Nat.le_refl _ | omega | (dsimp only [mX8_areSame, gM.dp, gM.kc, gM.ks]; omega)) (by first | exact Nat.le_of_ble_eq_true rfl | (simp [va_rf_cat]; done) | (simp [va_rf_cat, Value.category]; done)) rfl (fun _ _ h => h.elim) (fun v103 G103 hq => ?_)
                                obtain ⟨w, rfl, rfl, rfl⟩ := hq
                                refine GW.if_ne (tgt := 111) dX8_areSame_106 (by decide) (fun h106 => ?_) (fun h106 => ?_)
                                · have hxy : x.2 = y.2 := by
                                    by_cases h : x.2 = y.2
                                    · exact h
                                    · exact absurd (bI_f h) h106
                                  refine GW.inc3 dX8_areSame_111 (g := ?_)
                                  refine GW.goto (tgt := 69) dX8_areSame_114 (by decide) ?_
                                  rw [mI_succ]
                                  refine ihm (j + 1) (by omega) fun i hi => ?_
                                  rcases Nat.lt_or_ge i j with q | q
                                  · exact hall i q
                                  · have : i = j := by omega
                                    subst this
                                    rw [hx, hy]
                                    exact congrArg some (Prod.ext hkey hxy)
                                · refine no2 j fun h => ?_
                                  subst h
                                  rw [hx] at hy
                                  cases hy
                                  have h1 := bI_t (p := x.2 = x.2) rfl
                                  have h106 : bI (x.2 = x.2) = 0 := h106
                                  rw [h1] at h106
                                  exact absurd h106 (by decide)
                    exact key (wd t) 0 (by omega) (fun i hi => absurd hi (Nat.not_lt_zero _))
                  · refine no fun h => h62 (by rw [h])
    · cases h2
      refine GW.iconst (v := 1) dX8_areSame_5 (by decide) ?_
      refine GW.ireturn dX8_areSame_6 (Or.inr ⟨rfl, by first | exact Or.inl rfl | exact Or.inr rfl | assumption⟩) (by first | exact Nat.le_of_ble_eq_true rfl | exact Nat.le_refl _ | omega | (dsimp only [mX8_areSame, gM.dp, gM.kc, gM.ks]; omega)) (by first | exact Nat.le_of_ble_eq_true rfl | exact Nat.le_refl _ | omega | (dsimp only [mX8_areSame, gM.dp, gM.kc, gM.ks]; omega)) ?_
      subst hQ
      exact ⟨_, rfl, rfl, by rw [bI_t (isV_inj _ t u _ (Nat.le_refl _) ht hu ha hb)]⟩
abbrev mX8_isSameAs (d kc ks : Nat) : gM := (RX8, cX8_isSameAs, 2, (some .boolean), [], "isSameAs", d, kc, ks)
abbrev kX8_isSameAs (d kc ks : Nat) (as : List Value) (G : gG) (Q : Option Value → gG → Prop) (X : String → gG → Prop) : Prop := Ctr yX8_isSameAs cX8_isSameAs 2 (some .boolean) d kc ks as G Q X
theorem oX8_isSameAs {d kc ks : Nat} {as : List Value} {G : gG} {Q : Option Value → gG → Prop} {X : String → gG → Prop} {L : List (Option Value)} (hL : gEnt as = L) (hlen : (lg_sl as).length ≤ 2) (g : GW (mX8_isSameAs d kc ks) Q X G 0 0 0 L []) : kX8_isSameAs d kc ks as G Q X := Ctr.of (by decide +kernel) rfl rfl hL hlen g
theorem c_isSameAs {G : gG} {a b : Nat} {t u : Tr} (ha : isV G.1 a t) (hb : isV G.1 b u) (ht : wfT t) (hu : wfT u) (hst : sml t) (hsu : sml u) (hd : dpT t ≤ 20) : kX8_isSameAs 22 0 0 [.ref a, .ref b] G (ans G (fun w => w = .int (bI (t = u)))) noX := by
  refine oX8_isSameAs (L := [some (.ref a), some (.ref b), none, none, none, none, none, none, none, none, none, none]) rfl (Nat.le_of_ble_eq_true rfl) ?_
  refine GW.aload0 dX8_isSameAs_0 (g := ?_)
  refine GW.aload1 dX8_isSameAs_1 (g := ?_)
  refine GW.iconst (v := 0) dX8_isSameAs_2 (by decide) ?_
  refine GW.callS0 cs_X8_56 mt_X8_areSame (c_areSame 20 (l := 0) ha hb ht hu hst hsu hd (by omega)) dX8_isSameAs_3 rfl rfl (by first | exact Nat.le_of_ble_eq_true rfl | exact Nat.le_refl _ | omega | (dsimp only [mX8_isSameAs, gM.dp, gM.kc, gM.ks]; omega)) (by decide) (by first | exact Nat.le_of_ble_eq_true rfl | exact Nat.le_refl _ | omega | (dsimp only [mX8_isSameAs, gM.dp, gM.kc, gM.ks]; omega)) (by first | exact Nat.le_of_ble_eq_true rfl | exact Nat.le_refl _ | omega | (dsimp only [mX8_isSameAs, gM.dp, gM.kc, gM.ks]; omega)) (by first | exact Nat.le_of_ble_eq_true rfl | (simp [va_rf_cat]; done) | (simp [va_rf_cat, Value.category]; done)) rfl (fun _ _ h => h.elim) (fun v3 G3 hq => ?_)
  obtain ⟨w, rfl, rfl, rfl⟩ := hq
  have h01 := bI_01 (t = u)
  refine GW.ireturn dX8_isSameAs_6 (Or.inr ⟨rfl, by first | exact Or.inl rfl | exact Or.inr rfl | assumption⟩) (by first | exact Nat.le_of_ble_eq_true rfl | exact Nat.le_refl _ | omega | (dsimp only [mX8_isSameAs, gM.dp, gM.kc, gM.ks]; omega)) (by first | exact Nat.le_of_ble_eq_true rfl | exact Nat.le_refl _ | omega | (dsimp only [mX8_isSameAs, gM.dp, gM.kc, gM.ks]; omega)) ?_
  exact ⟨_, rfl, rfl, rfl⟩
end
section
theorem oi_i : Cond.instanceMethod Lib.objectInit ∈ gW := gW_in 64 (by decide +kernel) (by decide +kernel)
theorem oi_c : Cond.code Lib.objectInit ⟨#[0xb1]⟩ 1 none ∈ gW := gW_in 65 (by decide +kernel) (by decide +kernel)
theorem oi_X10_1 : Cond.methodLink RX10 1 Lib.objectInit ∈ gW := gW_in 63 (by decide +kernel) (by decide +kernel)
theorem oi_X8_3 : Cond.methodLink RX8 3 Lib.objectInit ∈ gW := gW_in 71 (by decide +kernel) (by decide +kernel)
theorem oi_X5_3 : Cond.methodLink RX5 3 Lib.objectInit ∈ gW := gW_in 115 (by decide +kernel) (by decide +kernel)
theorem oi_X2_3 : Cond.methodLink RX2 3 Lib.objectInit ∈ gW := gW_in 135 (by decide +kernel) (by decide +kernel)
theorem oi_X4_3 : Cond.methodLink RX4 3 Lib.objectInit ∈ gW := gW_in 161 (by decide +kernel) (by decide +kernel)
theorem oi_X1_3 : Cond.methodLink RX1 3 Lib.objectInit ∈ gW := gW_in 177 (by decide +kernel) (by decide +kernel)
theorem oi_X7_3 : Cond.methodLink RX7 3 Lib.objectInit ∈ gW := gW_in 198 (by decide +kernel) (by decide +kernel)
theorem oi_X9_3 : Cond.methodLink RX9 3 Lib.objectInit ∈ gW := gW_in 243 (by decide +kernel) (by decide +kernel)
theorem oi_X0_3 : Cond.methodLink RX0 3 Lib.objectInit ∈ gW := gW_in 268 (by decide +kernel) (by decide +kernel)
theorem oi_X6_3 : Cond.methodLink RX6 3 Lib.objectInit ∈ gW := gW_in 297 (by decide +kernel) (by decide +kernel)
theorem oi_X3_3 : Cond.methodLink RX3 3 Lib.objectInit ∈ gW := gW_in 879 (by decide +kernel) (by decide +kernel)
theorem max_w : Cond.code Lib.Math.max.name Lib.Math.max.code 2 (some .int) ∈ gW := gW_in 74 (by decide +kernel) (by decide +kernel)
theorem min_w : Cond.code Lib.Math.min.name Lib.Math.min.code 2 (some .int) ∈ gW := gW_in 445 (by decide +kernel) (by decide +kernel)
theorem m_ini : Cond.initialized "java/lang/Math" ∈ gW := gW_in 39 (by decide +kernel) (by decide +kernel)
theorem aw_int : Cond.arrayClass .int ∈ gW := gW_in 129 (by decide +kernel) (by decide +kernel)
theorem aw_bool : Cond.arrayClass .boolean ∈ gW := gW_in 237 (by decide +kernel) (by decide +kernel)
end
section
/-! making VALUES: rows for what is being made (roles 900: children, 901: keys, 902: the object), the constructor -/
theorem fitq (ty : FieldType) (r : Option Nat) (h : ty.isReference = true) : narrow ty (va_rf r) = va_rf r ∧ fits ty (va_rf r) = true := by
  cases ty <;> cases r <;> first | (cases h; done) | exact ⟨rfl, rfl⟩
theorem mI_sz {n : Nat} (h : n ≤ 65536) : ¬ nI n < 0 ∧ (nI n).toNatClampNeg = n ∧ n ≤ 65536 := ⟨mI_nonneg (by omega), mI_clamp (by omega), h⟩
theorem gS_gS (G : gG) (r : Nat) (c c' : gC) : gS (gS G r c) r c' = gS G r c' := by
  unfold gS
  refine Prod.ext rfl (Prod.ext rfl (funext fun q => ?_))
  by_cases h : q = r <;> simp [h]
/-- a look that a write to the role r doesn't reach -/
def gLx (G : gG) (r : Nat) (a : Nat) (c : gC) : Prop := G.1 a = some c ∨ ∃ q, q ≠ r ∧ G.2.1 q = a ∧ G.2.2 q = some c
theorem gLx.l {G : gG} {r a : Nat} {c : gC} (h : gLx G r a c) : gL G a c := by
  rcases h with h | ⟨q, -, h1, h2⟩
  · exact Or.inl h
  · exact Or.inr ⟨q, h1, h2⟩
theorem gLx.s {G : gG} {r a : Nat} {c c' : gC} (h : gLx G r a c) : gL (gS G r c') a c := by
  rcases h with h | ⟨q, h0, h1, h2⟩
  · exact Or.inl h
  · exact Or.inr ⟨q, h1, by simpa [gS, h0] using h2⟩
section GWN
variable {M : gM} {Q : Option Value → gG → Prop} {X : String → gG → Prop} {k n pc : Nat} {L : List (Option Value)} {st : List Value}
/-- what is finished never changes any more -/
theorem GW.frz {G : gG} {c : gC} (r : Nat) (hr : G.2.2 r = some c) (g : ∀ im', gLe G.1 im' → im' (G.2.1 r) = some c → GW M Q X (im', G.2.1, fun q => if q = r then none else G.2.2 q) k n pc L st) : GW M Q X G k n pc L st := by
  intro p l e R s m args below meth c' D dA b0 hX H locs ls hG hS hL
  have h0 := hG.2.1 r c hr
  refine g (gF G r).1 (fun a ca ha => ?_) ?_ p l e R s m args below meth c' D dA b0 hX H locs ls (hG.freeze hr) hS hL
  · show (if a = G.2.1 r then G.2.2 r else G.1 a) = some ca
    rw [if_neg]
    · exact ha
    · intro e
      rw [e, h0] at ha
      cases ha
  · show (if G.2.1 r = G.2.1 r then G.2.2 r else _) = some c
    rw [if_pos rfl]
    exact hr
/-- the roles as they were -/
theorem GW.back {G : gG} (ad : Nat → Nat) (mc : Nat → Option gC) (hm : ∀ q, G.2.2 q = mc q) (ha : ∀ q c, mc q = some c → ad q = G.2.1 q) (g : GW M Q X (G.1, ad, mc) k n pc L st) : GW M Q X G k n pc L st := by
  refine g.ghost fun D dA b0 H h => ?_
  have hmc : mc = G.2.2 := funext fun q => (hm q).symm
  subst hmc
  exact h.readdr ha
end GWN
def szL (xs : List (Int32 × Tr)) : Nat := (xs.map (fun x => szT x.2)).sum
def dpL : List (Int32 × Tr) → Nat
  | [] => 0
  | x :: xs => max (dpT x.2) (dpL xs)
theorem szF_of (xs : List (Int32 × Tr)) : szF (ofKids xs) = szL xs := by rw [szF_kids, kids_of]; rfl
theorem dpF_of : ∀ xs : List (Int32 × Tr), dpF (ofKids xs) = dpL xs
  | [] => rfl
  | x :: xs => by rw [ofKids, dpF, dpF_of xs, dpL]; rfl
theorem szL_drop {xs : List (Int32 × Tr)} {j : Nat} {x : Int32 × Tr} (h : xs[j]? = some x) : szL (xs.drop j) = szT x.2 + szL (xs.drop (j + 1)) := by
  have hl : j < xs.length := (List.getElem?_eq_some_iff.mp h).1
  rw [List.drop_eq_getElem_cons hl, (List.getElem?_eq_some_iff.mp h).2]
  simp [szL]
theorem dpL_drop {xs : List (Int32 × Tr)} {j : Nat} {x : Int32 × Tr} (h : xs[j]? = some x) : dpL (xs.drop j) = max (dpT x.2) (dpL (xs.drop (j + 1))) := by
  have hl : j < xs.length := (List.getElem?_eq_some_iff.mp h).1
  rw [List.drop_eq_getElem_cons hl, (List.getElem?_eq_some_iff.mp h).2]
  rfl
theorem dp_le_sz : ∀ f : Fo, dpF f ≤ szF f
  | .leaf => Nat.le_refl _
  | .inner z k _ ch rest => by
    have h1 := dp_le_sz ch
    have h2 := dp_le_sz rest
    simp only [dpF, szF]
    omega
theorem dpT_le (t : Tr) : dpT t ≤ szT t := by
  have := dp_le_sz t.2.2
  unfold dpT szT; omega
theorem szL_mem {xs : List (Int32 × Tr)} {x : Int32 × Tr} (h : x ∈ xs) : szT x.2 ≤ szL xs := by
  have := kids_lt (ofKids xs) x (by rw [kids_of]; exact h)
  rw [szF_of] at this
  exact this
theorem dpL_le (xs : List (Int32 × Tr)) : dpL xs ≤ szL xs := by rw [← dpF_of, ← szF_of]; exact dp_le_sz _
theorem len_szL (xs : List (Int32 × Tr)) : xs.length ≤ szL xs := by
  have := kids_len (ofKids xs)
  rwa [kids_of, szF_of] at this
theorem ofNat_nI (n : Nat) : Int32.ofNat n = nI n := rfl
abbrev mX8_init (d kc ks : Nat) : gM := (RX8, cX8_init, 11, none, [], "<init>", d, kc, ks)
abbrev kX8_init (d kc ks : Nat) (as : List Value) (G : gG) (Q : Option Value → gG → Prop) (X : String → gG → Prop) : Prop := Ctr yX8_init cX8_init 11 none d kc ks as G Q X
theorem oX8_init {d kc ks : Nat} {as : List Value} {G : gG} {Q : Option Value → gG → Prop} {X : String → gG → Prop} {L : List (Option Value)} (hL : gEnt as = L) (hlen : (lg_sl as).length ≤ 11) (g : GW (mX8_init d kc ks) Q X G 0 0 0 L []) : kX8_init d kc ks as G Q X := Ctr.of (by decide +kernel) rfl rfl hL hlen g
/-- the parts of a VALUE that is being made -/
def partsX (G : gG) (pr : Option Nat) (xs : List (Int32 × Tr)) : Prop := match pr with
  | none => xs = []
  | some pa => ∃ r', gLx G 902 pa (.inr (1, xs.length, .inr r')) ∧ ∀ (j : Nat) (x : Int32 × Tr), xs[j]? = some x → ∃ b, r' j = some b ∧ isV G.1 b x.2
theorem c_Value {G : gG} {a : Nat} {fs : List Value} {kind num : Int32} {kr pr : Option Nat} {xs : List (Int32 × Tr)} (hr : G.2.2 902 = some (.inl (8, [.int 0, .int 0, .null, .null, .int 0, .int 0]))) (ha : G.2.1 902 = a) (hp : partsX G pr xs) (hsz : szL xs < 2 ^ 20) :
    kX8_init 1 0 0 [.ref a, .int kind, .int num, va_rf kr, va_rf pr] G (fun v G' => v = none ∧ gS G 902 (.inl (8, [.int kind, .int num, va_rf kr, va_rf pr, .int (nI (1 + szL xs)), .int (nI (1 + dpL xs))])) = G') noX := by
  refine oX8_init (L := [some (.ref a), some (.int kind), some (.int num), some (va_rf kr), some (va_rf pr), none, none, none, none, none, none, none]) (by cases kr <;> cases pr <;> rfl) (by cases kr <;> cases pr <;> exact Nat.le_of_ble_eq_true rfl) ?_
  generalize hQ : (fun (v : Option Value) (G' : gG) => v = none ∧ gS G 902 (.inl (8, [.int kind, .int num, va_rf kr, va_rf pr, .int (nI (1 + szL xs)), .int (nI (1 + dpL xs))])) = G') = Q
  refine GW.aload0 dX8_init_0 (g := ?_)
  refine GW.objInit oi_X8_3 oi_i oi_c dX8_init_1 (by first | exact Nat.le_of_ble_eq_true rfl | omega) (Nat.le_of_ble_eq_true rfl) ?_
  refine GW.aload0 dX8_init_4 (g := ?_)
  refine GW.iload1 dX8_init_5 ?_
  refine GW.putf (r := 902) fl_X8_9 dX8_init_6 (by first | rfl | assumption) (Nat.le_of_ble_eq_true rfl) (by first | exact ⟨rfl, rfl⟩ | exact fitq _ _ rfl) (by first | exact Or.inl rfl | exact Or.inr ⟨rfl, rfl⟩) (by first | rfl | assumption) ?_
  refine GW.aload0 dX8_init_9 (g := ?_)
  refine GW.iload2 dX8_init_10 ?_
  refine GW.putf (r := 902) fl_X8_15 dX8_init_11 (by first | rfl | assumption) (Nat.le_of_ble_eq_true rfl) (by first | exact ⟨rfl, rfl⟩ | exact fitq _ _ rfl) (by first | exact Or.inl rfl | exact Or.inr ⟨rfl, rfl⟩) (by first | rfl | assumption) ?_
  refine GW.aload0 dX8_init_14 (g := ?_)
  refine GW.aload3 dX8_init_15 (g := ?_)
  refine GW.putf (r := 902) fl_X8_18 dX8_init_16 (by first | rfl | assumption) (Nat.le_of_ble_eq_true rfl) (by first | exact ⟨rfl, rfl⟩ | exact fitq _ _ rfl) (by first | exact Or.inl rfl | exact Or.inr ⟨rfl, rfl⟩) (by first | rfl | assumption) ?_
  refine GW.aload0 dX8_init_19 (g := ?_)
  refine GW.aload4 dX8_init_20 (g := ?_)
  refine GW.putf (r := 902) fl_X8_22 dX8_init_22 (by first | rfl | assumption) (Nat.le_of_ble_eq_true rfl) (by first | exact ⟨rfl, rfl⟩ | exact fitq _ _ rfl) (by first | exact Or.inl rfl | exact Or.inr ⟨rfl, rfl⟩) (by first | rfl | assumption) ?_
  simp only [gS_gS]
  have hG1 : ∀ c, gS G 902 c = gS G 902 c := fun _ => rfl
  generalize hgc : gS G 902 _ = G1
  have hgc : gS G 902 (.inl (8, [.int kind, .int num, va_rf kr, va_rf pr, .int 0, .int 0])) = G1 := hgc
  have hr1 : G1.2.2 902 = some (.inl (8, [.int kind, .int num, va_rf kr, va_rf pr, .int 0, .int 0])) := by rw [← hgc]; rfl
  have ha1 : G1.2.1 902 = a := by rw [← hgc]; exact ha
  have hi1 : G1.1 = G.1 := by rw [← hgc]; rfl
  refine GW.iconst (v := 1) dX8_init_25 (by decide) ?_
  refine GW.istore5 dX8_init_26 (g := ?_)
  refine GW.iconst (v := 0) dX8_init_28 (by decide) ?_
  refine GW.istore6 dX8_init_29 (g := ?_)
  refine GW.aload4 dX8_init_31 (g := ?_)
  have fin : ∀ (s m : Nat) (l7 l8 l9 l10 : Option Value), s = 1 + szL xs → m = dpL xs → GW (mX8_init 1 0 0) Q noX G1 0 0 95 [some (.ref a), some (.int kind), some (.int num), some (va_rf kr), some (va_rf pr), some (.int (nI s)), some (.int (nI m)), l7, l8, l9, l10, none] [] := by
    intro s m l7 l8 l9 l10 hs hm
    refine GW.aload0 dX8_init_95 (g := ?_)
    refine GW.iload5 dX8_init_96 ?_
    refine GW.putf (r := 902) fl_X8_26 dX8_init_98 (by first | rfl | assumption) (Nat.le_of_ble_eq_true rfl) (by first | exact ⟨rfl, rfl⟩ | exact fitq _ _ rfl) (by first | exact Or.inl rfl | exact Or.inr ⟨rfl, rfl⟩) (by first | rfl | assumption) ?_
    refine GW.aload0 dX8_init_101 (g := ?_)
    refine GW.iload6 dX8_init_102 ?_
    refine GW.iconst (v := 1) dX8_init_104 (by decide) ?_
    refine GW.iadd dX8_init_105 ?_
    refine GW.putf (r := 902) fl_X8_29 dX8_init_106 (by first | rfl | assumption) (Nat.le_of_ble_eq_true rfl) (by first | exact ⟨rfl, rfl⟩ | exact fitq _ _ rfl) (by first | exact Or.inl rfl | exact Or.inr ⟨rfl, rfl⟩) (by first | rfl | assumption) ?_
    rw [gS_gS, ← hgc, gS_gS]
    refine GW.vreturn dX8_init_109 rfl (by first | exact Nat.le_of_ble_eq_true rfl | exact Nat.le_refl _ | omega | (dsimp only [mX8_init, gM.dp, gM.kc, gM.ks]; omega)) (by first | exact Nat.le_of_ble_eq_true rfl | exact Nat.le_refl _ | omega | (dsimp only [mX8_init, gM.dp, gM.kc, gM.ks]; omega)) ?_
    subst hQ hs hm
    refine ⟨rfl, ?_⟩
    rw [Nat.add_comm 1 (dpL xs), ← mI_succ]
    rfl
  refine GW.ifnull (tgt := 95) dX8_init_33 (by decide) (fun h33 => ?_) (fun r33 h33 => ?_)
  · subst h33
    have hx : xs = [] := hp
    subst hx
    exact fin 1 0 none none none none rfl rfl
  · subst h33
    obtain ⟨r', hx, hk⟩ := hp
    have hpa : gL G1 r33 (.inr (1, xs.length, .inr r')) := by rw [← hgc]; exact hx.s
    have hlen := len_szL xs
    refine GW.aload4 dX8_init_36 (g := ?_)
    refine GW.astore7 dX8_init_38 (g := ?_)
    refine GW.aload7 dX8_init_40 (g := ?_)
    refine GW.alen dX8_init_42 (by assumption) (by decide) rfl ?_
    refine GW.istore8 dX8_init_43 (g := ?_)
    refine GW.iconst (v := 0) dX8_init_45 (by decide) ?_
    refine GW.istore9 dX8_init_46 (g := ?_)
    have key : ∀ (mm j s m : Nat) (l10 : Option Value), (∀ w, l10 = some w → w.category ≠ 2) → j + mm = xs.length → s + szL (xs.drop j) = 1 + szL xs → max m (dpL (xs.drop j)) = dpL xs → GW (mX8_init 1 0 0) Q noX G1 0 0 48 [some (.ref a), some (.int kind), some (.int num), some (va_rf kr), some (va_rf (some r33)), some (.int (nI s)), some (.int (nI m)), some (.ref r33), some (.int (nI xs.length)), some (.int (nI j)), l10, none] [] := by
      intro mm
      induction mm with
      | zero =>
        intro j s m l10 h10 hj hs hm
        have hd : xs.drop j = [] := List.drop_eq_nil_of_le (by omega)
        rw [hd] at hs hm
        refine GW.iload9 dX8_init_48 ?_
        refine GW.iload8 dX8_init_50 ?_
        refine GW.icmp_ge (tgt := 95) dX8_init_52 (by decide) (fun h52 => ?_) (fun h52 => ?_)
        · exact fin s m _ _ _ _ (by simpa [szL] using hs) (by simpa [dpL] using hm)
        · exact absurd ((mI_le (by omega) (by omega)).mpr (by omega)) h52
      | succ mm ih =>
        intro j s m l10 h10 hj hs hm
        obtain ⟨x, hx2⟩ : ∃ x, xs[j]? = some x := ⟨_, List.getElem?_eq_getElem (by omega)⟩
        rw [szL_drop hx2] at hs
        rw [dpL_drop hx2] at hm
        obtain ⟨b, hb1, hb2⟩ := hk j x hx2
        have hix : gIx (nI j) j xs.length := mI_ix (by omega) (by omega)
        refine GW.iload9 dX8_init_48 ?_
        refine GW.iload8 dX8_init_50 ?_
        refine GW.icmp_ge (tgt := 95) dX8_init_52 (by decide) (fun h52 => ?_) (fun h52 => ?_)
        · exact absurd ((mI_le (by omega) (by omega)).mp h52) (by omega)
        · refine GW.aload7 dX8_init_55 (g := ?_)
          refine GW.iload9 dX8_init_57 ?_
          refine GW.aald dX8_init_59 (by assumption) (by assumption) (by decide) ?_
          refine GW.astore10 dX8_init_60 (g := ?_)
          refine GW.aload10 dX8_init_62 (g := ?_)
          rw [hb1]
          obtain ⟨kr', pr', hn, -, -⟩ := hb2.node
          have hn : gL G1 b (.inl (8, _)) := Or.inl (by rw [hi1]; exact hn)
          refine GW.ifnull (tgt := 89) dX8_init_64 (by decide) (fun h64 => ?_) (fun r64 h64 => ?_)
          · cases h64
          · cases h64
            refine GW.iload5 dX8_init_67 ?_
            refine GW.aload10 dX8_init_69 (g := ?_)
            refine GW.getf fl_X8_26 dX8_init_71 (by assumption) (by rfl) ?_
            refine GW.iadd dX8_init_74 ?_
            refine GW.istore5 dX8_init_75 (g := ?_)
            refine GW.iload6 dX8_init_77 ?_
            refine GW.aload10 dX8_init_79 (g := ?_)
            refine GW.getf fl_X8_29 dX8_init_81 (by assumption) (by rfl) ?_
            refine GW.mmax cs_X8_32 dX8_init_84 max_w m_ini (by first | exact Nat.le_of_ble_eq_true rfl | omega) (by first | exact Nat.le_of_ble_eq_true rfl | omega | (dsimp only [mX8_init, gM.dp, gM.kc, gM.ks]; omega)) (by first | exact Nat.le_of_ble_eq_true rfl | omega | (dsimp only [mX8_init, gM.dp, gM.kc, gM.ks]; omega)) (by first | exact Nat.le_of_ble_eq_true rfl | (simp [va_rf_cat]; done)) ?_
            refine GW.istore6 dX8_init_87 (g := ?_)
            refine GW.inc9 dX8_init_89 (g := ?_)
            refine GW.goto (tgt := 48) dX8_init_92 (by decide) ?_
            rw [mI_succ, mI_add]
            have hmx : (if nI m < nI (dpT x.2) then nI (dpT x.2) else nI m) = nI (max m (dpT x.2)) := by
              have h1 := dpT_le x.2
              have h2 := szL_mem (List.mem_of_getElem? hx2)
              have h3 := dpL_le xs
              by_cases hc : m < dpT x.2
              · rw [if_pos ((mI_lt (by omega) (by omega)).mpr hc)]; congr 1; omega
              · rw [if_neg fun q => hc ((mI_lt (by omega) (by omega)).mp q)]; congr 1; omega
            rw [hmx]
            exact ih (j + 1) (s + szT x.2) (max m (dpT x.2)) _ (fun w hw => by cases hw; rw [show (va_rf (some b)).category = 1 from rfl]; decide) (by omega) (by omega) (by omega)
    exact key xs.length 0 1 0 none (fun w hw => by cases hw) (by omega) (by rw [List.drop_zero]) (by rw [List.drop_zero]; omega)
end
