-- ===== PART A: goes FIRST, ahead of the names: the tables' words, and 'selects' of the private methods out of them =====
/-- a private method of a class that the tables say can be made, by its rows of tables_1 -/
def lw_okq (q : MethodName × Nat) : Prop := (q.1.cls ≠ "java/lang/invoke/MethodHandle" ∧ q.1.cls ≠ "java/lang/invoke/VarHandle") ∧ Cond.instantiable q.1.cls q.2 ∈ tables_1 ∧ Cond.privateMethod q.1 ∈ tables_1 ∧ Cond.instanceMethod q.1 ∈ tables_1
theorem lw_p0 : lw_okq (⟨"AreaGoals$Draw", "start", "(J)V"⟩, 1) := ⟨⟨by decide +kernel, by decide +kernel⟩, List.mem_of_getElem? (i := 135) (by decide +kernel), List.mem_of_getElem? (i := 145) (by decide +kernel), List.mem_of_getElem? (i := 146) (by decide +kernel)⟩
theorem lw_p1 : lw_okq (⟨"AreaGoals$Sea", "hasCell", "(I)Z"⟩, 16) := ⟨⟨by decide +kernel, by decide +kernel⟩, List.mem_of_getElem? (i := 17) (by decide +kernel), List.mem_of_getElem? (i := 214) (by decide +kernel), List.mem_of_getElem? (i := 215) (by decide +kernel)⟩
theorem lw_p2 : lw_okq (⟨"AreaGoals$Sea", "putAmount", "(IIJ)V"⟩, 16) := ⟨⟨by decide +kernel, by decide +kernel⟩, List.mem_of_getElem? (i := 17) (by decide +kernel), List.mem_of_getElem? (i := 224) (by decide +kernel), List.mem_of_getElem? (i := 225) (by decide +kernel)⟩
theorem lw_p3 : lw_okq (⟨"AreaGoals$Sea", "hasPair", "(II)Z"⟩, 16) := ⟨⟨by decide +kernel, by decide +kernel⟩, List.mem_of_getElem? (i := 17) (by decide +kernel), List.mem_of_getElem? (i := 240) (by decide +kernel), List.mem_of_getElem? (i := 241) (by decide +kernel)⟩
theorem lw_p4 : lw_okq (⟨"AreaGoals", "findClashes", "()I"⟩, 10) := ⟨⟨by decide +kernel, by decide +kernel⟩, List.mem_of_getElem? (i := 9) (by decide +kernel), List.mem_of_getElem? (i := 268) (by decide +kernel), List.mem_of_getElem? (i := 269) (by decide +kernel)⟩
theorem lw_p5 : lw_okq (⟨"AreaGoals$Sea", "openSet", "()I"⟩, 16) := ⟨⟨by decide +kernel, by decide +kernel⟩, List.mem_of_getElem? (i := 17) (by decide +kernel), List.mem_of_getElem? (i := 272) (by decide +kernel), List.mem_of_getElem? (i := 273) (by decide +kernel)⟩
theorem lw_p6 : lw_okq (⟨"AreaGoals$Tally", "begin", "(I)V"⟩, 7) := ⟨⟨by decide +kernel, by decide +kernel⟩, List.mem_of_getElem? (i := 103) (by decide +kernel), List.mem_of_getElem? (i := 276) (by decide +kernel), List.mem_of_getElem? (i := 277) (by decide +kernel)⟩
theorem lw_p7 : lw_okq (⟨"AreaGoals$Tally", "exchange", "(I)V"⟩, 7) := ⟨⟨by decide +kernel, by decide +kernel⟩, List.mem_of_getElem? (i := 103) (by decide +kernel), List.mem_of_getElem? (i := 281) (by decide +kernel), List.mem_of_getElem? (i := 282) (by decide +kernel)⟩
theorem lw_p8 : lw_okq (⟨"AreaGoals$Tally", "borderGainedBy", "(II)J"⟩, 7) := ⟨⟨by decide +kernel, by decide +kernel⟩, List.mem_of_getElem? (i := 103) (by decide +kernel), List.mem_of_getElem? (i := 291) (by decide +kernel), List.mem_of_getElem? (i := 292) (by decide +kernel)⟩
theorem lw_p9 : lw_okq (⟨"AreaGoals$Tally", "meetsGoal", "(I)Z"⟩, 7) := ⟨⟨by decide +kernel, by decide +kernel⟩, List.mem_of_getElem? (i := 103) (by decide +kernel), List.mem_of_getElem? (i := 295) (by decide +kernel), List.mem_of_getElem? (i := 296) (by decide +kernel)⟩
theorem lw_p10 : lw_okq (⟨"AreaGoals$Choice", "clear", "()V"⟩, 3) := ⟨⟨by decide +kernel, by decide +kernel⟩, List.mem_of_getElem? (i := 150) (by decide +kernel), List.mem_of_getElem? (i := 299) (by decide +kernel), List.mem_of_getElem? (i := 300) (by decide +kernel)⟩
theorem lw_p11 : lw_okq (⟨"AreaGoals$Sea", "freeSet", "()I"⟩, 16) := ⟨⟨by decide +kernel, by decide +kernel⟩, List.mem_of_getElem? (i := 17) (by decide +kernel), List.mem_of_getElem? (i := 303) (by decide +kernel), List.mem_of_getElem? (i := 304) (by decide +kernel)⟩
theorem lw_p12 : lw_okq (⟨"AreaGoals$Sea", "costsOf", "(I)J"⟩, 16) := ⟨⟨by decide +kernel, by decide +kernel⟩, List.mem_of_getElem? (i := 17) (by decide +kernel), List.mem_of_getElem? (i := 310) (by decide +kernel), List.mem_of_getElem? (i := 311) (by decide +kernel)⟩
theorem lw_p13 : lw_okq (⟨"AreaGoals", "search", "()V"⟩, 10) := ⟨⟨by decide +kernel, by decide +kernel⟩, List.mem_of_getElem? (i := 9) (by decide +kernel), List.mem_of_getElem? (i := 315) (by decide +kernel), List.mem_of_getElem? (i := 316) (by decide +kernel)⟩
theorem lw_p14 : lw_okq (⟨"AreaGoals", "listFreeCells", "()I"⟩, 10) := ⟨⟨by decide +kernel, by decide +kernel⟩, List.mem_of_getElem? (i := 9) (by decide +kernel), List.mem_of_getElem? (i := 319) (by decide +kernel), List.mem_of_getElem? (i := 320) (by decide +kernel)⟩
theorem lw_p15 : lw_okq (⟨"AreaGoals", "considerTally", "()V"⟩, 10) := ⟨⟨by decide +kernel, by decide +kernel⟩, List.mem_of_getElem? (i := 9) (by decide +kernel), List.mem_of_getElem? (i := 323) (by decide +kernel), List.mem_of_getElem? (i := 324) (by decide +kernel)⟩
def lw_privs_1 : List (MethodName × Nat) := [(⟨"AreaGoals$Draw", "start", "(J)V"⟩, 1), (⟨"AreaGoals$Sea", "hasCell", "(I)Z"⟩, 16), (⟨"AreaGoals$Sea", "putAmount", "(IIJ)V"⟩, 16), (⟨"AreaGoals$Sea", "hasPair", "(II)Z"⟩, 16), (⟨"AreaGoals", "findClashes", "()I"⟩, 10), (⟨"AreaGoals$Sea", "openSet", "()I"⟩, 16), (⟨"AreaGoals$Tally", "begin", "(I)V"⟩, 7), (⟨"AreaGoals$Tally", "exchange", "(I)V"⟩, 7), (⟨"AreaGoals$Tally", "borderGainedBy", "(II)J"⟩, 7), (⟨"AreaGoals$Tally", "meetsGoal", "(I)Z"⟩, 7), (⟨"AreaGoals$Choice", "clear", "()V"⟩, 3), (⟨"AreaGoals$Sea", "freeSet", "()I"⟩, 16), (⟨"AreaGoals$Sea", "costsOf", "(I)J"⟩, 16), (⟨"AreaGoals", "search", "()V"⟩, 10), (⟨"AreaGoals", "listFreeCells", "()I"⟩, 10), (⟨"AreaGoals", "considerTally", "()V"⟩, 10)]
theorem lw_r1 : ∀ q ∈ lw_privs_1, lw_okq q := List.forall_mem_cons.mpr ⟨lw_p0, List.forall_mem_cons.mpr ⟨lw_p1, List.forall_mem_cons.mpr ⟨lw_p2, List.forall_mem_cons.mpr ⟨lw_p3, List.forall_mem_cons.mpr ⟨lw_p4, List.forall_mem_cons.mpr ⟨lw_p5, List.forall_mem_cons.mpr ⟨lw_p6, List.forall_mem_cons.mpr ⟨lw_p7, List.forall_mem_cons.mpr ⟨lw_p8, List.forall_mem_cons.mpr ⟨lw_p9, List.forall_mem_cons.mpr ⟨lw_p10, List.forall_mem_cons.mpr ⟨lw_p11, List.forall_mem_cons.mpr ⟨lw_p12, List.forall_mem_cons.mpr ⟨lw_p13, List.forall_mem_cons.mpr ⟨lw_p14, List.forall_mem_cons.mpr ⟨lw_p15, fun _ h => absurd h List.not_mem_nil⟩⟩⟩⟩⟩⟩⟩⟩⟩⟩⟩⟩⟩⟩⟩⟩
theorem lw_p16 : lw_okq (⟨"AreaGoals$Tally", "price", "()J"⟩, 7) := ⟨⟨by decide +kernel, by decide +kernel⟩, List.mem_of_getElem? (i := 103) (by decide +kernel), List.mem_of_getElem? (i := 327) (by decide +kernel), List.mem_of_getElem? (i := 328) (by decide +kernel)⟩
theorem lw_p17 : lw_okq (⟨"AreaGoals$Choice", "isBeatenBy", "(IJ)Z"⟩, 3) := ⟨⟨by decide +kernel, by decide +kernel⟩, List.mem_of_getElem? (i := 150) (by decide +kernel), List.mem_of_getElem? (i := 331) (by decide +kernel), List.mem_of_getElem? (i := 332) (by decide +kernel)⟩
theorem lw_p18 : lw_okq (⟨"AreaGoals$Tally", "stands", "()Z"⟩, 7) := ⟨⟨by decide +kernel, by decide +kernel⟩, List.mem_of_getElem? (i := 103) (by decide +kernel), List.mem_of_getElem? (i := 336) (by decide +kernel), List.mem_of_getElem? (i := 337) (by decide +kernel)⟩
theorem lw_p19 : lw_okq (⟨"AreaGoals$Tally", "meetsGoals", "()Z"⟩, 7) := ⟨⟨by decide +kernel, by decide +kernel⟩, List.mem_of_getElem? (i := 103) (by decide +kernel), List.mem_of_getElem? (i := 340) (by decide +kernel), List.mem_of_getElem? (i := 341) (by decide +kernel)⟩
theorem lw_p20 : lw_okq (⟨"AreaGoals$Tally", "isFair", "()Z"⟩, 7) := ⟨⟨by decide +kernel, by decide +kernel⟩, List.mem_of_getElem? (i := 103) (by decide +kernel), List.mem_of_getElem? (i := 345) (by decide +kernel), List.mem_of_getElem? (i := 346) (by decide +kernel)⟩
theorem lw_p21 : lw_okq (⟨"AreaGoals$Choice", "take", "(IJ)V"⟩, 3) := ⟨⟨by decide +kernel, by decide +kernel⟩, List.mem_of_getElem? (i := 150) (by decide +kernel), List.mem_of_getElem? (i := 349) (by decide +kernel), List.mem_of_getElem? (i := 350) (by decide +kernel)⟩
theorem lw_p22 : lw_okq (⟨"AreaGoals", "drawnMoves", "(LAreaGoals$Draw;I)I"⟩, 10) := ⟨⟨by decide +kernel, by decide +kernel⟩, List.mem_of_getElem? (i := 9) (by decide +kernel), List.mem_of_getElem? (i := 391) (by decide +kernel), List.mem_of_getElem? (i := 392) (by decide +kernel)⟩
theorem lw_p23 : lw_okq (⟨"AreaGoals$Draw", "next", "()J"⟩, 1) := ⟨⟨by decide +kernel, by decide +kernel⟩, List.mem_of_getElem? (i := 135) (by decide +kernel), List.mem_of_getElem? (i := 395) (by decide +kernel), List.mem_of_getElem? (i := 396) (by decide +kernel)⟩
theorem lw_p24 : lw_okq (⟨"AreaGoals$Sea", "putHours", "(IIJ)V"⟩, 16) := ⟨⟨by decide +kernel, by decide +kernel⟩, List.mem_of_getElem? (i := 17) (by decide +kernel), List.mem_of_getElem? (i := 410) (by decide +kernel), List.mem_of_getElem? (i := 411) (by decide +kernel)⟩
theorem lw_p25 : lw_okq (⟨"AreaGoals$Sea", "comesBefore", "(II)Z"⟩, 16) := ⟨⟨by decide +kernel, by decide +kernel⟩, List.mem_of_getElem? (i := 17) (by decide +kernel), List.mem_of_getElem? (i := 434) (by decide +kernel), List.mem_of_getElem? (i := 435) (by decide +kernel)⟩
theorem lw_p26 : lw_okq (⟨"AreaGoals", "findExchangeable", "()I"⟩, 10) := ⟨⟨by decide +kernel, by decide +kernel⟩, List.mem_of_getElem? (i := 9) (by decide +kernel), List.mem_of_getElem? (i := 455) (by decide +kernel), List.mem_of_getElem? (i := 456) (by decide +kernel)⟩
theorem lw_p27 : lw_okq (⟨"AreaGoalsModel", "isCell", "(I)Z"⟩, 27) := ⟨⟨by decide +kernel, by decide +kernel⟩, List.mem_of_getElem? (i := 462) (by decide +kernel), List.mem_of_getElem? (i := 564) (by decide +kernel), List.mem_of_getElem? (i := 565) (by decide +kernel)⟩
theorem lw_p28 : lw_okq (⟨"AreaGoalsModel", "open", "()I"⟩, 27) := ⟨⟨by decide +kernel, by decide +kernel⟩, List.mem_of_getElem? (i := 462) (by decide +kernel), List.mem_of_getElem? (i := 626) (by decide +kernel), List.mem_of_getElem? (i := 627) (by decide +kernel)⟩
theorem lw_p29 : lw_okq (⟨"AreaGoalsModel", "meets", "(II)Z"⟩, 27) := ⟨⟨by decide +kernel, by decide +kernel⟩, List.mem_of_getElem? (i := 462) (by decide +kernel), List.mem_of_getElem? (i := 630) (by decide +kernel), List.mem_of_getElem? (i := 631) (by decide +kernel)⟩
theorem lw_p30 : lw_okq (⟨"AreaGoalsModel", "amount", "(II)J"⟩, 27) := ⟨⟨by decide +kernel, by decide +kernel⟩, List.mem_of_getElem? (i := 462) (by decide +kernel), List.mem_of_getElem? (i := 634) (by decide +kernel), List.mem_of_getElem? (i := 635) (by decide +kernel)⟩
theorem lw_p31 : lw_okq (⟨"AreaGoalsModel", "all", "()I"⟩, 27) := ⟨⟨by decide +kernel, by decide +kernel⟩, List.mem_of_getElem? (i := 462) (by decide +kernel), List.mem_of_getElem? (i := 641) (by decide +kernel), List.mem_of_getElem? (i := 642) (by decide +kernel)⟩
def lw_privs_2 : List (MethodName × Nat) := [(⟨"AreaGoals$Tally", "price", "()J"⟩, 7), (⟨"AreaGoals$Choice", "isBeatenBy", "(IJ)Z"⟩, 3), (⟨"AreaGoals$Tally", "stands", "()Z"⟩, 7), (⟨"AreaGoals$Tally", "meetsGoals", "()Z"⟩, 7), (⟨"AreaGoals$Tally", "isFair", "()Z"⟩, 7), (⟨"AreaGoals$Choice", "take", "(IJ)V"⟩, 3), (⟨"AreaGoals", "drawnMoves", "(LAreaGoals$Draw;I)I"⟩, 10), (⟨"AreaGoals$Draw", "next", "()J"⟩, 1), (⟨"AreaGoals$Sea", "putHours", "(IIJ)V"⟩, 16), (⟨"AreaGoals$Sea", "comesBefore", "(II)Z"⟩, 16), (⟨"AreaGoals", "findExchangeable", "()I"⟩, 10), (⟨"AreaGoalsModel", "isCell", "(I)Z"⟩, 27), (⟨"AreaGoalsModel", "open", "()I"⟩, 27), (⟨"AreaGoalsModel", "meets", "(II)Z"⟩, 27), (⟨"AreaGoalsModel", "amount", "(II)J"⟩, 27), (⟨"AreaGoalsModel", "all", "()I"⟩, 27)]
theorem lw_r2 : ∀ q ∈ lw_privs_2, lw_okq q := List.forall_mem_cons.mpr ⟨lw_p16, List.forall_mem_cons.mpr ⟨lw_p17, List.forall_mem_cons.mpr ⟨lw_p18, List.forall_mem_cons.mpr ⟨lw_p19, List.forall_mem_cons.mpr ⟨lw_p20, List.forall_mem_cons.mpr ⟨lw_p21, List.forall_mem_cons.mpr ⟨lw_p22, List.forall_mem_cons.mpr ⟨lw_p23, List.forall_mem_cons.mpr ⟨lw_p24, List.forall_mem_cons.mpr ⟨lw_p25, List.forall_mem_cons.mpr ⟨lw_p26, List.forall_mem_cons.mpr ⟨lw_p27, List.forall_mem_cons.mpr ⟨lw_p28, List.forall_mem_cons.mpr ⟨lw_p29, List.forall_mem_cons.mpr ⟨lw_p30, List.forall_mem_cons.mpr ⟨lw_p31, fun _ h => absurd h List.not_mem_nil⟩⟩⟩⟩⟩⟩⟩⟩⟩⟩⟩⟩⟩⟩⟩⟩
theorem lw_p32 : lw_okq (⟨"AreaGoalsModel", "become", "(ZIJ)V"⟩, 27) := ⟨⟨by decide +kernel, by decide +kernel⟩, List.mem_of_getElem? (i := 462) (by decide +kernel), List.mem_of_getElem? (i := 645) (by decide +kernel), List.mem_of_getElem? (i := 646) (by decide +kernel)⟩
theorem lw_p33 : lw_okq (⟨"AreaGoalsModel", "costOf", "(I)J"⟩, 27) := ⟨⟨by decide +kernel, by decide +kernel⟩, List.mem_of_getElem? (i := 462) (by decide +kernel), List.mem_of_getElem? (i := 649) (by decide +kernel), List.mem_of_getElem? (i := 650) (by decide +kernel)⟩
theorem lw_p34 : lw_okq (⟨"AreaGoalsModel", "borderOf", "(I)J"⟩, 27) := ⟨⟨by decide +kernel, by decide +kernel⟩, List.mem_of_getElem? (i := 462) (by decide +kernel), List.mem_of_getElem? (i := 653) (by decide +kernel), List.mem_of_getElem? (i := 654) (by decide +kernel)⟩
theorem lw_p35 : lw_okq (⟨"AreaGoalsModel", "isBefore", "(II)Z"⟩, 27) := ⟨⟨by decide +kernel, by decide +kernel⟩, List.mem_of_getElem? (i := 462) (by decide +kernel), List.mem_of_getElem? (i := 657) (by decide +kernel), List.mem_of_getElem? (i := 658) (by decide +kernel)⟩
theorem lw_p36 : lw_okq (⟨"AreaGoalsModel", "count", "(I)I"⟩, 27) := ⟨⟨by decide +kernel, by decide +kernel⟩, List.mem_of_getElem? (i := 462) (by decide +kernel), List.mem_of_getElem? (i := 661) (by decide +kernel), List.mem_of_getElem? (i := 662) (by decide +kernel)⟩
theorem lw_p37 : lw_okq (⟨"AreaGoalsModel", "stands", "(I)Z"⟩, 27) := ⟨⟨by decide +kernel, by decide +kernel⟩, List.mem_of_getElem? (i := 462) (by decide +kernel), List.mem_of_getElem? (i := 665) (by decide +kernel), List.mem_of_getElem? (i := 666) (by decide +kernel)⟩
theorem lw_p38 : lw_okq (⟨"AreaGoalsModel", "hoursIn", "(II)J"⟩, 27) := ⟨⟨by decide +kernel, by decide +kernel⟩, List.mem_of_getElem? (i := 462) (by decide +kernel), List.mem_of_getElem? (i := 669) (by decide +kernel), List.mem_of_getElem? (i := 670) (by decide +kernel)⟩
theorem lw_p39 : lw_okq (⟨"AreaGoalsModel", "steps", "(JI)J"⟩, 27) := ⟨⟨by decide +kernel, by decide +kernel⟩, List.mem_of_getElem? (i := 462) (by decide +kernel), List.mem_of_getElem? (i := 698) (by decide +kernel), List.mem_of_getElem? (i := 699) (by decide +kernel)⟩
def lw_privs_3 : List (MethodName × Nat) := [(⟨"AreaGoalsModel", "become", "(ZIJ)V"⟩, 27), (⟨"AreaGoalsModel", "costOf", "(I)J"⟩, 27), (⟨"AreaGoalsModel", "borderOf", "(I)J"⟩, 27), (⟨"AreaGoalsModel", "isBefore", "(II)Z"⟩, 27), (⟨"AreaGoalsModel", "count", "(I)I"⟩, 27), (⟨"AreaGoalsModel", "stands", "(I)Z"⟩, 27), (⟨"AreaGoalsModel", "hoursIn", "(II)J"⟩, 27), (⟨"AreaGoalsModel", "steps", "(JI)J"⟩, 27)]
theorem lw_r3 : ∀ q ∈ lw_privs_3, lw_okq q := List.forall_mem_cons.mpr ⟨lw_p32, List.forall_mem_cons.mpr ⟨lw_p33, List.forall_mem_cons.mpr ⟨lw_p34, List.forall_mem_cons.mpr ⟨lw_p35, List.forall_mem_cons.mpr ⟨lw_p36, List.forall_mem_cons.mpr ⟨lw_p37, List.forall_mem_cons.mpr ⟨lw_p38, List.forall_mem_cons.mpr ⟨lw_p39, fun _ h => absurd h List.not_mem_nil⟩⟩⟩⟩⟩⟩⟩⟩
def lw_privs : List (MethodName × Nat) := lw_privs_1 ++ (lw_privs_2 ++ (lw_privs_3))
def lw_tbl : List Cond := k2_sels lw_privs ++ tables_1
theorem lw_privs_ok : ∀ q ∈ lw_privs, lw_okq q := by
  show ∀ q ∈ lw_privs_1 ++ (lw_privs_2 ++ (lw_privs_3)), lw_okq q
  exact List.forall_mem_append.mpr ⟨lw_r1, List.forall_mem_append.mpr ⟨lw_r2, lw_r3⟩⟩
theorem in_idx {big ws : List Cond} (ps : List Nat) (h : ps.map (fun i => big[i]?) = ws.map some) : ∀ w ∈ ws, w ∈ big := by
  intro w hw
  have h1 : some w ∈ ws.map some := List.mem_map.mpr ⟨w, hw, rfl⟩
  rw [← h] at h1
  obtain ⟨i, -, hi⟩ := List.mem_map.mp h1
  exact List.mem_of_getElem? hi
set_option maxRecDepth 100000 in
theorem wi_1 : ∀ w ∈ wsL_law_r1, w ∈ lw_tbl := in_idx [48, 49, 41, 501, 502, 46, 780, 498, 499, 40, 500, 50, 51, 52, 53, 54, 55, 56, 57, 42, 210, 142, 143, 43] rfl
set_option maxRecDepth 100000 in
theorem wi_2 : ∀ w ∈ wsL_law_r2, w ∈ lw_tbl := in_idx [211, 174, 175, 44, 212, 213, 189, 190, 45, 214, 141, 215, 217, 209, 218, 59, 60, 61, 140, 62, 65, 68, 70, 73] rfl
set_option maxRecDepth 100000 in
theorem wi_3 : ∀ w ∈ wsL_law_r3, w ∈ lw_tbl := in_idx [76, 79, 82, 85, 88, 91, 145, 146, 147, 148, 149, 151, 177, 178, 179, 186, 0, 187, 188, 180, 192, 193, 194, 195] rfl
set_option maxRecDepth 100000 in
theorem wi_4 : ∀ w ∈ wsL_law_r4, w ∈ lw_tbl := in_idx [200, 503, 504, 505, 506, 512, 513, 514, 515, 516, 593, 517, 518, 519, 520, 526, 507, 508, 509, 510, 241, 242, 243, 244] rfl
set_option maxRecDepth 100000 in
theorem wi_5 : ∀ w ∈ wsL_law_r5, w ∈ lw_tbl := in_idx [245, 246, 247, 248, 594, 595, 596, 597, 511, 598, 249, 250, 251, 252, 260, 261, 262, 255, 1, 256, 97, 257, 258, 259] rfl
set_option maxRecDepth 100000 in
theorem wi_6 : ∀ w ∈ wsL_law_r6, w ∈ lw_tbl := in_idx [265, 2, 266, 599, 600, 601, 602, 610, 611, 612, 603, 605, 27, 606, 607, 608, 609, 267, 268, 269, 270, 271, 272, 273] rfl
set_option maxRecDepth 100000 in
theorem wi_7 : ∀ w ∈ wsL_law_r7, w ∈ lw_tbl := in_idx [274, 613, 614, 615, 616, 617, 618, 619, 620, 275, 276, 277, 278, 281, 3, 282, 283, 621, 622, 623, 624, 284, 285, 286] rfl
set_option maxRecDepth 100000 in
theorem wi_8 : ∀ w ∈ wsL_law_r8, w ∈ lw_tbl := in_idx [287, 629, 630, 631, 632, 524, 288, 289, 290, 291, 633, 634, 635, 636, 292, 293, 294, 295, 637, 638, 639, 640, 296, 297] rfl
set_option maxRecDepth 100000 in
theorem wi_9 : ∀ w ∈ wsL_law_r9, w ∈ lw_tbl := in_idx [298, 299, 300, 301, 302, 748, 749, 750, 751, 527, 528, 677, 678, 679, 303, 304, 305, 306, 219, 216, 348, 307, 309, 4] rfl
set_option maxRecDepth 100000 in
theorem wi_10 : ∀ w ∈ wsL_law_r10, w ∈ lw_tbl := in_idx [310, 313, 5, 314, 102, 317, 6, 318, 153, 155, 156, 157, 320, 322, 7, 323, 324, 325, 47, 326, 327, 328, 329, 330] rfl
set_option maxRecDepth 100000 in
theorem wi_11 : ∀ w ∈ wsL_law_r11, w ∈ lw_tbl := in_idx [332, 8, 333, 336, 9, 337, 340, 10, 341, 196, 198, 344, 11, 345, 100, 346, 347, 351, 12, 352, 354, 356, 13, 357] rfl
set_option maxRecDepth 100000 in
theorem wi_12 : ∀ w ∈ wsL_law_r12, w ∈ lw_tbl := in_idx [358, 360, 14, 361, 362, 364, 15, 365, 368, 16, 369, 372, 17, 373, 374, 377, 18, 378, 379, 381, 19, 382, 383, 384] rfl
set_option maxRecDepth 100000 in
theorem wi_13 : ∀ w ∈ wsL_law_r13, w ∈ lw_tbl := in_idx [386, 20, 387, 390, 21, 391, 661, 662, 663, 664, 531, 534, 533, 532, 712, 665, 667, 28, 668, 669, 671, 29, 672, 673] rfl
set_option maxRecDepth 100000 in
theorem wi_14 : ∀ w ∈ wsL_law_r14, w ∈ lw_tbl := in_idx [675, 30, 676, 680, 682, 31, 683, 684, 686, 32, 687, 529, 530, 688, 690, 33, 691, 692, 694, 34, 695, 696, 698, 35] rfl
set_option maxRecDepth 100000 in
theorem wi_15 : ∀ w ∈ wsL_law_r15, w ∈ lw_tbl := in_idx [699, 700, 702, 36, 703, 704, 706, 37, 707, 525, 521, 523, 522, 708, 710, 38, 711, 393, 394, 395, 396, 713, 714, 715] rfl
set_option maxRecDepth 100000 in
theorem wi_16 : ∀ w ∈ wsL_law_r16, w ∈ lw_tbl := in_idx [716, 397, 398, 399, 400, 717, 718, 719, 720, 401, 402, 403, 404, 721, 722, 723, 724, 405, 406, 407, 408, 409, 410, 411] rfl
set_option maxRecDepth 100000 in
theorem wi_17 : ∀ w ∈ wsL_law_r17, w ∈ lw_tbl := in_idx [412, 413, 414, 752, 753, 754, 755, 756, 757, 758, 415, 416, 417, 418, 419, 420, 421, 729, 730, 731, 732, 422, 423, 424] rfl
set_option maxRecDepth 100000 in
theorem wi_18 : ∀ w ∈ wsL_law_r18, w ∈ lw_tbl := in_idx [425, 725, 726, 727, 728, 426, 427, 428, 429, 430, 432, 22, 433, 436, 23, 437, 733, 734, 735, 736, 535, 536, 537, 737] rfl
set_option maxRecDepth 100000 in
theorem wi_19 : ∀ w ∈ wsL_law_r19, w ∈ lw_tbl := in_idx [739, 39, 740, 741, 742, 743, 438, 439, 440, 441, 744, 745, 746, 747, 442, 443, 444, 445, 446, 447, 448, 451, 24, 452] rfl
set_option maxRecDepth 100000 in
theorem wi_20 : ∀ w ∈ wsL_law_r20, w ∈ lw_tbl := in_idx [641, 642, 643, 644, 645, 646, 647, 453, 454, 455, 456, 759, 760, 761, 762, 457, 458, 459, 460, 648, 649, 650, 651, 461] rfl
set_option maxRecDepth 100000 in
theorem wi_21 : ∀ w ∈ wsL_law_r21, w ∈ lw_tbl := in_idx [462, 463, 464, 763, 764, 765, 766, 465, 466, 467, 468, 652, 653, 654, 655, 469, 470, 471, 472, 475, 25, 476, 767, 768] rfl
set_option maxRecDepth 100000 in
theorem wi_22 : ∀ w ∈ wsL_law_r22, w ∈ lw_tbl := in_idx [769, 770, 771, 477, 478, 479, 480, 481, 656, 657, 658, 659, 660, 482, 483, 484, 485, 772, 773, 774, 775, 486, 487, 488] rfl
set_option maxRecDepth 100000 in
theorem wi_23 : ∀ w ∈ wsL_law_r23, w ∈ lw_tbl := in_idx [489, 625, 626, 627, 628, 490, 491, 492, 493, 494, 496, 26, 497, 776, 777, 778, 779] rfl
set_option maxRecDepth 100000 in
theorem wl_X0 : ∀ w ∈ wsX00, w ∈ lw_tbl := in_idx [202, 204, 206] rfl
set_option maxRecDepth 100000 in
theorem wl_X1 : ∀ w ∈ wsX10, w ∈ lw_tbl := in_idx [181] rfl
set_option maxRecDepth 100000 in
theorem wl_X2 : ∀ w ∈ wsX20, w ∈ lw_tbl := in_idx [107, 109, 111, 113, 115, 117, 119, 121, 123, 125, 127, 129, 131, 133, 135, 137] rfl
set_option maxRecDepth 100000 in
theorem wl_X3 : ∀ w ∈ wsX30, w ∈ lw_tbl := in_idx [159, 161, 163, 165, 167, 169, 171] rfl
set_option maxRecDepth 100000 in
theorem wl_X4 : ∀ w ∈ wsX40, w ∈ lw_tbl := in_idx [220, 222, 224, 226, 228, 230, 232, 234, 236, 238] rfl
set_option maxRecDepth 100000 in
theorem wl_X5 : ∀ w ∈ wsX50, w ∈ lw_tbl := in_idx [538, 540, 542, 544, 546, 548, 550, 552, 554, 556, 558, 560, 562, 564, 566, 568, 570, 572, 574, 576, 578, 580, 582, 584, 586, 588, 590] rfl
set_option maxRecDepth 100000 in
theorem wn_all : ∀ w ∈ nwL, w ∈ lw_tbl := in_idx [58, 144, 176, 184, 191, 253, 263, 279, 311, 315, 319, 334, 338, 342, 349, 353, 366, 370, 375, 388, 392, 434, 449, 473, 63, 64, 66, 67, 69, 71, 72, 74, 75, 77, 78, 80, 81, 83, 84, 86, 87, 89, 90, 92, 93, 94, 95, 96, 98, 99, 101, 103, 104, 105, 106, 150, 152, 154, 158, 197, 199, 201] rfl
theorem wsL_law_in : ∀ w ∈ wsL_law, w ∈ lw_tbl := List.forall_mem_append.mpr ⟨(List.forall_mem_append.mpr ⟨(List.forall_mem_append.mpr ⟨(List.forall_mem_append.mpr ⟨(List.forall_mem_append.mpr ⟨(List.forall_mem_append.mpr ⟨(List.forall_mem_append.mpr ⟨(List.forall_mem_append.mpr ⟨wi_1, (List.forall_mem_append.mpr ⟨wi_2, (List.forall_mem_append.mpr ⟨wi_3, (List.forall_mem_append.mpr ⟨wi_4, (List.forall_mem_append.mpr ⟨wi_5, (List.forall_mem_append.mpr ⟨wi_6, (List.forall_mem_append.mpr ⟨wi_7, (List.forall_mem_append.mpr ⟨wi_8, (List.forall_mem_append.mpr ⟨wi_9, (List.forall_mem_append.mpr ⟨wi_10, (List.forall_mem_append.mpr ⟨wi_11, (List.forall_mem_append.mpr ⟨wi_12, (List.forall_mem_append.mpr ⟨wi_13, (List.forall_mem_append.mpr ⟨wi_14, (List.forall_mem_append.mpr ⟨wi_15, (List.forall_mem_append.mpr ⟨wi_16, (List.forall_mem_append.mpr ⟨wi_17, (List.forall_mem_append.mpr ⟨wi_18, (List.forall_mem_append.mpr ⟨wi_19, (List.forall_mem_append.mpr ⟨wi_20, (List.forall_mem_append.mpr ⟨wi_21, (List.forall_mem_append.mpr ⟨wi_22, wi_23⟩)⟩)⟩)⟩)⟩)⟩)⟩)⟩)⟩)⟩)⟩)⟩)⟩)⟩)⟩)⟩)⟩)⟩)⟩)⟩)⟩)⟩), wl_X4⟩), wl_X5⟩), wl_X2⟩), wl_X3⟩), wl_X1⟩), wl_X0⟩), fun _ h => absurd h List.not_mem_nil⟩
/-! THE CLAIM OUT OF ONE WALK OF THE LAW'S BODY. Your part is whole_start (and what it stands on); all else here is the same for every law, but numbers. -/
def R_law : String := "AreaGoalsLaw"
def lw_P (b : Addr) (xs : List Int32) (args : Array Value) (s : State) : Prop := args = #[.ref b] ∧ s.IntsAt b xs ∧ xs.length ≤ 3585 ∧ (Jvm.Cond.and given_1 narrow_1).before args s = true
def lw_Q (_ : Array Value) (s : State) (o : Outcome) (t : State) : Prop := o = .returned (some (.int 1)) ∧ Framed s o t [] 28 2553
def lw_Z (below : List Frame) (a : Array Value) (s : State) : State → Prop := fun t => ∃ o, t.status = .running ∧ Ended t below o ∧ lw_Q a s o t
/-- the law's own end, with 1 on the stack, nothing written that was there before, its room as the claim has it -/
theorem lw_ret {p : Program} {l : Launch} {e : Env} {s : State} {m : MethodId} {below : List Frame} {meth : Method} {c : Code} {b : Nat} (hx : p.tables.exec = Jvm.exec) (hb : c.code = code) (hr : meth.sig.returnType = ret) (hlocks : meth.locks = false) {pc : Nat} {H : Heap} {ls : Array Slot} (hdg : decode code pc = .ok (.ireturn, 1)) : W p l e room_1 s m #[Value.ref b] below meth c H [] 28 2553 (lw_Z below #[Value.ref b] s) (F0 m pc ls [.int 1]) := by
  intro T hT X
  obtain ⟨fs, hret, hrun, hended, hW, hframe⟩ := X.leave (v := some (.int 1)) (hlocks := hlocks) (fun h => by rw [hr] at h; cases h)
  have hmeth' : T.vm.method? m = some meth := X.method'
  refine ⟨T.setFrames fs, ?_, .returned (some (.int 1)), hrun, hended, rfl, ⟨_, rfl⟩, hW, hframe⟩
  jvm_step X.here [X.here.top, hx, hb, hdg, hmeth', hr, ret, narrow_b1]
  (try refine ⟨rfl, ?_⟩); (try refine ⟨rfl, ?_⟩)
  first | (intro acts; rw [hret _ acts rfl rfl rfl]) | rw [hret _ _ rfl rfl rfl]
  exact Steps.refl _
/-- what holds at the law's entry: the machine, the code, the tables' words (any of lw_tbl by 'hts w (by decide +kernel)'), the script of L ints xs at the cell b, what the Statement gives of the start (any of its parts by flat_of_before) -/
def lw_At (p : Program) (s : State) (m : MethodId) (meth : Method) (c : Code) (b L : Nat) (xs : Nat → Int32) : Prop :=
  p.tables.exec = Jvm.exec ∧ c.code = code ∧ meth.sig.returnType = ret ∧ c.maxLocals = 4 ∧ s.vm.findClass R_law = some m.cls ∧ (∀ w ∈ lw_tbl, w.before #[Value.ref b] s = true) ∧ va_X b L xs s s.heap ∧ b < s.heap.size ∧ meth.locks = false ∧ (Jvm.Cond.and given_1 narrow_1).before #[Value.ref b] s = true
