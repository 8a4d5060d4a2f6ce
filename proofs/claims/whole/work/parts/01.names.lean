-- ===== PART A: goes FIRST, ahead of the names: the tables' words, and 'selects' of the private methods out of them =====
/-- a private method of a class that the tables say can be made, by its rows of tables_1 -/
def lw_okq (q : MethodName × Nat) : Prop := (q.1.cls ≠ "java/lang/invoke/MethodHandle" ∧ q.1.cls ≠ "java/lang/invoke/VarHandle") ∧ Cond.instantiable q.1.cls q.2 ∈ tables_1 ∧ Cond.privateMethod q.1 ∈ tables_1 ∧ Cond.instanceMethod q.1 ∈ tables_1
theorem lw_p0 : lw_okq (⟨"AreaGoals$Draw", "start", "(J)V"⟩, 1) := ⟨⟨by decide +kernel, by decide +kernel⟩, List.mem_of_getElem? (i := 135) (by decide +kernel), List.mem_of_getElem? (i := 145) (by decide +kernel), List.mem_of_getElem? (i := 146) (by decide +kernel)⟩
theorem lw_p1 : lw_okq (⟨"AreaGoals$Sea", "hasCell", "(I)Z"⟩, 16) := ⟨⟨by decide +kernel, by decide +kernel⟩, List.mem_of_getElem? (i := 17) (by decide +kernel), List.mem_of_getElem? (i := 214) (by decide +kernel), List.mem_of_getElem? (i := 215) (by decide +kernel)⟩
theorem lw_p2 : lw_okq (⟨"AreaGoals$Sea", "putAmount", "(IIJ)V"⟩, 16) := ⟨⟨by decide +kernel, by decide +kernel⟩, List.mem_of_getElem? (i := 17) (by decide +kernel), List.mem_of_getElem? (i := 224) (by decide +kernel), List.mem_of_getElem? (i := 225) (by decide +kernel)⟩
theorem lw_p3 : lw_okq (⟨"AreaGoals$Sea", "hasPair", "(II)Z"⟩, 16) := ⟨⟨by decide +kernel, by decide +kernel⟩, List.mem_of_getElem? (i := 17) (by decide +kernel), List.mem_of_getElem? (i := 240) (by decide +kernel), List.mem_of_getElem? (i := 241) (by decide +kernel)⟩
theorem lw_p4 : lw_okq (⟨"AreaGoals", "findClashes", "()I"⟩, 10) := ⟨⟨by decide +kernel, by decide +kernel⟩, List.mem_of_getElem? (i := 9) (by decide +kernel), List.mem_of_getElem? (i := 268) (by decide +kernel), List.mem_of_getElem? (i := 269) (by decide +kernel)⟩
theorem lw_p5 : lw_okq (⟨"AreaGoals$Sea", "openSet", "()I"⟩, 16) := ⟨⟨by decide +kernel, by decide +kernel⟩, List.mem_of_getElem? (i := 17) (by decide +kernel), List.mem_of_getElem? (i := 272) (by decide +kernel), List.mem_of_getElem? (i := 273) (by decide +kernel)⟩
theorem lw_p6 : lw_okq (⟨"AreaGoals$Tally", "begin", "(I)V"⟩, 7) := ⟨⟨by decide +kernel, by decide +kernel⟩, List.mem_of_getElem? (i := 103) (by decide +kernel), List.mem_of_getElem? (i := 276) (by decide +kernel), List.mem_of_getElem? (i := 277) (by decide +kernel)⟩
theorem lw_p7 : lw_okq (⟨"AreaGoals$Tally", "exchange", "(I)V"⟩, 7) := ⟨⟨by decide +kernel, by decide +kernel⟩, List.mem_of_getElem? (i := 103) (by decide +kernel), List.mem_of_getElem? (i := 281) (by decide +kernel), List.mem_of_getElem? (i := 282) (by decide +kernel)⟩
theorem lw_p8 : lw_okq (⟨"AreaGoals$Tally", "borderGainedBy", "(II)J"⟩, 7) := ⟨⟨by decide +kernel, by decide +kernel⟩, List.mem_of_getElem? (i := 103) (by decide +kernel), List.mem_of_getElem? (i := 291) (by decide +kernel), List.mem_of_getElem? (i := 292) (by decide +kernel)⟩
theorem lw_p9 : lw_okq (⟨"AreaGoals$Tally", "meetsGoal", "(I)Z"⟩, 7) := ⟨⟨by decide +kernel, by decide +kernel⟩, List.mem_of_getElem? (i := 103) (by decide +kernel), List.mem_of_getElem? (i := 295) (by decide +kernel), List.mem_of_getElem? (i := 296) (by decide +kernel)⟩
theorem lw_p10 : lw_okq (⟨"AreaGoals$Choice", "clear", "()V"⟩, 3) := ⟨⟨by decide +kernel, by decide +kernel⟩, List.mem_of_getElem? (i := 150) (by decide +kernel), List.mem_of_getElem? (i := 299) (by decide +kernel), List.mem_of_getElem? (i := 300) (by decide +kernel)⟩
theorem lw_p11 : lw_okq (⟨"AreaGoals$Sea", "freeSet", "()I"⟩, 16) := ⟨⟨by decide +kernel, by decide +kernel⟩, List.mem_of_getElem? (i := 17) (by decide +kernel), List.mem_of_getElem? (i := 303) (by decide +kernel), List.mem_of_getElem? (i := 304) (by decide +kernel)⟩
theorem lw_p12 : lw_okq (⟨"AreaGoals$Sea", "costsOf", "(I)J"⟩, 16) := ⟨⟨by decide +kernel, by decide +kernel⟩, List.mem_of_getElem? (i := 17) (by decide +kernel), List.mem_of_getElem? (i := 310) (by decide +kernel), List.mem_of_getElem? (i := 311) (by decide +kernel)⟩
theorem lw_p13 : lw_okq (⟨"AreaGoals", "search", "()V"⟩, 10) := ⟨⟨by decide +kernel, by decide +kernel⟩, List.mem_of_getElem? (i := 9) (by decide +kernel), List.mem_of_getElem? (i := 315) (by decide +kernel), List.mem_of_getElem? (i := 316) (by decide +kernel)⟩
theorem lw_p14 : lw_okq (⟨"AreaGoals", "listFreeCells", "()I"⟩, 10) := ⟨⟨by decide +kernel, by decide +kernel⟩, List.mem_of_getElem? (i := 9) (by decide +kernel), List.mem_of_getElem? (i := 319) (by decide +kernel), List.mem_of_getElem? (i := 320) (by decide +kernel)⟩
theorem lw_p15 : lw_okq (⟨"AreaGoals", "considerTally", "()V"⟩, 10) := ⟨⟨by decide +kernel, by decide +kernel⟩, List.mem_of_getElem? (i := 9) (by decide +kernel), List.mem_of_getElem? (i := 323) (by decide +kernel), List.mem_of_getElem? (i := 324) (by decide +kernel)⟩
def lw_privs_1 : List (MethodName × Nat) := [(⟨"AreaGoals$Draw", "start", "(J)V"⟩, 1), (⟨"AreaGoals$Sea", "hasCell", "(I)Z"⟩, 16), (⟨"AreaGoals$Sea", "putAmount", "(IIJ)V"⟩, 16), (⟨"AreaGoals$Sea", "hasPair", "(II)Z"⟩, 16), (⟨"AreaGoals", "findClashes", "()I"⟩, 10), (⟨"AreaGoals$Sea", "openSet", "()I"⟩, 16), (⟨"AreaGoals$Tally", "begin", "(I)V"⟩, 7), (⟨"AreaGoals$Tally", "exchange", "(I)V"⟩, 7), (⟨"AreaGoals$Tally", "borderGainedBy", "(II)J"⟩, 7), (⟨"AreaGoals$Tally", "meetsGoal", "(I)Z"⟩, 7), (⟨"AreaGoals$Choice", "clear", "()V"⟩, 3), (⟨"AreaGoals$Sea", "freeSet", "()I"⟩, 16), (⟨"AreaGoals$Sea", "costsOf", "(I)J"⟩, 16), (⟨"AreaGoals", "search", "()V"⟩, 10), (⟨"AreaGoals", "listFreeCells", "()I"⟩, 10), (⟨"AreaGoals", "considerTally", "()V"⟩, 10)]
theorem lw_r1 : ∀ q ∈ lw_privs_1, lw_okq q := List.forall_mem_cons.mpr ⟨lw_p0, List.forall_mem_cons.mpr ⟨lw_p1, List.forall_mem_cons.mpr ⟨lw_p2, List.forall_mem_cons.mpr ⟨lw_p3, List.forall_mem_cons.mpr ⟨lw_p4, List.forall_mem_cons.mpr ⟨lw_p5, List.forall_mem_cons.mpr ⟨lw_p6, List.forall_mem_cons.mpr ⟨lw_p7, List.forall_mem_cons.mpr ⟨lw_p8, List.forall_mem_cons.mpr ⟨lw_p9, List.forall_mem_cons.mpr ⟨lw_p10, List.forall_mem_cons.mpr ⟨lw_p11, List.forall_mem_cons.mpr ⟨lw_p12, List.forall_mem_cons.mpr ⟨lw_p13, List.forall_mem_cons.mpr ⟨lw_p14, List.forall_mem_cons.mpr ⟨lw_p15, fun _ h => absurd h List.not_mem_nil⟩⟩⟩⟩⟩⟩⟩⟩⟩⟩⟩⟩⟩⟩⟩⟩
theorem lw_p16 : lw_okq (⟨"AreaGoals$Tally", "price", "()J"⟩, 7) := ⟨⟨by decide +kernel, by decide +kernel⟩, List.mem_of_getElem? (i := 103) (by decide +kernel), List.mem_of_getElem? (i := 327) (by decide +kernel), List.mem_of_getElem? (i := 328) (by decide +kernel)⟩
theorem lw_p17 : lw_okq (⟨"AreaGoals$Choice", "isBeatenBy", "(IJ)Z"⟩, 3) := ⟨⟨by decide +kernel, by decide +kernel⟩, List.mem_of_getElem? (i := 150) (by decide +kernel), List.mem_of_getElem? (i := 331) (by decide +kernel), List.mem_of_getElem? (i := 332) (by decide +kernel)⟩
theorem lw_p18 : lw_okq (⟨"AreaGoals$Tally", "stands", "()Z"⟩, 7) := ⟨⟨by decide +kernel, by decide +kernel⟩, List.mem_of_getElem? (i := 103) (by decide +kernel), List.mem_of_getElem? (i := 336) (by decide +kernel), List.mem_of_getElem? (i := 337) (by decide +kernel)⟩
theorem lw_p19 : lw_okq (⟨"AreaGoals$Tally", "meetsGoals", "()Z"⟩, 7) := ⟨⟨by decide +kernel, by decide +kernel⟩, List.mem_of_getElem? (i := 103) (by decide +kernel), List.mem_of_getElem? (i := 340) (by decide +kernel), List.mem_of_getElem? (i := 341) (by decide +kernel)⟩
theorem lw_p20 : lw_okq (⟨"AreaGoals$Tally", "isFair", "()Z"⟩, 7) := ⟨⟨by decide +kernel, by decide +kernel⟩, List.mem_of_getElem? (i := 103) (by decide +kernel), List.mem_of_getElem? (i := 345) (by decide +kernel), List.mem_of_getElem? (i := 346) (by decide +kernel)⟩
theorem lw_p21 : lw_okq (⟨"AreaGoals$Choice", "take", "(IJ)V"⟩, 3) := ⟨⟨by decide +kernel, by decide +kernel⟩, List.mem_of_getElem? (i := 150) (by decide +kernel), List.mem_of_getElem? (i := 349) (by decide +kernel), List.mem_of_getElem? (i := 350) (by decide +kernel)⟩
theorem lw_p22 : lw_okq (⟨"AreaGoals", "drawnMoves", "(LAreaGoals$Draw;I)I"⟩, 10) := ⟨⟨by decide +kernel, by decide +kernel⟩, List.mem_of_getElem? (i := 9) (by decide +kernel), List.mem_of_getElem? (i := 391) (by decide +kernel), List.mem_of_getElem? (i := 392) (by decide +kernel)⟩
theorem lw_p23 : lw_okq (⟨"AreaGoals$Draw", "next", "()J"⟩, 1) := ⟨⟨by decide +kernel, by decide +kernel⟩, List.mem_of_getElem? (i := 135) (by decide +kernel), List.mem_of_getElem? (i := 395) (by decide +kernel), List.mem_of_getElem? (i := 396) (by decide +kernel)⟩
theorem lw_p24 : lw_okq (⟨"AreaGoals$Sea", "putHours", "(IIJ)V"⟩, 16) := ⟨⟨by decide +kernel, by decide +kernel⟩, List.mem_of_getElem? (i := 17) (by decide +kernel), List.mem_of_getElem? (i := 410) (by decide +kernel), List.mem_of_getElem? (i := 411) (by decide +kernel)⟩
theorem lw_p25 : lw_okq (⟨"AreaGoals$Sea", "comesBefore", "(II)Z"⟩, 16) := ⟨⟨by decide +kernel, by decide +kernel⟩, List.mem_of_getElem? (i := 17) (by decide +kernel), List.mem_of_getElem? (i := 434) (by decide +kernel), List.mem_of_getElem? (i := 435) (by decide +kernel)⟩
theorem lw_p26 : lw_okq (⟨"AreaGoals", "findExchangeable", "()I"⟩, 10) := ⟨⟨by decide +kernel, by decide +kernel⟩, List.mem_of_getElem? (i := 9) (by decide +kernel), List.mem_of_getElem? (i := 455) (by decide +kernel), List.mem_of_getElem? (i := 456) (by decide +kernel)⟩
theorem lw_p27 : lw_okq (⟨"AreaGoalsModel", "isCell", "(I)Z"⟩, 27) := ⟨⟨by decide +kernel, by decide +kernel⟩, List.mem_of_getElem? (i := 462) (by decide +kernel), List.mem_of_getElem? (i := 564) (by decide +kernel), List.mem_of_getElem? (i := 565) (by decide +kernel)⟩
theorem lw_p28 : lw_okq (⟨"AreaGoalsModel", "open", "()I"⟩, 27) := ⟨⟨by decide +kernel, by decide +kernel⟩, List.mem_of_getElem? (i := 462) (by decide +kernel), List.mem_of_getElem? (i := 626) (by decide +kernel), List.mem_of_getElem? (i := 627) (by decide +kernel)⟩
theorem lw_p29 : lw_okq (⟨"AreaGoalsModel", "meets", "(II)Z"⟩, 27) := ⟨⟨by decide +kernel, by decide +kernel⟩, List.mem_of_getElem? (i := 462) (by decide +kernel), List.mem_of_getElem? (i := 630) (by decide +kernel), List.mem_of_getElem? (i := 631) (by decide +kernel)⟩
theorem lw_p30 : lw_okq (⟨"AreaGoalsModel", "amount", "(II)J"⟩, 27) := ⟨⟨by decide +kernel, by decide +kernel⟩, List.mem_of_getElem? (i := 462) (by decide +kernel), List.mem_of_getElem? (i := 634) (by decide +kernel), List.mem_of_getElem? (i := 635) (by decide +kernel)⟩
theorem lw_p31 : lw_okq (⟨"AreaGoalsModel", "all", "()I"⟩, 27) := ⟨⟨by decide +kernel, by decide +kernel⟩, List.mem_of_getElem? (i := 462) (by decide +kernel), List.mem_of_getElem? (i := 641) (by decide +kernel), List.mem_of_getElem? (i := 642) (by decide +kernel)⟩
def lw_privs_2 : List (MethodName × Nat) := [(⟨"AreaGoals$Tally", "price", "()J"⟩, 7), (⟨"AreaGoals$Choice", "isBeatenBy", "(IJ)Z"⟩, 3), (⟨"AreaGoals$Tally", "stands", "()Z"⟩, 7), (⟨"AreaGoals$Tally", "meetsGoals", "()Z"⟩, 7), (⟨"AreaGoals$Tally", "isFair", "()Z"⟩, 7), (⟨"AreaGoals$Choice", "take", "(IJ)V"⟩, 3), (⟨"AreaGoals", "drawnMoves", "(LAreaGoals$Draw;I)I"⟩, 10), (⟨"AreaGoals$Draw", "next", "()J"⟩, 1), (⟨"AreaGoals$Sea", "putHours", "(IIJ)V"⟩, 16), (⟨"AreaGoals$Sea", "comesBefore", "(II)Z"⟩, 16), (⟨"AreaGoals", "findExchangeable", "()I"⟩, 10), (⟨"AreaGoalsModel", "isCell", "(I)Z"⟩, 27), (⟨"AreaGoalsModel", "open", "()I"⟩, 27), (⟨"AreaGoalsModel", "meets", "(II)Z"⟩, 27), (⟨"AreaGoalsModel", "amount", "(II)J"⟩, 27), (⟨"AreaGoalsModel", "all", "()I"⟩, 27)]
theorem lw_r2 : ∀ q ∈ lw_privs_2, lw_okq q := List.forall_mem_cons.mpr ⟨lw_p16, List.forall_mem_cons.mpr ⟨lw_p17, List.forall_mem_cons.mpr ⟨lw_p18, List.forall_mem_cons.mpr ⟨lw_p19, List.forall_mem_cons.mpr ⟨lw_p20, List.forall_mem_cons.mpr ⟨lw_p21, List.forall_mem_cons.mpr ⟨lw_p22, List.forall_mem_cons.mpr ⟨lw_p23, List.forall_mem_cons.mpr ⟨lw_p24, List.forall_mem_cons.mpr ⟨lw_p25, List.forall_mem_cons.mpr ⟨lw_p26, List.forall_mem_cons.mpr ⟨lw_p27, List.forall_mem_cons.mpr ⟨lw_p28, List.forall_mem_cons.mpr ⟨lw_p29, List.forall_mem_cons.mpr ⟨lw_p30, List.forall_mem_cons.mpr ⟨lw_p31, fun _ h => absurd h List.not_mem_nil⟩⟩⟩⟩⟩⟩⟩⟩⟩⟩⟩⟩⟩⟩⟩⟩
theorem lw_p32 : lw_okq (⟨"AreaGoalsModel", "become", "(ZIJ)V"⟩, 27) := ⟨⟨by decide +kernel, by decide +kernel⟩, List.mem_of_getElem? (i := 462) (by decide +kernel), List.mem_of_getElem? (i := 645) (by decide +kernel), List.mem_of_getElem? (i := 646) (by decide +kernel)⟩
theorem lw_p33 : lw_okq (⟨"AreaGoalsModel", "costOf", "(I)J"⟩, 27) := ⟨⟨by decide +kernel, by decide +kernel⟩, List.mem_of_getElem? (i := 462) (by decide +kernel), List.mem_of_getElem? (i := 649) (by decide +kernel), List.mem_of_getElem? (i := 650) (by decide +kernel)⟩
theorem lw_p34 : lw_okq (⟨"AreaGoalsModel", "borderOf", "(I)J"⟩, 27) := ⟨⟨by decide +kernel, by decide +kernel⟩, List.mem_of_getElem? (i := 462) (by decide +kernel), List.mem_of_getElem? (i := 653) (by decide +kernel), List.mem_of_getElem? (i := 654) (by decide +kernel)⟩
theorem lw_p35 : lw_okq (⟨"AreaGoalsModel", "isBefore", "(II)Z"⟩, 27) := ⟨⟨by decide +kernel, by decide +kernel⟩, List.mem_of_getElem? (i := 462) (by decide +kernel), List.mem_of_getElem? (i := 657) (by decide +kernel), List.mem_of_getElem? (i := 658) (by decide +kernel)⟩
theorem lw_p36 : lw_okq (⟨"AreaGoalsModel", "count", "(I)I"⟩, 27) := ⟨⟨by decide +kernel, by decide +kernel⟩, List.mem_of_getElem? (i := 462) (by decide +kernel), List.mem_of_getElem? (i := 661) (by decide +kernel), List.mem_of_getElem? (i := 662) (by decide +kernel)⟩
theorem lw_p37 : lw_okq (⟨"AreaGoalsModel", "stands", "(I)Z"⟩, 27) := ⟨⟨by decide +kernel, by decide +kernel⟩, List.mem_of_getElem? (i := 462) (by decide +kernel), List.mem_of_getElem? (i := 665) (by decide +kernel), List.mem_of_getElem? (i := 666) (by decide +kernel)⟩
theorem lw_p38 : lw_okq (⟨"AreaGoalsModel", "hoursIn", "(II)J"⟩, 27) := ⟨⟨by decide +kernel, by decide +kernel⟩, List.mem_of_getElem? (i := 462) (by decide +kernel), List.mem_of_getElem? (i := 669) (by decide +kernel), List.mem_of_getElem? (i := 670) (by decide +kernel)⟩
theorem lw_p39 : lw_okq (⟨"AreaGoalsModel", "steps", "(JI)J"⟩, 27) := ⟨⟨by decide +kernel, by decide +kernel⟩, List.mem_of_getElem? (i := 462) (by decide +kernel), List.mem_of_getElem? (i := 698) (by decide +kernel), List.mem_of_getElem? (i := 699) (by decide +kernel)⟩
def lw_privs_3 : List (MethodName × Nat) := [(⟨"AreaGoalsModel", "become", "(ZIJ)V"⟩, 27), (⟨"AreaGoalsModel", "costOf", "(I)J"⟩, 27), (⟨"AreaGoalsModel", "borderOf", "(I)J"⟩, 27), (⟨"AreaGoalsModel", "isBefore", "(II)Z"⟩, 27), (⟨"AreaGoalsModel", "count", "(I)I"⟩, 27), (⟨"AreaGoalsModel", "stands", "(I)Z"⟩, 27), (⟨"AreaGoalsModel", "hoursIn", "(II)J"⟩, 27), (⟨"AreaGoalsModel", "steps", "(JI)J"⟩, 27)]
theorem lw_r3 : ∀ q ∈ lw_privs_3, lw_okq q := List.forall_mem_cons.mpr ⟨lw_p32, List.forall_mem_cons.mpr ⟨lw_p33, List.forall_mem_cons.mpr ⟨lw_p34, List.forall_mem_cons.mpr ⟨lw_p35, List.forall_mem_cons.mpr ⟨lw_p36, List.forall_mem_cons.mpr ⟨lw_p37, List.forall_mem_cons.mpr ⟨lw_p38, List.forall_mem_cons.mpr ⟨lw_p39, fun _ h => absurd h List.not_mem_nil⟩⟩⟩⟩⟩⟩⟩⟩
def lw_privs : List (MethodName × Nat) := lw_privs_1 ++ (lw_privs_2 ++ (lw_privs_3))
def lw_tbl : List Cond := k2_sels lw_privs ++ tables_1
theorem lw_privs_ok : ∀ q ∈ lw_privs, lw_okq q := by
  show ∀ q ∈ lw_privs_1 ++ (lw_privs_2 ++ (lw_privs_3)), lw_okq q
  exact List.forall_mem_append.mpr ⟨lw_r1, List.forall_mem_append.mpr ⟨lw_r2, lw_r3⟩⟩
theorem goodIn_r {big : List Cond} (ws : List Cond) (ps : List Nat) (hp : ws = ps.filterMap (fun i => big[i]?)) (h : ws.all goodWord = true) : GoodIn big ws := by
  intro w hw
  have h1 := List.all_eq_true.mp h w hw
  rw [hp] at hw
  obtain ⟨i, -, hi⟩ := List.mem_filterMap.mp hw
  have hm : w ∈ big := by first | exact List.mem_of_getElem? hi | exact List.getElem?_mem hi
  exact ⟨hm, good_of_word h1⟩
theorem goodIn_app {big a b : List Cond} (ha : GoodIn big a) (hb : GoodIn big b) : GoodIn big (a ++ b) := fun w h => (List.mem_append.mp h).elim (ha w) (hb w)
theorem goodIn_ca {big a b : List Cond} {c : Cond} (ha : GoodIn big (c :: a)) (hb : GoodIn big b) : GoodIn big (c :: (a ++ b)) := fun w h => (List.mem_cons.mp h).elim (fun e => ha w (List.mem_cons.mpr (Or.inl e))) (fun h => (List.mem_append.mp h).elim (fun h => ha w (List.mem_cons.mpr (Or.inr h))) (hb w))
theorem goodIn_sub {big ws : List Cond} (hm : ∀ w ∈ ws, w ∈ big) (h : ws.all goodWord = true) : GoodIn big ws := fun w hw => ⟨hm w hw, good_of_word (List.all_eq_true.mp h w hw)⟩
def RX0 : String := "AreaGoals$Choice"
def TX0 : u_T := fun k => match k with
  | 0 => ("AreaGoals$Choice", "there", "Z", false)
  | 1 => ("AreaGoals$Choice", "cells", "I", false)
  | _ => ("AreaGoals$Choice", "price", "J", false)
def tyX0 : Nat → FieldType := fun k => match k with
  | 0 => .boolean
  | 1 => .int
  | _ => .long
abbrev wsX00 : List Cond := u_ws RX0 TX0 3
theorem nmX0 : ∀ a, a < 3 → ∀ b, b < 3 → a ≠ b → (TX0 a).2.1 ≠ (TX0 b).2.1 := by decide +kernel
theorem tyX0_ok : ∀ k, k < 3 → parseFieldDescriptor (TX0 k).2.2.1 = some (tyX0 k) := by decide +kernel
abbrev cX0_init : ByteArray := prog_2_method_1_code
def yX0_init : MethodName := ⟨RX0, "<init>", "()V"⟩
abbrev cX0_clear : ByteArray := prog_2_method_2_code
def yX0_clear : MethodName := ⟨RX0, "clear", "()V"⟩
abbrev cX0_take : ByteArray := prog_2_method_3_code
def yX0_take : MethodName := ⟨RX0, "take", "(IJ)V"⟩
abbrev cX0_isBeatenBy : ByteArray := prog_2_method_4_code
def yX0_isBeatenBy : MethodName := ⟨RX0, "isBeatenBy", "(IJ)Z"⟩
def RX1 : String := "AreaGoals$Draw"
def TX1 : u_T := fun k => match k with
  | _ => ("AreaGoals$Draw", "x", "J", false)
def tyX1 : Nat → FieldType := fun k => match k with
  | _ => .long
abbrev wsX10 : List Cond := u_ws RX1 TX1 1
theorem nmX1 : ∀ a, a < 1 → ∀ b, b < 1 → a ≠ b → (TX1 a).2.1 ≠ (TX1 b).2.1 := by decide +kernel
theorem tyX1_ok : ∀ k, k < 1 → parseFieldDescriptor (TX1 k).2.2.1 = some (tyX1 k) := by decide +kernel
abbrev cX1_init : ByteArray := prog_3_method_1_code
def yX1_init : MethodName := ⟨RX1, "<init>", "()V"⟩
abbrev cX1_start : ByteArray := prog_3_method_2_code
def yX1_start : MethodName := ⟨RX1, "start", "(J)V"⟩
abbrev cX1_next : ByteArray := prog_3_method_3_code
def yX1_next : MethodName := ⟨RX1, "next", "()J"⟩
def RX2 : String := "AreaGoals$Sea"
def TX2 : u_T := fun k => match k with
  | 0 => ("AreaGoals$Sea", "costs", "[J", true)
  | 1 => ("AreaGoals$Sea", "amounts", "[J", true)
  | 2 => ("AreaGoals$Sea", "hours", "[J", true)
  | 3 => ("AreaGoals$Sea", "borders", "[J", true)
  | 4 => ("AreaGoals$Sea", "tooFar", "[I", true)
  | 5 => ("AreaGoals$Sea", "kindTotals", "[J", true)
  | 6 => ("AreaGoals$Sea", "portTotals", "[J", true)
  | 7 => ("AreaGoals$Sea", "goalAbove", "[J", true)
  | 8 => ("AreaGoals$Sea", "goalBelow", "[J", true)
  | 9 => ("AreaGoals$Sea", "fairAbove", "J", false)
  | 10 => ("AreaGoals$Sea", "fairBelow", "J", false)
  | 11 => ("AreaGoals$Sea", "borderWeight", "J", false)
  | 12 => ("AreaGoals$Sea", "cells", "I", false)
  | 13 => ("AreaGoals$Sea", "needed", "I", false)
  | 14 => ("AreaGoals$Sea", "barred", "I", false)
  | _ => ("AreaGoals$Sea", "fewest", "I", false)
def tyX2 : Nat → FieldType := fun k => match k with
  | 0 => .array .long
  | 1 => .array .long
  | 2 => .array .long
  | 3 => .array .long
  | 4 => .array .int
  | 5 => .array .long
  | 6 => .array .long
  | 7 => .array .long
  | 8 => .array .long
  | 9 => .long
  | 10 => .long
  | 11 => .long
  | 12 => .int
  | 13 => .int
  | 14 => .int
  | _ => .int
abbrev wsX20 : List Cond := u_ws RX2 TX2 16
theorem nmX2 : ∀ a, a < 16 → ∀ b, b < 16 → a ≠ b → (TX2 a).2.1 ≠ (TX2 b).2.1 := by decide +kernel
theorem tyX2_ok : ∀ k, k < 16 → parseFieldDescriptor (TX2 k).2.2.1 = some (tyX2 k) := by decide +kernel
abbrev cX2_init : ByteArray := prog_4_method_1_code
def yX2_init : MethodName := ⟨RX2, "<init>", "()V"⟩
abbrev cX2_hasCell : ByteArray := prog_4_method_2_code
def yX2_hasCell : MethodName := ⟨RX2, "hasCell", "(I)Z"⟩
abbrev cX2_hasPair : ByteArray := prog_4_method_3_code
def yX2_hasPair : MethodName := ⟨RX2, "hasPair", "(II)Z"⟩
abbrev cX2_putAmount : ByteArray := prog_4_method_4_code
def yX2_putAmount : MethodName := ⟨RX2, "putAmount", "(IIJ)V"⟩
abbrev cX2_putHours : ByteArray := prog_4_method_5_code
def yX2_putHours : MethodName := ⟨RX2, "putHours", "(IIJ)V"⟩
abbrev cX2_openSet : ByteArray := prog_4_method_6_code
def yX2_openSet : MethodName := ⟨RX2, "openSet", "()I"⟩
abbrev cX2_freeSet : ByteArray := prog_4_method_7_code
def yX2_freeSet : MethodName := ⟨RX2, "freeSet", "()I"⟩
abbrev cX2_costsOf : ByteArray := prog_4_method_8_code
def yX2_costsOf : MethodName := ⟨RX2, "costsOf", "(I)J"⟩
abbrev cX2_comesBefore : ByteArray := prog_4_method_9_code
def yX2_comesBefore : MethodName := ⟨RX2, "comesBefore", "(II)Z"⟩
def RX3 : String := "AreaGoals$Tally"
def TX3 : u_T := fun k => match k with
  | 0 => ("AreaGoals$Tally", "sea", "LAreaGoals$Sea;", true)
  | 1 => ("AreaGoals$Tally", "amounts", "[J", true)
  | 2 => ("AreaGoals$Tally", "hours", "[J", true)
  | 3 => ("AreaGoals$Tally", "cells", "I", false)
  | 4 => ("AreaGoals$Tally", "farPairs", "I", false)
  | 5 => ("AreaGoals$Tally", "cellCosts", "J", false)
  | _ => ("AreaGoals$Tally", "borderLength", "J", false)
def tyX3 : Nat → FieldType := fun k => match k with
  | 0 => .object "AreaGoals$Sea"
  | 1 => .array .long
  | 2 => .array .long
  | 3 => .int
  | 4 => .int
  | 5 => .long
  | _ => .long
abbrev wsX30 : List Cond := u_ws RX3 TX3 7
theorem nmX3 : ∀ a, a < 7 → ∀ b, b < 7 → a ≠ b → (TX3 a).2.1 ≠ (TX3 b).2.1 := by decide +kernel
theorem tyX3_ok : ∀ k, k < 7 → parseFieldDescriptor (TX3 k).2.2.1 = some (tyX3 k) := by decide +kernel
abbrev cX3_init : ByteArray := prog_5_method_1_code
def yX3_init : MethodName := ⟨RX3, "<init>", "(LAreaGoals$Sea;)V"⟩
abbrev cX3_begin : ByteArray := prog_5_method_2_code
def yX3_begin : MethodName := ⟨RX3, "begin", "(I)V"⟩
abbrev cX3_exchange : ByteArray := prog_5_method_3_code
def yX3_exchange : MethodName := ⟨RX3, "exchange", "(I)V"⟩
abbrev cX3_borderGainedBy : ByteArray := prog_5_method_4_code
def yX3_borderGainedBy : MethodName := ⟨RX3, "borderGainedBy", "(II)J"⟩
abbrev cX3_price : ByteArray := prog_5_method_5_code
def yX3_price : MethodName := ⟨RX3, "price", "()J"⟩
abbrev cX3_stands : ByteArray := prog_5_method_6_code
def yX3_stands : MethodName := ⟨RX3, "stands", "()Z"⟩
abbrev cX3_meetsGoals : ByteArray := prog_5_method_7_code
def yX3_meetsGoals : MethodName := ⟨RX3, "meetsGoals", "()Z"⟩
abbrev cX3_meetsGoal : ByteArray := prog_5_method_8_code
def yX3_meetsGoal : MethodName := ⟨RX3, "meetsGoal", "(I)Z"⟩
abbrev cX3_isFair : ByteArray := prog_5_method_9_code
def yX3_isFair : MethodName := ⟨RX3, "isFair", "()Z"⟩
def RX4 : String := "AreaGoals"
def TX4 : u_T := fun k => match k with
  | 0 => ("AreaGoals", "sea", "LAreaGoals$Sea;", true)
  | 1 => ("AreaGoals", "tally", "LAreaGoals$Tally;", true)
  | 2 => ("AreaGoals", "draw", "LAreaGoals$Draw;", true)
  | 3 => ("AreaGoals", "trialDraw", "LAreaGoals$Draw;", true)
  | 4 => ("AreaGoals", "latest", "LAreaGoals$Choice;", true)
  | 5 => ("AreaGoals", "freeCells", "[I", true)
  | 6 => ("AreaGoals", "cellsBefore", "I", false)
  | 7 => ("AreaGoals", "runAnswer", "I", false)
  | 8 => ("AreaGoals", "toldBound", "J", false)
  | _ => ("AreaGoals", "clashingKinds", "I", false)
def tyX4 : Nat → FieldType := fun k => match k with
  | 0 => .object "AreaGoals$Sea"
  | 1 => .object "AreaGoals$Tally"
  | 2 => .object "AreaGoals$Draw"
  | 3 => .object "AreaGoals$Draw"
  | 4 => .object "AreaGoals$Choice"
  | 5 => .array .int
  | 6 => .int
  | 7 => .int
  | 8 => .long
  | _ => .int
abbrev wsX40 : List Cond := u_ws RX4 TX4 10
theorem nmX4 : ∀ a, a < 10 → ∀ b, b < 10 → a ≠ b → (TX4 a).2.1 ≠ (TX4 b).2.1 := by decide +kernel
theorem tyX4_ok : ∀ k, k < 10 → parseFieldDescriptor (TX4 k).2.2.1 = some (tyX4 k) := by decide +kernel
abbrev cX4_init : ByteArray := prog_1_method_1_code
def yX4_init : MethodName := ⟨RX4, "<init>", "(J)V"⟩
abbrev cX4_cell : ByteArray := prog_1_method_2_code
def yX4_cell : MethodName := ⟨RX4, "cell", "(J)I"⟩
abbrev cX4_holds : ByteArray := prog_1_method_3_code
def yX4_holds : MethodName := ⟨RX4, "holds", "(IIJJ)Z"⟩
abbrev cX4_goal : ByteArray := prog_1_method_4_code
def yX4_goal : MethodName := ⟨RX4, "goal", "(IJJ)Z"⟩
abbrev cX4_near : ByteArray := prog_1_method_5_code
def yX4_near : MethodName := ⟨RX4, "near", "(IIJ)Z"⟩
abbrev cX4_weight : ByteArray := prog_1_method_6_code
def yX4_weight : MethodName := ⟨RX4, "weight", "(J)Z"⟩
abbrev cX4_must : ByteArray := prog_1_method_7_code
def yX4_must : MethodName := ⟨RX4, "must", "(I)Z"⟩
abbrev cX4_bar : ByteArray := prog_1_method_8_code
def yX4_bar : MethodName := ⟨RX4, "bar", "(I)Z"⟩
abbrev cX4_zone : ByteArray := prog_1_method_9_code
def yX4_zone : MethodName := ⟨RX4, "zone", "(II)I"⟩
abbrev cX4_run : ByteArray := prog_1_method_10_code
def yX4_run : MethodName := ⟨RX4, "run", "(J)I"⟩
abbrev cX4_chosen : ByteArray := prog_1_method_11_code
def yX4_chosen : MethodName := ⟨RX4, "chosen", "(I)Z"⟩
abbrev cX4_cost : ByteArray := prog_1_method_12_code
def yX4_cost : MethodName := ⟨RX4, "cost", "()J"⟩
abbrev cX4_bound : ByteArray := prog_1_method_13_code
def yX4_bound : MethodName := ⟨RX4, "bound", "()J"⟩
abbrev cX4_met : ByteArray := prog_1_method_14_code
def yX4_met : MethodName := ⟨RX4, "met", "(II)J"⟩
abbrev cX4_clash : ByteArray := prog_1_method_15_code
def yX4_clash : MethodName := ⟨RX4, "clash", "(I)I"⟩
abbrev cX4_proved : ByteArray := prog_1_method_16_code
def yX4_proved : MethodName := ⟨RX4, "proved", "()Z"⟩
abbrev cX4_improve : ByteArray := prog_1_method_17_code
def yX4_improve : MethodName := ⟨RX4, "improve", "(I)I"⟩
abbrev cX4_often : ByteArray := prog_1_method_18_code
def yX4_often : MethodName := ⟨RX4, "often", "(II)J"⟩
abbrev cX4_port : ByteArray := prog_1_method_19_code
def yX4_port : MethodName := ⟨RX4, "port", "(IIJ)Z"⟩
abbrev cX4_loss : ByteArray := prog_1_method_20_code
def yX4_loss : MethodName := ⟨RX4, "loss", "(II)J"⟩
abbrev cX4_fair : ByteArray := prog_1_method_21_code
def yX4_fair : MethodName := ⟨RX4, "fair", "(JJ)Z"⟩
abbrev cX4_border : ByteArray := prog_1_method_22_code
def yX4_border : MethodName := ⟨RX4, "border", "()J"⟩
abbrev cX4_size : ByteArray := prog_1_method_23_code
def yX4_size : MethodName := ⟨RX4, "size", "(I)I"⟩
abbrev cX4_year : ByteArray := prog_1_method_24_code
def yX4_year : MethodName := ⟨RX4, "year", "(I)I"⟩
abbrev cX4_wind : ByteArray := prog_1_method_25_code
def yX4_wind : MethodName := ⟨RX4, "wind", "(IJ)Z"⟩
abbrev cX4_unlike : ByteArray := prog_1_method_26_code
def yX4_unlike : MethodName := ⟨RX4, "unlike", "(I)I"⟩
abbrev cX4_far : ByteArray := prog_1_method_27_code
def yX4_far : MethodName := ⟨RX4, "far", "(III)Z"⟩
abbrev cX4_tie : ByteArray := prog_1_method_28_code
def yX4_tie : MethodName := ⟨RX4, "tie", "(I)I"⟩
abbrev cX4_within : ByteArray := prog_1_method_29_code
def yX4_within : MethodName := ⟨RX4, "within", "(JJ)Z"⟩
abbrev cX4_isShare : ByteArray := prog_1_method_30_code
def yX4_isShare : MethodName := ⟨RX4, "isShare", "(JJ)Z"⟩
abbrev cX4_isKind : ByteArray := prog_1_method_31_code
def yX4_isKind : MethodName := ⟨RX4, "isKind", "(I)Z"⟩
abbrev cX4_isPort : ByteArray := prog_1_method_32_code
def yX4_isPort : MethodName := ⟨RX4, "isPort", "(I)Z"⟩
abbrev cX4_hasBit : ByteArray := prog_1_method_33_code
def yX4_hasBit : MethodName := ⟨RX4, "hasBit", "(II)Z"⟩
abbrev cX4_placeOfBit : ByteArray := prog_1_method_34_code
def yX4_placeOfBit : MethodName := ⟨RX4, "placeOfBit", "(II)I"⟩
abbrev cX4_partOf : ByteArray := prog_1_method_35_code
def yX4_partOf : MethodName := ⟨RX4, "partOf", "(JJI)J"⟩
abbrev cX4_commonDivisor : ByteArray := prog_1_method_36_code
def yX4_commonDivisor : MethodName := ⟨RX4, "commonDivisor", "(JJ)J"⟩
abbrev cX4_findClashes : ByteArray := prog_1_method_37_code
def yX4_findClashes : MethodName := ⟨RX4, "findClashes", "()I"⟩
abbrev cX4_search : ByteArray := prog_1_method_38_code
def yX4_search : MethodName := ⟨RX4, "search", "()V"⟩
abbrev cX4_considerTally : ByteArray := prog_1_method_39_code
def yX4_considerTally : MethodName := ⟨RX4, "considerTally", "()V"⟩
abbrev cX4_listFreeCells : ByteArray := prog_1_method_40_code
def yX4_listFreeCells : MethodName := ⟨RX4, "listFreeCells", "()I"⟩
abbrev cX4_drawnMoves : ByteArray := prog_1_method_41_code
def yX4_drawnMoves : MethodName := ⟨RX4, "drawnMoves", "(LAreaGoals$Draw;I)I"⟩
abbrev cX4_findExchangeable : ByteArray := prog_1_method_42_code
def yX4_findExchangeable : MethodName := ⟨RX4, "findExchangeable", "()I"⟩
def RX5 : String := "AreaGoalsModel"
def TX5 : u_T := fun k => match k with
  | 0 => ("AreaGoalsModel", "cells", "I", false)
  | 1 => ("AreaGoalsModel", "costs", "[J", true)
  | 2 => ("AreaGoalsModel", "states", "[I", true)
  | 3 => ("AreaGoalsModel", "amounts", "[J", true)
  | 4 => ("AreaGoalsModel", "hours", "[J", true)
  | 5 => ("AreaGoalsModel", "borders", "[J", true)
  | 6 => ("AreaGoalsModel", "apart", "[Z", true)
  | 7 => ("AreaGoalsModel", "hasGoal", "[Z", true)
  | 8 => ("AreaGoalsModel", "goalAbove", "[J", true)
  | 9 => ("AreaGoalsModel", "goalBelow", "[J", true)
  | 10 => ("AreaGoalsModel", "isFair", "Z", false)
  | 11 => ("AreaGoalsModel", "fairAbove", "J", false)
  | 12 => ("AreaGoalsModel", "fairBelow", "J", false)
  | 13 => ("AreaGoalsModel", "weight", "J", false)
  | 14 => ("AreaGoalsModel", "least", "I", false)
  | 15 => ("AreaGoalsModel", "draw", "J", false)
  | 16 => ("AreaGoalsModel", "hasChoice", "Z", false)
  | 17 => ("AreaGoalsModel", "choice", "I", false)
  | 18 => ("AreaGoalsModel", "earlier", "I", false)
  | 19 => ("AreaGoalsModel", "cost", "J", false)
  | 20 => ("AreaGoalsModel", "hasRun", "Z", false)
  | 21 => ("AreaGoalsModel", "answer", "I", false)
  | 22 => ("AreaGoalsModel", "bound", "J", false)
  | 23 => ("AreaGoalsModel", "clashes", "I", false)
  | 24 => ("AreaGoalsModel", "tried", "I", false)
  | 25 => ("AreaGoalsModel", "triedCost", "J", false)
  | _ => ("AreaGoalsModel", "kept", "I", false)
def tyX5 : Nat → FieldType := fun k => match k with
  | 0 => .int
  | 1 => .array .long
  | 2 => .array .int
  | 3 => .array .long
  | 4 => .array .long
  | 5 => .array .long
  | 6 => .array .boolean
  | 7 => .array .boolean
  | 8 => .array .long
  | 9 => .array .long
  | 10 => .boolean
  | 11 => .long
  | 12 => .long
  | 13 => .long
  | 14 => .int
  | 15 => .long
  | 16 => .boolean
  | 17 => .int
  | 18 => .int
  | 19 => .long
  | 20 => .boolean
  | 21 => .int
  | 22 => .long
  | 23 => .int
  | 24 => .int
  | 25 => .long
  | _ => .int
abbrev wsX50 : List Cond := u_ws RX5 TX5 27
theorem nmX5 : ∀ a, a < 27 → ∀ b, b < 27 → a ≠ b → (TX5 a).2.1 ≠ (TX5 b).2.1 := by decide +kernel
theorem tyX5_ok : ∀ k, k < 27 → parseFieldDescriptor (TX5 k).2.2.1 = some (tyX5 k) := by decide +kernel
abbrev cX5_init : ByteArray := prog_7_method_1_code
def yX5_init : MethodName := ⟨RX5, "<init>", "(J)V"⟩
abbrev cX5_begun : ByteArray := prog_7_method_2_code
def yX5_begun : MethodName := ⟨RX5, "begun", "(J)J"⟩
abbrev cX5_isCell : ByteArray := prog_7_method_3_code
def yX5_isCell : MethodName := ⟨RX5, "isCell", "(I)Z"⟩
abbrev cX5_isKind : ByteArray := prog_7_method_4_code
def yX5_isKind : MethodName := ⟨RX5, "isKind", "(I)Z"⟩
abbrev cX5_isPort : ByteArray := prog_7_method_5_code
def yX5_isPort : MethodName := ⟨RX5, "isPort", "(I)Z"⟩
abbrev cX5_isShare : ByteArray := prog_7_method_6_code
def yX5_isShare : MethodName := ⟨RX5, "isShare", "(JJ)Z"⟩
abbrev cX5_cell : ByteArray := prog_7_method_7_code
def yX5_cell : MethodName := ⟨RX5, "cell", "(J)I"⟩
abbrev cX5_holds : ByteArray := prog_7_method_8_code
def yX5_holds : MethodName := ⟨RX5, "holds", "(IIJJ)Z"⟩
abbrev cX5_goal : ByteArray := prog_7_method_9_code
def yX5_goal : MethodName := ⟨RX5, "goal", "(IJJ)Z"⟩
abbrev cX5_near : ByteArray := prog_7_method_10_code
def yX5_near : MethodName := ⟨RX5, "near", "(IIJ)Z"⟩
abbrev cX5_far : ByteArray := prog_7_method_11_code
def yX5_far : MethodName := ⟨RX5, "far", "(III)Z"⟩
abbrev cX5_weight : ByteArray := prog_7_method_12_code
def yX5_weight : MethodName := ⟨RX5, "weight", "(J)Z"⟩
abbrev cX5_must : ByteArray := prog_7_method_13_code
def yX5_must : MethodName := ⟨RX5, "must", "(I)Z"⟩
abbrev cX5_bar : ByteArray := prog_7_method_14_code
def yX5_bar : MethodName := ⟨RX5, "bar", "(I)Z"⟩
abbrev cX5_port : ByteArray := prog_7_method_15_code
def yX5_port : MethodName := ⟨RX5, "port", "(IIJ)Z"⟩
abbrev cX5_fair : ByteArray := prog_7_method_16_code
def yX5_fair : MethodName := ⟨RX5, "fair", "(JJ)Z"⟩
abbrev cX5_size : ByteArray := prog_7_method_17_code
def yX5_size : MethodName := ⟨RX5, "size", "(I)I"⟩
abbrev cX5_wind : ByteArray := prog_7_method_18_code
def yX5_wind : MethodName := ⟨RX5, "wind", "(IJ)Z"⟩
abbrev cX5_has : ByteArray := prog_7_method_19_code
def yX5_has : MethodName := ⟨RX5, "has", "(II)Z"⟩
abbrev cX5_count : ByteArray := prog_7_method_20_code
def yX5_count : MethodName := ⟨RX5, "count", "(I)I"⟩
abbrev cX5_all : ByteArray := prog_7_method_21_code
def yX5_all : MethodName := ⟨RX5, "all", "()I"⟩
abbrev cX5_open : ByteArray := prog_7_method_22_code
def yX5_open : MethodName := ⟨RX5, "open", "()I"⟩
abbrev cX5_amount : ByteArray := prog_7_method_23_code
def yX5_amount : MethodName := ⟨RX5, "amount", "(II)J"⟩
abbrev cX5_hoursIn : ByteArray := prog_7_method_24_code
def yX5_hoursIn : MethodName := ⟨RX5, "hoursIn", "(II)J"⟩
abbrev cX5_meets : ByteArray := prog_7_method_25_code
def yX5_meets : MethodName := ⟨RX5, "meets", "(II)Z"⟩
abbrev cX5_stands : ByteArray := prog_7_method_26_code
def yX5_stands : MethodName := ⟨RX5, "stands", "(I)Z"⟩
abbrev cX5_borderOf : ByteArray := prog_7_method_27_code
def yX5_borderOf : MethodName := ⟨RX5, "borderOf", "(I)J"⟩
abbrev cX5_costOf : ByteArray := prog_7_method_28_code
def yX5_costOf : MethodName := ⟨RX5, "costOf", "(I)J"⟩
abbrev cX5_isBefore : ByteArray := prog_7_method_29_code
def yX5_isBefore : MethodName := ⟨RX5, "isBefore", "(II)Z"⟩
abbrev cX5_become : ByteArray := prog_7_method_30_code
def yX5_become : MethodName := ⟨RX5, "become", "(ZIJ)V"⟩
abbrev cX5_run : ByteArray := prog_7_method_31_code
def yX5_run : MethodName := ⟨RX5, "run", "(J)I"⟩
abbrev cX5_chosen : ByteArray := prog_7_method_32_code
def yX5_chosen : MethodName := ⟨RX5, "chosen", "(I)Z"⟩
abbrev cX5_cost : ByteArray := prog_7_method_33_code
def yX5_cost : MethodName := ⟨RX5, "cost", "()J"⟩
abbrev cX5_bound : ByteArray := prog_7_method_34_code
def yX5_bound : MethodName := ⟨RX5, "bound", "()J"⟩
abbrev cX5_proved : ByteArray := prog_7_method_35_code
def yX5_proved : MethodName := ⟨RX5, "proved", "()Z"⟩
abbrev cX5_clash : ByteArray := prog_7_method_36_code
def yX5_clash : MethodName := ⟨RX5, "clash", "(I)I"⟩
abbrev cX5_next : ByteArray := prog_7_method_37_code
def yX5_next : MethodName := ⟨RX5, "next", "(J)J"⟩
abbrev cX5_steps : ByteArray := prog_7_method_38_code
def yX5_steps : MethodName := ⟨RX5, "steps", "(JI)J"⟩
abbrev cX5_improve : ByteArray := prog_7_method_39_code
def yX5_improve : MethodName := ⟨RX5, "improve", "(I)I"⟩
abbrev cX5_often : ByteArray := prog_7_method_40_code
def yX5_often : MethodName := ⟨RX5, "often", "(II)J"⟩
abbrev cX5_zone : ByteArray := prog_7_method_41_code
def yX5_zone : MethodName := ⟨RX5, "zone", "(II)I"⟩
abbrev cX5_part : ByteArray := prog_7_method_42_code
def yX5_part : MethodName := ⟨RX5, "part", "(JJI)J"⟩
abbrev cX5_met : ByteArray := prog_7_method_43_code
def yX5_met : MethodName := ⟨RX5, "met", "(II)J"⟩
abbrev cX5_loss : ByteArray := prog_7_method_44_code
def yX5_loss : MethodName := ⟨RX5, "loss", "(II)J"⟩
abbrev cX5_border : ByteArray := prog_7_method_45_code
def yX5_border : MethodName := ⟨RX5, "border", "()J"⟩
abbrev cX5_year : ByteArray := prog_7_method_46_code
def yX5_year : MethodName := ⟨RX5, "year", "(I)I"⟩
abbrev cX5_unlike : ByteArray := prog_7_method_47_code
def yX5_unlike : MethodName := ⟨RX5, "unlike", "(I)I"⟩
abbrev cX5_tie : ByteArray := prog_7_method_48_code
def yX5_tie : MethodName := ⟨RX5, "tie", "(I)I"⟩
def RJ6 : String := "java/lang/Integer"
def TJ6 : u_T := fun k => match k with
  | _ => ("", "", "", false)
def tyJ6 : Nat → FieldType := fun k => match k with
  | _ => .int
abbrev wsJ60 : List Cond := u_ws RJ6 TJ6 0
theorem nmJ6 : ∀ a, a < 0 → ∀ b, b < 0 → a ≠ b → (TJ6 a).2.1 ≠ (TJ6 b).2.1 := by decide +kernel
theorem tyJ6_ok : ∀ k, k < 0 → parseFieldDescriptor (TJ6 k).2.2.1 = some (tyJ6 k) := by decide +kernel
abbrev cJ6_bitCount_0f7a4 : ByteArray := prog_8_method_49_code
def yJ6_bitCount_0f7a4 : MethodName := ⟨RJ6, "bitCount", "(I)I"⟩
def RL : String := "AreaGoalsLaw"
abbrev cL_cell : ByteArray := method_2_code
def yL_cell : MethodName := ⟨RL, "cell", "([II)I"⟩
abbrev cL_law : ByteArray := code
def yL_law : MethodName := ⟨RL, "law", "([I)Z"⟩
def wsL_law_r1 : List Cond := [Cond.classLink RL 7 RX4, Cond.instantiable RX4 10, Cond.initialized RX4, Cond.classLink RL 18 RX5, Cond.instantiable RX5 27, Cond.initialized RX5, Cond.constantLong RL 21 (4294967295), Cond.methodLink RL 9 yL_cell, Cond.static yL_cell, Cond.initialized RL, Cond.code yL_cell cL_cell 2 (some .int), Cond.methodLink RL 15 yX4_init, Cond.instanceMethod yX4_init, Cond.code yX4_init cX4_init 3 none, Cond.methodLink RX4 1 objectInit, Cond.instanceMethod objectInit, Cond.code objectInit ⟨#[0xb1]⟩ 1 none, Cond.classLink RX4 7 RX2, Cond.instantiable RX2 16, Cond.initialized RX2, Cond.fieldLink RX4 10 "AreaGoals" "sea" "LAreaGoals$Sea;", Cond.classLink RX4 16 RX3, Cond.instantiable RX3 7, Cond.initialized RX3]
def wsL_law_r2 : List Cond := [Cond.fieldLink RX4 21 "AreaGoals" "tally" "LAreaGoals$Tally;", Cond.classLink RX4 25 RX1, Cond.instantiable RX1 1, Cond.initialized RX1, Cond.fieldLink RX4 28 "AreaGoals" "draw" "LAreaGoals$Draw;", Cond.fieldLink RX4 36 "AreaGoals" "trialDraw" "LAreaGoals$Draw;", Cond.classLink RX4 39 RX0, Cond.instantiable RX0 3, Cond.initialized RX0, Cond.fieldLink RX4 42 "AreaGoals" "latest" "LAreaGoals$Choice;", Cond.arrayClass .int, Cond.fieldLink RX4 46 "AreaGoals" "freeCells" "[I", Cond.fieldLink RX4 50 "AreaGoals" "runAnswer" "I", Cond.constantLong RX4 54 (-1), Cond.fieldLink RX4 56 "AreaGoals" "toldBound" "J", Cond.instanceMethod yX2_init, Cond.code yX2_init cX2_init 2 none, Cond.methodLink RX2 3 objectInit, Cond.arrayClass .long, Cond.fieldLink RX2 9 "AreaGoals$Sea" "costs" "[J", Cond.fieldLink RX2 15 "AreaGoals$Sea" "amounts" "[J", Cond.fieldLink RX2 18 "AreaGoals$Sea" "hours" "[J", Cond.fieldLink RX2 21 "AreaGoals$Sea" "borders" "[J", Cond.fieldLink RX2 24 "AreaGoals$Sea" "tooFar" "[I"]
def wsL_law_r3 : List Cond := [Cond.fieldLink RX2 28 "AreaGoals$Sea" "kindTotals" "[J", Cond.fieldLink RX2 31 "AreaGoals$Sea" "portTotals" "[J", Cond.fieldLink RX2 34 "AreaGoals$Sea" "goalAbove" "[J", Cond.fieldLink RX2 37 "AreaGoals$Sea" "goalBelow" "[J", Cond.fieldLink RX2 40 "AreaGoals$Sea" "fairAbove" "J", Cond.fieldLink RX2 44 "AreaGoals$Sea" "fairBelow" "J", Cond.instanceMethod yX3_init, Cond.code yX3_init cX3_init 2 none, Cond.methodLink RX3 3 objectInit, Cond.fieldLink RX3 9 "AreaGoals$Tally" "sea" "LAreaGoals$Sea;", Cond.fieldLink RX3 15 "AreaGoals$Tally" "amounts" "[J", Cond.fieldLink RX3 19 "AreaGoals$Tally" "hours" "[J", Cond.instanceMethod yX1_init, Cond.code yX1_init cX1_init 1 none, Cond.methodLink RX1 1 objectInit, Cond.instanceMethod yX1_start, Cond.selects RX1 yX1_start yX1_start, Cond.code yX1_start cX1_start 3 none, Cond.constantLong RX1 9 (88172645463325252), Cond.fieldLink RX1 11 "AreaGoals$Draw" "x" "J", Cond.instanceMethod yX0_init, Cond.code yX0_init cX0_init 1 none, Cond.methodLink RX0 3 objectInit, Cond.constantLong RX0 9 (-1)]
def wsL_law_r4 : List Cond := [Cond.fieldLink RX0 11 "AreaGoals$Choice" "price" "J", Cond.methodLink RL 20 yX5_init, Cond.instanceMethod yX5_init, Cond.code yX5_init cX5_init 3 none, Cond.methodLink RX5 1 objectInit, Cond.fieldLink RX5 7 "AreaGoalsModel" "costs" "[J", Cond.fieldLink RX5 13 "AreaGoalsModel" "states" "[I", Cond.fieldLink RX5 17 "AreaGoalsModel" "amounts" "[J", Cond.fieldLink RX5 20 "AreaGoalsModel" "hours" "[J", Cond.fieldLink RX5 23 "AreaGoalsModel" "borders" "[J", Cond.arrayClass .boolean, Cond.fieldLink RX5 26 "AreaGoalsModel" "apart" "[Z", Cond.fieldLink RX5 30 "AreaGoalsModel" "hasGoal" "[Z", Cond.fieldLink RX5 33 "AreaGoalsModel" "goalAbove" "[J", Cond.fieldLink RX5 36 "AreaGoalsModel" "goalBelow" "[J", Cond.fieldLink RX5 43 "AreaGoalsModel" "draw" "J", Cond.methodLink RX5 39 yX5_begun, Cond.static yX5_begun, Cond.code yX5_begun cX5_begun 2 (some .long), Cond.constantLong RX5 47 (88172645463325252), Cond.methodLink RL 23 yX4_cell, Cond.instanceMethod yX4_cell, Cond.selects RX4 yX4_cell yX4_cell, Cond.code yX4_cell cX4_cell 3 (some .int)]
def wsL_law_r5 : List Cond := [Cond.constantLong RX4 63 (1000000), Cond.methodLink RX4 65 yX4_within, Cond.static yX4_within, Cond.code yX4_within cX4_within 4 (some .boolean), Cond.methodLink RL 26 yX5_cell, Cond.instanceMethod yX5_cell, Cond.selects RX5 yX5_cell yX5_cell, Cond.code yX5_cell cX5_cell 3 (some .int), Cond.fieldLink RX5 49 "AreaGoalsModel" "cells" "I", Cond.constantLong RX5 55 (1000000), Cond.methodLink RL 27 yX4_holds, Cond.instanceMethod yX4_holds, Cond.selects RX4 yX4_holds yX4_holds, Cond.code yX4_holds cX4_holds 7 (some .boolean), Cond.constantLong RX4 80 (1000), Cond.constantLong RX4 82 (16), Cond.constantLong RX4 84 (720720), Cond.instanceMethod yX2_hasCell, Cond.selects RX2 yX2_hasCell yX2_hasCell, Cond.code yX2_hasCell cX2_hasCell 2 (some .boolean), Cond.fieldLink RX2 47 "AreaGoals$Sea" "cells" "I", Cond.methodLink RX4 77 yX4_isKind, Cond.static yX4_isKind, Cond.code yX4_isKind cX4_isKind 1 (some .boolean)]
def wsL_law_r6 : List Cond := [Cond.instanceMethod yX2_putAmount, Cond.selects RX2 yX2_putAmount yX2_putAmount, Cond.code yX2_putAmount cX2_putAmount 6 none, Cond.methodLink RL 31 yX5_holds, Cond.instanceMethod yX5_holds, Cond.selects RX5 yX5_holds yX5_holds, Cond.code yX5_holds cX5_holds 7 (some .boolean), Cond.constantLong RX5 64 (1000), Cond.constantLong RX5 66 (16), Cond.constantLong RX5 68 (720720), Cond.methodLink RX5 57 yX5_isCell, Cond.instanceMethod yX5_isCell, Cond.selects RX5 yX5_isCell yX5_isCell, Cond.code yX5_isCell cX5_isCell 2 (some .boolean), Cond.methodLink RX5 61 yX5_isKind, Cond.static yX5_isKind, Cond.code yX5_isKind cX5_isKind 1 (some .boolean), Cond.methodLink RL 32 yX4_goal, Cond.instanceMethod yX4_goal, Cond.selects RX4 yX4_goal yX4_goal, Cond.code yX4_goal cX4_goal 6 (some .boolean), Cond.methodLink RX4 90 yX4_isShare, Cond.static yX4_isShare, Cond.code yX4_isShare cX4_isShare 4 (some .boolean)]
def wsL_law_r7 : List Cond := [Cond.constantLong RX4 223 (100), Cond.methodLink RL 36 yX5_goal, Cond.instanceMethod yX5_goal, Cond.selects RX5 yX5_goal yX5_goal, Cond.code yX5_goal cX5_goal 6 (some .boolean), Cond.methodLink RX5 70 yX5_isShare, Cond.static yX5_isShare, Cond.code yX5_isShare cX5_isShare 4 (some .boolean), Cond.constantLong RX5 53 (100), Cond.methodLink RL 37 yX4_near, Cond.instanceMethod yX4_near, Cond.selects RX4 yX4_near yX4_near, Cond.code yX4_near cX4_near 5 (some .boolean), Cond.instanceMethod yX2_hasPair, Cond.selects RX2 yX2_hasPair yX2_hasPair, Cond.code yX2_hasPair cX2_hasPair 3 (some .boolean), Cond.methodLink RX2 51 yX2_hasCell, Cond.methodLink RL 41 yX5_near, Cond.instanceMethod yX5_near, Cond.selects RX5 yX5_near yX5_near, Cond.code yX5_near cX5_near 5 (some .boolean), Cond.methodLink RL 42 yX4_weight, Cond.instanceMethod yX4_weight, Cond.selects RX4 yX4_weight yX4_weight]
def wsL_law_r8 : List Cond := [Cond.code yX4_weight cX4_weight 3 (some .boolean), Cond.methodLink RL 46 yX5_weight, Cond.instanceMethod yX5_weight, Cond.selects RX5 yX5_weight yX5_weight, Cond.code yX5_weight cX5_weight 3 (some .boolean), Cond.fieldLink RX5 74 "AreaGoalsModel" "weight" "J", Cond.methodLink RL 47 yX4_must, Cond.instanceMethod yX4_must, Cond.selects RX4 yX4_must yX4_must, Cond.code yX4_must cX4_must 2 (some .boolean), Cond.methodLink RL 51 yX5_must, Cond.instanceMethod yX5_must, Cond.selects RX5 yX5_must yX5_must, Cond.code yX5_must cX5_must 2 (some .boolean), Cond.methodLink RL 52 yX4_bar, Cond.instanceMethod yX4_bar, Cond.selects RX4 yX4_bar yX4_bar, Cond.code yX4_bar cX4_bar 2 (some .boolean), Cond.methodLink RL 55 yX5_bar, Cond.instanceMethod yX5_bar, Cond.selects RX5 yX5_bar yX5_bar, Cond.code yX5_bar cX5_bar 2 (some .boolean), Cond.methodLink RL 56 yX4_zone, Cond.instanceMethod yX4_zone]
def wsL_law_r9 : List Cond := [Cond.selects RX4 yX4_zone yX4_zone, Cond.code yX4_zone cX4_zone 5 (some .int), Cond.methodLink RX4 120 yX4_hasBit, Cond.static yX4_hasBit, Cond.code yX4_hasBit cX4_hasBit 2 (some .boolean), Cond.methodLink RL 60 yX5_zone, Cond.instanceMethod yX5_zone, Cond.selects RX5 yX5_zone yX5_zone, Cond.code yX5_zone cX5_zone 5 (some .int), Cond.fieldLink RX5 121 "AreaGoalsModel" "hasChoice" "Z", Cond.fieldLink RX5 124 "AreaGoalsModel" "choice" "I", Cond.methodLink RX5 95 yX5_has, Cond.static yX5_has, Cond.code yX5_has cX5_has 2 (some .boolean), Cond.methodLink RL 61 yX4_run, Cond.instanceMethod yX4_run, Cond.selects RX4 yX4_run yX4_run, Cond.code yX4_run cX4_run 5 (some .int), Cond.fieldLink RX4 130 "AreaGoals" "clashingKinds" "I", Cond.fieldLink RX4 133 "AreaGoals" "cellsBefore" "I", Cond.constantLong RX4 148 (4096), Cond.methodLink RX4 126 yX4_findClashes, Cond.instanceMethod yX4_findClashes, Cond.selects RX4 yX4_findClashes yX4_findClashes]
def wsL_law_r10 : List Cond := [Cond.code yX4_findClashes cX4_findClashes 3 (some .int), Cond.instanceMethod yX2_openSet, Cond.selects RX2 yX2_openSet yX2_openSet, Cond.code yX2_openSet cX2_openSet 1 (some .int), Cond.fieldLink RX2 55 "AreaGoals$Sea" "barred" "I", Cond.instanceMethod yX3_begin, Cond.selects RX3 yX3_begin yX3_begin, Cond.code yX3_begin cX3_begin 3 none, Cond.fieldLink RX3 22 "AreaGoals$Tally" "cells" "I", Cond.fieldLink RX3 26 "AreaGoals$Tally" "farPairs" "I", Cond.fieldLink RX3 29 "AreaGoals$Tally" "cellCosts" "J", Cond.fieldLink RX3 33 "AreaGoals$Tally" "borderLength" "J", Cond.methodLink RX3 43 yX3_exchange, Cond.instanceMethod yX3_exchange, Cond.selects RX3 yX3_exchange yX3_exchange, Cond.code yX3_exchange cX3_exchange 5 none, Cond.methodLink RX3 51 yJ6_bitCount_0f7a4, Cond.static yJ6_bitCount_0f7a4, Cond.initialized RJ6, Cond.code yJ6_bitCount_0f7a4 cJ6_bitCount_0f7a4 1 (some .int), Cond.constant RJ6 265 (1431655765), Cond.constant RJ6 266 (858993459), Cond.constant RJ6 267 (252645135), Cond.methodLink RX3 60 yX3_borderGainedBy]
def wsL_law_r11 : List Cond := [Cond.instanceMethod yX3_borderGainedBy, Cond.selects RX3 yX3_borderGainedBy yX3_borderGainedBy, Cond.code yX3_borderGainedBy cX3_borderGainedBy 8 (some .long), Cond.instanceMethod yX3_meetsGoal, Cond.selects RX3 yX3_meetsGoal yX3_meetsGoal, Cond.code yX3_meetsGoal cX3_meetsGoal 2 (some .boolean), Cond.instanceMethod yX0_clear, Cond.selects RX0 yX0_clear yX0_clear, Cond.code yX0_clear cX0_clear 1 none, Cond.fieldLink RX0 17 "AreaGoals$Choice" "there" "Z", Cond.fieldLink RX0 21 "AreaGoals$Choice" "cells" "I", Cond.instanceMethod yX2_freeSet, Cond.selects RX2 yX2_freeSet yX2_freeSet, Cond.code yX2_freeSet cX2_freeSet 1 (some .int), Cond.fieldLink RX2 62 "AreaGoals$Sea" "needed" "I", Cond.methodLink RX2 58 yX2_openSet, Cond.methodLink RX4 142 yJ6_bitCount_0f7a4, Cond.instanceMethod yX2_costsOf, Cond.selects RX2 yX2_costsOf yX2_costsOf, Cond.code yX2_costsOf cX2_costsOf 5 (some .long), Cond.methodLink RX4 154 yX4_search, Cond.instanceMethod yX4_search, Cond.selects RX4 yX4_search yX4_search, Cond.code yX4_search cX4_search 5 none]
def wsL_law_r12 : List Cond := [Cond.methodLink RX4 235 yX4_listFreeCells, Cond.instanceMethod yX4_listFreeCells, Cond.selects RX4 yX4_listFreeCells yX4_listFreeCells, Cond.code yX4_listFreeCells cX4_listFreeCells 4 (some .int), Cond.methodLink RX4 238 yX4_considerTally, Cond.instanceMethod yX4_considerTally, Cond.selects RX4 yX4_considerTally yX4_considerTally, Cond.code yX4_considerTally cX4_considerTally 3 none, Cond.instanceMethod yX3_price, Cond.selects RX3 yX3_price yX3_price, Cond.code yX3_price cX3_price 1 (some .long), Cond.instanceMethod yX0_isBeatenBy, Cond.selects RX0 yX0_isBeatenBy yX0_isBeatenBy, Cond.code yX0_isBeatenBy cX0_isBeatenBy 6 (some .boolean), Cond.methodLink RX0 25 yJ6_bitCount_0f7a4, Cond.instanceMethod yX3_stands, Cond.selects RX3 yX3_stands yX3_stands, Cond.code yX3_stands cX3_stands 1 (some .boolean), Cond.methodLink RX3 81 yX3_meetsGoals, Cond.instanceMethod yX3_meetsGoals, Cond.selects RX3 yX3_meetsGoals yX3_meetsGoals, Cond.code yX3_meetsGoals cX3_meetsGoals 2 (some .boolean), Cond.methodLink RX3 88 yX3_meetsGoal, Cond.methodLink RX3 85 yX3_isFair]
def wsL_law_r13 : List Cond := [Cond.instanceMethod yX3_isFair, Cond.selects RX3 yX3_isFair yX3_isFair, Cond.code yX3_isFair cX3_isFair 2 (some .boolean), Cond.instanceMethod yX0_take, Cond.selects RX0 yX0_take yX0_take, Cond.code yX0_take cX0_take 4 none, Cond.methodLink RL 64 yX5_run, Cond.instanceMethod yX5_run, Cond.selects RX5 yX5_run yX5_run, Cond.code yX5_run cX5_run 16 (some .int), Cond.fieldLink RX5 133 "AreaGoalsModel" "hasRun" "Z", Cond.fieldLink RX5 136 "AreaGoalsModel" "clashes" "I", Cond.fieldLink RX5 146 "AreaGoalsModel" "bound" "J", Cond.fieldLink RX5 149 "AreaGoalsModel" "answer" "I", Cond.constantLong RX5 161 (-1), Cond.methodLink RX5 139 yX5_open, Cond.instanceMethod yX5_open, Cond.selects RX5 yX5_open yX5_open, Cond.code yX5_open cX5_open 3 (some .int), Cond.methodLink RX5 111 yX5_meets, Cond.instanceMethod yX5_meets, Cond.selects RX5 yX5_meets yX5_meets, Cond.code yX5_meets cX5_meets 3 (some .boolean), Cond.methodLink RX5 99 yX5_amount]
def wsL_law_r14 : List Cond := [Cond.instanceMethod yX5_amount, Cond.selects RX5 yX5_amount yX5_amount, Cond.code yX5_amount cX5_amount 6 (some .long), Cond.methodLink RX5 103 yX5_all, Cond.instanceMethod yX5_all, Cond.selects RX5 yX5_all yX5_all, Cond.code yX5_all cX5_all 1 (some .int), Cond.methodLink RX5 142 yX5_become, Cond.instanceMethod yX5_become, Cond.selects RX5 yX5_become yX5_become, Cond.code yX5_become cX5_become 5 none, Cond.fieldLink RX5 127 "AreaGoalsModel" "earlier" "I", Cond.fieldLink RX5 130 "AreaGoalsModel" "cost" "J", Cond.methodLink RX5 152 yX5_costOf, Cond.instanceMethod yX5_costOf, Cond.selects RX5 yX5_costOf yX5_costOf, Cond.code yX5_costOf cX5_costOf 5 (some .long), Cond.methodLink RX5 117 yX5_borderOf, Cond.instanceMethod yX5_borderOf, Cond.selects RX5 yX5_borderOf yX5_borderOf, Cond.code yX5_borderOf cX5_borderOf 6 (some .long), Cond.methodLink RX5 155 yX5_isBefore, Cond.instanceMethod yX5_isBefore, Cond.selects RX5 yX5_isBefore yX5_isBefore]
def wsL_law_r15 : List Cond := [Cond.code yX5_isBefore cX5_isBefore 6 (some .boolean), Cond.methodLink RX5 107 yX5_count, Cond.instanceMethod yX5_count, Cond.selects RX5 yX5_count yX5_count, Cond.code yX5_count cX5_count 4 (some .int), Cond.methodLink RX5 158 yX5_stands, Cond.instanceMethod yX5_stands, Cond.selects RX5 yX5_stands yX5_stands, Cond.code yX5_stands cX5_stands 4 (some .boolean), Cond.fieldLink RX5 90 "AreaGoalsModel" "least" "I", Cond.fieldLink RX5 80 "AreaGoalsModel" "isFair" "Z", Cond.fieldLink RX5 87 "AreaGoalsModel" "fairBelow" "J", Cond.fieldLink RX5 84 "AreaGoalsModel" "fairAbove" "J", Cond.methodLink RX5 114 yX5_hoursIn, Cond.instanceMethod yX5_hoursIn, Cond.selects RX5 yX5_hoursIn yX5_hoursIn, Cond.code yX5_hoursIn cX5_hoursIn 6 (some .long), Cond.methodLink RL 65 yX4_chosen, Cond.instanceMethod yX4_chosen, Cond.selects RX4 yX4_chosen yX4_chosen, Cond.code yX4_chosen cX4_chosen 2 (some .boolean), Cond.methodLink RL 68 yX5_chosen, Cond.instanceMethod yX5_chosen, Cond.selects RX5 yX5_chosen yX5_chosen]
def wsL_law_r16 : List Cond := [Cond.code yX5_chosen cX5_chosen 2 (some .boolean), Cond.methodLink RL 69 yX4_cost, Cond.instanceMethod yX4_cost, Cond.selects RX4 yX4_cost yX4_cost, Cond.code yX4_cost cX4_cost 1 (some .long), Cond.methodLink RL 73 yX5_cost, Cond.instanceMethod yX5_cost, Cond.selects RX5 yX5_cost yX5_cost, Cond.code yX5_cost cX5_cost 1 (some .long), Cond.methodLink RL 74 yX4_bound, Cond.instanceMethod yX4_bound, Cond.selects RX4 yX4_bound yX4_bound, Cond.code yX4_bound cX4_bound 1 (some .long), Cond.methodLink RL 77 yX5_bound, Cond.instanceMethod yX5_bound, Cond.selects RX5 yX5_bound yX5_bound, Cond.code yX5_bound cX5_bound 1 (some .long), Cond.methodLink RL 78 yX4_met, Cond.instanceMethod yX4_met, Cond.selects RX4 yX4_met yX4_met, Cond.code yX4_met cX4_met 3 (some .long), Cond.methodLink RX4 168 yX4_partOf, Cond.static yX4_partOf, Cond.code yX4_partOf cX4_partOf 7 (some .long)]
def wsL_law_r17 : List Cond := [Cond.methodLink RX4 225 yX4_commonDivisor, Cond.static yX4_commonDivisor, Cond.code yX4_commonDivisor cX4_commonDivisor 11 (some .long), Cond.methodLink RL 82 yX5_met, Cond.instanceMethod yX5_met, Cond.selects RX5 yX5_met yX5_met, Cond.code yX5_met cX5_met 3 (some .long), Cond.methodLink RX5 179 yX5_part, Cond.static yX5_part, Cond.code yX5_part cX5_part 11 (some .long), Cond.methodLink RL 83 yX4_clash, Cond.instanceMethod yX4_clash, Cond.selects RX4 yX4_clash yX4_clash, Cond.code yX4_clash cX4_clash 2 (some .int), Cond.methodLink RX4 172 yX4_placeOfBit, Cond.static yX4_placeOfBit, Cond.code yX4_placeOfBit cX4_placeOfBit 4 (some .int), Cond.methodLink RL 87 yX5_clash, Cond.instanceMethod yX5_clash, Cond.selects RX5 yX5_clash yX5_clash, Cond.code yX5_clash cX5_clash 4 (some .int), Cond.methodLink RL 88 yX4_proved, Cond.instanceMethod yX4_proved, Cond.selects RX4 yX4_proved yX4_proved]
def wsL_law_r18 : List Cond := [Cond.code yX4_proved cX4_proved 1 (some .boolean), Cond.methodLink RL 92 yX5_proved, Cond.instanceMethod yX5_proved, Cond.selects RX5 yX5_proved yX5_proved, Cond.code yX5_proved cX5_proved 1 (some .boolean), Cond.methodLink RL 93 yX4_improve, Cond.instanceMethod yX4_improve, Cond.selects RX4 yX4_improve yX4_improve, Cond.code yX4_improve cX4_improve 3 (some .int), Cond.methodLink RX4 176 yX4_drawnMoves, Cond.instanceMethod yX4_drawnMoves, Cond.selects RX4 yX4_drawnMoves yX4_drawnMoves, Cond.code yX4_drawnMoves cX4_drawnMoves 8 (some .int), Cond.instanceMethod yX1_next, Cond.selects RX1 yX1_next yX1_next, Cond.code yX1_next cX1_next 1 (some .long), Cond.methodLink RL 96 yX5_improve, Cond.instanceMethod yX5_improve, Cond.selects RX5 yX5_improve yX5_improve, Cond.code yX5_improve cX5_improve 2 (some .int), Cond.fieldLink RX5 163 "AreaGoalsModel" "tried" "I", Cond.fieldLink RX5 166 "AreaGoalsModel" "triedCost" "J", Cond.fieldLink RX5 169 "AreaGoalsModel" "kept" "I", Cond.methodLink RX5 175 yX5_steps]
def wsL_law_r19 : List Cond := [Cond.instanceMethod yX5_steps, Cond.selects RX5 yX5_steps yX5_steps, Cond.code yX5_steps cX5_steps 8 (some .long), Cond.methodLink RX5 172 yX5_next, Cond.static yX5_next, Cond.code yX5_next cX5_next 4 (some .long), Cond.methodLink RL 97 yX4_often, Cond.instanceMethod yX4_often, Cond.selects RX4 yX4_often yX4_often, Cond.code yX4_often cX4_often 6 (some .long), Cond.methodLink RL 100 yX5_often, Cond.instanceMethod yX5_often, Cond.selects RX5 yX5_often yX5_often, Cond.code yX5_often cX5_often 8 (some .long), Cond.methodLink RL 101 yX4_port, Cond.instanceMethod yX4_port, Cond.selects RX4 yX4_port yX4_port, Cond.code yX4_port cX4_port 5 (some .boolean), Cond.methodLink RX4 188 yX4_isPort, Cond.static yX4_isPort, Cond.code yX4_isPort cX4_isPort 1 (some .boolean), Cond.instanceMethod yX2_putHours, Cond.selects RX2 yX2_putHours yX2_putHours, Cond.code yX2_putHours cX2_putHours 6 none]
def wsL_law_r20 : List Cond := [Cond.methodLink RL 104 yX5_port, Cond.instanceMethod yX5_port, Cond.selects RX5 yX5_port yX5_port, Cond.code yX5_port cX5_port 5 (some .boolean), Cond.methodLink RX5 77 yX5_isPort, Cond.static yX5_isPort, Cond.code yX5_isPort cX5_isPort 1 (some .boolean), Cond.methodLink RL 105 yX4_loss, Cond.instanceMethod yX4_loss, Cond.selects RX4 yX4_loss yX4_loss, Cond.code yX4_loss cX4_loss 3 (some .long), Cond.methodLink RL 108 yX5_loss, Cond.instanceMethod yX5_loss, Cond.selects RX5 yX5_loss yX5_loss, Cond.code yX5_loss cX5_loss 3 (some .long), Cond.methodLink RL 109 yX4_fair, Cond.instanceMethod yX4_fair, Cond.selects RX4 yX4_fair yX4_fair, Cond.code yX4_fair cX4_fair 5 (some .boolean), Cond.methodLink RL 113 yX5_fair, Cond.instanceMethod yX5_fair, Cond.selects RX5 yX5_fair yX5_fair, Cond.code yX5_fair cX5_fair 5 (some .boolean), Cond.methodLink RL 114 yX4_border]
def wsL_law_r21 : List Cond := [Cond.instanceMethod yX4_border, Cond.selects RX4 yX4_border yX4_border, Cond.code yX4_border cX4_border 1 (some .long), Cond.methodLink RL 117 yX5_border, Cond.instanceMethod yX5_border, Cond.selects RX5 yX5_border yX5_border, Cond.code yX5_border cX5_border 1 (some .long), Cond.methodLink RL 118 yX4_size, Cond.instanceMethod yX4_size, Cond.selects RX4 yX4_size yX4_size, Cond.code yX4_size cX4_size 2 (some .int), Cond.methodLink RL 121 yX5_size, Cond.instanceMethod yX5_size, Cond.selects RX5 yX5_size yX5_size, Cond.code yX5_size cX5_size 2 (some .int), Cond.methodLink RL 122 yX4_year, Cond.instanceMethod yX4_year, Cond.selects RX4 yX4_year yX4_year, Cond.code yX4_year cX4_year 4 (some .int), Cond.instanceMethod yX2_comesBefore, Cond.selects RX2 yX2_comesBefore yX2_comesBefore, Cond.code yX2_comesBefore cX2_comesBefore 3 (some .boolean), Cond.methodLink RL 125 yX5_year, Cond.instanceMethod yX5_year]
def wsL_law_r22 : List Cond := [Cond.selects RX5 yX5_year yX5_year, Cond.code yX5_year cX5_year 4 (some .int), Cond.methodLink RX5 183 yX5_chosen, Cond.methodLink RL 126 yX4_wind, Cond.instanceMethod yX4_wind, Cond.selects RX4 yX4_wind yX4_wind, Cond.code yX4_wind cX4_wind 4 (some .boolean), Cond.constantLong RX4 215 (10000000), Cond.methodLink RL 130 yX5_wind, Cond.instanceMethod yX5_wind, Cond.selects RX5 yX5_wind yX5_wind, Cond.code yX5_wind cX5_wind 4 (some .boolean), Cond.constantLong RX5 93 (10000000), Cond.methodLink RL 131 yX4_unlike, Cond.instanceMethod yX4_unlike, Cond.selects RX4 yX4_unlike yX4_unlike, Cond.code yX4_unlike cX4_unlike 3 (some .int), Cond.methodLink RL 134 yX5_unlike, Cond.instanceMethod yX5_unlike, Cond.selects RX5 yX5_unlike yX5_unlike, Cond.code yX5_unlike cX5_unlike 4 (some .int), Cond.methodLink RL 135 yX4_far, Cond.instanceMethod yX4_far, Cond.selects RX4 yX4_far yX4_far]
def wsL_law_r23 : List Cond := [Cond.code yX4_far cX4_far 4 (some .boolean), Cond.methodLink RL 139 yX5_far, Cond.instanceMethod yX5_far, Cond.selects RX5 yX5_far yX5_far, Cond.code yX5_far cX5_far 4 (some .boolean), Cond.methodLink RL 140 yX4_tie, Cond.instanceMethod yX4_tie, Cond.selects RX4 yX4_tie yX4_tie, Cond.code yX4_tie cX4_tie 2 (some .int), Cond.methodLink RX4 220 yX4_findExchangeable, Cond.instanceMethod yX4_findExchangeable, Cond.selects RX4 yX4_findExchangeable yX4_findExchangeable, Cond.code yX4_findExchangeable cX4_findExchangeable 6 (some .int), Cond.methodLink RL 143 yX5_tie, Cond.instanceMethod yX5_tie, Cond.selects RX5 yX5_tie yX5_tie, Cond.code yX5_tie cX5_tie 5 (some .int)]
def wsL_law : List Cond := (wsL_law_r1 ++ (wsL_law_r2 ++ (wsL_law_r3 ++ (wsL_law_r4 ++ (wsL_law_r5 ++ (wsL_law_r6 ++ (wsL_law_r7 ++ (wsL_law_r8 ++ (wsL_law_r9 ++ (wsL_law_r10 ++ (wsL_law_r11 ++ (wsL_law_r12 ++ (wsL_law_r13 ++ (wsL_law_r14 ++ (wsL_law_r15 ++ (wsL_law_r16 ++ (wsL_law_r17 ++ (wsL_law_r18 ++ (wsL_law_r19 ++ (wsL_law_r20 ++ (wsL_law_r21 ++ (wsL_law_r22 ++ wsL_law_r23)))))))))))))))))))))) ++ wsX40 ++ wsX50 ++ wsX20 ++ wsX30 ++ wsX10 ++ wsX00 ++ ([] : List Cond)
set_option maxRecDepth 20000 in
theorem wsL_law_in : ∀ w ∈ wsL_law, w ∈ lw_tbl := fun w h => (goodIn_p wsL_law [500, 52, 55, 60, 146, 178, 187, 193, 505, 509, 244, 248, 597, 252, 256, 259, 266, 602, 606, 609, 270, 273, 616, 619, 278, 282, 624, 287, 632, 291, 636, 295, 640, 299, 302, 751, 679, 306, 310, 314, 318, 323, 326, 333, 337, 341, 345, 352, 357, 361, 365, 369, 373, 378, 382, 387, 391, 664, 668, 672, 676, 683, 687, 691, 695, 699, 703, 707, 711, 396, 716, 400, 720, 404, 724, 408, 411, 414, 755, 758, 418, 421, 732, 425, 728, 429, 433, 437, 736, 740, 743, 441, 747, 445, 448, 452, 644, 647, 456, 762, 460, 651, 464, 766, 468, 655, 472, 476, 770, 480, 659, 485, 775, 489, 628, 493, 497, 779] (by decide +kernel) (by decide +kernel) w h).1
theorem inlX0 : ∀ w ∈ wsX00, w ∈ wsL_law := fun _ h => List.mem_append_left _ (List.mem_append_right _ h)
theorem inX0 : ∀ w ∈ wsX00, w ∈ lw_tbl := fun w h => wsL_law_in w (inlX0 w h)
theorem inlX1 : ∀ w ∈ wsX10, w ∈ wsL_law := fun _ h => List.mem_append_left _ (List.mem_append_left _ (List.mem_append_right _ h))
theorem inX1 : ∀ w ∈ wsX10, w ∈ lw_tbl := fun w h => wsL_law_in w (inlX1 w h)
theorem inlX2 : ∀ w ∈ wsX20, w ∈ wsL_law := fun _ h => List.mem_append_left _ (List.mem_append_left _ (List.mem_append_left _ (List.mem_append_left _ (List.mem_append_right _ h))))
theorem inX2 : ∀ w ∈ wsX20, w ∈ lw_tbl := fun w h => wsL_law_in w (inlX2 w h)
theorem inlX3 : ∀ w ∈ wsX30, w ∈ wsL_law := fun _ h => List.mem_append_left _ (List.mem_append_left _ (List.mem_append_left _ (List.mem_append_right _ h)))
theorem inX3 : ∀ w ∈ wsX30, w ∈ lw_tbl := fun w h => wsL_law_in w (inlX3 w h)
theorem inlX4 : ∀ w ∈ wsX40, w ∈ wsL_law := fun _ h => List.mem_append_left _ (List.mem_append_left _ (List.mem_append_left _ (List.mem_append_left _ (List.mem_append_left _ (List.mem_append_left _ (List.mem_append_right _ h))))))
theorem inX4 : ∀ w ∈ wsX40, w ∈ lw_tbl := fun w h => wsL_law_in w (inlX4 w h)
theorem inlX5 : ∀ w ∈ wsX50, w ∈ wsL_law := fun _ h => List.mem_append_left _ (List.mem_append_left _ (List.mem_append_left _ (List.mem_append_left _ (List.mem_append_left _ (List.mem_append_right _ h)))))
theorem inX5 : ∀ w ∈ wsX50, w ∈ lw_tbl := fun w h => wsL_law_in w (inlX5 w h)
abbrev vwCl : List vw_C := [(RX0, TX0, 3), (RX1, TX1, 1), (RX2, TX2, 16), (RX3, TX3, 7), (RX4, TX4, 10), (RX5, TX5, 27)]
