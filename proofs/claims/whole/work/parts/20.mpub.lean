def w_X5_begun (seed : Int64) : Int64 := if seed = 0 then 88172645463325252 else seed
set_option maxHeartbeats 4000000 in
set_option maxRecDepth 100000 in
theorem c_X5_begun (l : Launch) (k : KT)  (seed : Int64)  : MR l yX5_begun cX5_begun 2 (some .long) (rz 0 0) k [.long seed] [] (.long (w_X5_begun seed)) := by
  refine Met.ofW (cc := cX5_begun) (maxL := 2) (ret := (some .long)) (by decide) rfl ?_
  intro p e s m args below meth c s₁ B hml hv
  obtain ⟨rfl, hP, hK⟩ := hv
  have hx := B.exec
  have hb := B.bytes
  have hr := B.returns
  have hU : ∀ w ∈ wsL_law, w.before [.long seed].toArray s = true := fun w h => atoms_spec (ws := Cond.code yX5_begun cX5_begun 2 (some .long) :: wsL_law) B.pre w (List.mem_cons_of_mem _ h)
  have hown : s.vm.findClass RX5 = some m.cls := findClass_of_methodNamed B.named
  have hlocks := B.notSynchronized
  have hF : CF p m c cX5_begun 2 s [.long seed].toArray RX5 := ⟨hx, hb, hml, hown, hU⟩
  have hl := lv_entry ([.long seed] : List Value) (n := 2) (Nat.le_of_ble_eq_true rfl)
  rw [lg_entry_eq]
  generalize (lg_sl ([.long seed] : List Value) ++ List.replicate (2 - (lg_sl ([.long seed] : List Value)).length) Slot.unset).toArray = ls at hl ⊢
  have hl : lv_has ls 2 [(0, .long seed)] := hl
  refine lv_lload_n hx hb dX5_begun_0 rfl (lv_at hl 0 rfl) ?_
  refine lv_lconst (v := 0) hx hb dX5_begun_1 (by decide) ?_
  refine xl_ne (tgt := 12) hx hb dX5_begun_2 dX5_begun_3 (by decide) (fun c_1 => ?_) (fun c_1 => ?_)
  · refine lv_lload_n hx hb dX5_begun_12 rfl (lv_at hl 0 rfl) ?_
    exact W.lret (v := seed) hx hb hr (fun t ht hW => ⟨by rw [w_X5_begun, if_neg c_1], ht⟩) (fun q h => absurd h List.not_mem_nil) dX5_begun_13
  · refine lv_ldc2 hx hb hown (hU _ uK_X5_47) dX5_begun_6 ?_
    refine lv_goto (tgt := 13) hx hb dX5_begun_9 (by decide) ?_
    exact W.lret (v := 88172645463325252) hx hb hr (fun t ht hW => ⟨by rw [w_X5_begun, if_pos c_1], ht⟩) (fun q h => absurd h List.not_mem_nil) dX5_begun_13

def w_X5_isKind (ki : Int32) : Int32 := if ki < 0 then 0 else if ki < 8 then 1 else 0
set_option maxHeartbeats 4000000 in
set_option maxRecDepth 100000 in
theorem c_X5_isKind (l : Launch) (k : KT)  (ki : Int32)  : MR l yX5_isKind cX5_isKind 1 (some .boolean) (rz 0 0) k [.int ki] [] (.int (w_X5_isKind ki)) := by
  refine Met.ofW (cc := cX5_isKind) (maxL := 1) (ret := (some .boolean)) (by decide) rfl ?_
  intro p e s m args below meth c s₁ B hml hv
  obtain ⟨rfl, hP, hK⟩ := hv
  have hx := B.exec
  have hb := B.bytes
  have hr := B.returns
  have hU : ∀ w ∈ wsL_law, w.before [.int ki].toArray s = true := fun w h => atoms_spec (ws := Cond.code yX5_isKind cX5_isKind 1 (some .boolean) :: wsL_law) B.pre w (List.mem_cons_of_mem _ h)
  have hown : s.vm.findClass RX5 = some m.cls := findClass_of_methodNamed B.named
  have hlocks := B.notSynchronized
  have hF : CF p m c cX5_isKind 1 s [.int ki].toArray RX5 := ⟨hx, hb, hml, hown, hU⟩
  have hl := lv_entry ([.int ki] : List Value) (n := 1) (Nat.le_of_ble_eq_true rfl)
  rw [lg_entry_eq]
  generalize (lg_sl ([.int ki] : List Value) ++ List.replicate (1 - (lg_sl ([.int ki] : List Value)).length) Slot.unset).toArray = ls at hl ⊢
  have hl : lv_has ls 1 [(0, .int ki)] := hl
  refine lv_iload_n hx hb dX5_isKind_0 rfl (lv_at hl 0 rfl) ?_
  refine lv_if_lt (tgt := 14) hx hb dX5_isKind_1 (by decide) (fun c_1 => ?_) (fun c_1 => ?_)
  · refine lv_iconst (v := 0) hx hb dX5_isKind_14 (by decide) ?_
    exact W.zret (v := 0) hx hb hr rfl (fun t ht hW => ⟨by rw [w_X5_isKind, if_pos c_1], ht⟩) (fun q h => absurd h List.not_mem_nil) dX5_isKind_15
  · refine lv_iload_n hx hb dX5_isKind_4 rfl (lv_at hl 0 rfl) ?_
    refine lv_bipush (v := 8) hx hb dX5_isKind_5 (by decide) ?_
    refine xb_ge (tgt := 14) hx hb dX5_isKind_7 (by decide) (fun c_2 => ?_) (fun c_2 => ?_)
    · refine lv_iconst (v := 0) hx hb dX5_isKind_14 (by decide) ?_
      exact W.zret (v := 0) hx hb hr rfl (fun t ht hW => ⟨by rw [w_X5_isKind, if_neg c_1, if_neg c_2], ht⟩) (fun q h => absurd h List.not_mem_nil) dX5_isKind_15
    · refine lv_iconst (v := 1) hx hb dX5_isKind_10 (by decide) ?_
      refine lv_goto (tgt := 15) hx hb dX5_isKind_11 (by decide) ?_
      exact W.zret (v := 1) hx hb hr rfl (fun t ht hW => ⟨by rw [w_X5_isKind, if_neg c_1, if_pos c_2], ht⟩) (fun q h => absurd h List.not_mem_nil) dX5_isKind_15

def w_X5_isPort (ki : Int32) : Int32 := if ki < 0 then 0 else if ki < 4 then 1 else 0
set_option maxHeartbeats 4000000 in
set_option maxRecDepth 100000 in
theorem c_X5_isPort (l : Launch) (k : KT)  (ki : Int32)  : MR l yX5_isPort cX5_isPort 1 (some .boolean) (rz 0 0) k [.int ki] [] (.int (w_X5_isPort ki)) := by
  refine Met.ofW (cc := cX5_isPort) (maxL := 1) (ret := (some .boolean)) (by decide) rfl ?_
  intro p e s m args below meth c s₁ B hml hv
  obtain ⟨rfl, hP, hK⟩ := hv
  have hx := B.exec
  have hb := B.bytes
  have hr := B.returns
  have hU : ∀ w ∈ wsL_law, w.before [.int ki].toArray s = true := fun w h => atoms_spec (ws := Cond.code yX5_isPort cX5_isPort 1 (some .boolean) :: wsL_law) B.pre w (List.mem_cons_of_mem _ h)
  have hown : s.vm.findClass RX5 = some m.cls := findClass_of_methodNamed B.named
  have hlocks := B.notSynchronized
  have hF : CF p m c cX5_isPort 1 s [.int ki].toArray RX5 := ⟨hx, hb, hml, hown, hU⟩
  have hl := lv_entry ([.int ki] : List Value) (n := 1) (Nat.le_of_ble_eq_true rfl)
  rw [lg_entry_eq]
  generalize (lg_sl ([.int ki] : List Value) ++ List.replicate (1 - (lg_sl ([.int ki] : List Value)).length) Slot.unset).toArray = ls at hl ⊢
  have hl : lv_has ls 1 [(0, .int ki)] := hl
  refine lv_iload_n hx hb dX5_isPort_0 rfl (lv_at hl 0 rfl) ?_
  refine lv_if_lt (tgt := 13) hx hb dX5_isPort_1 (by decide) (fun c_1 => ?_) (fun c_1 => ?_)
  · refine lv_iconst (v := 0) hx hb dX5_isPort_13 (by decide) ?_
    exact W.zret (v := 0) hx hb hr rfl (fun t ht hW => ⟨by rw [w_X5_isPort, if_pos c_1], ht⟩) (fun q h => absurd h List.not_mem_nil) dX5_isPort_14
  · refine lv_iload_n hx hb dX5_isPort_4 rfl (lv_at hl 0 rfl) ?_
    refine lv_iconst (v := 4) hx hb dX5_isPort_5 (by decide) ?_
    refine xb_ge (tgt := 13) hx hb dX5_isPort_6 (by decide) (fun c_2 => ?_) (fun c_2 => ?_)
    · refine lv_iconst (v := 0) hx hb dX5_isPort_13 (by decide) ?_
      exact W.zret (v := 0) hx hb hr rfl (fun t ht hW => ⟨by rw [w_X5_isPort, if_neg c_1, if_neg c_2], ht⟩) (fun q h => absurd h List.not_mem_nil) dX5_isPort_14
    · refine lv_iconst (v := 1) hx hb dX5_isPort_9 (by decide) ?_
      refine lv_goto (tgt := 14) hx hb dX5_isPort_10 (by decide) ?_
      exact W.zret (v := 1) hx hb hr rfl (fun t ht hW => ⟨by rw [w_X5_isPort, if_neg c_1, if_pos c_2], ht⟩) (fun q h => absurd h List.not_mem_nil) dX5_isPort_14

def w_X5_isShare (av : Int64) (bv : Int64) : Int32 := if av < 0 then 0 else if bv < av then 0 else if bv < 1 then 0 else if 100 < bv then 0 else 1
set_option maxHeartbeats 4000000 in
set_option maxRecDepth 100000 in
theorem c_X5_isShare (l : Launch) (k : KT)  (av : Int64) (bv : Int64)  : MR l yX5_isShare cX5_isShare 4 (some .boolean) (rz 0 0) k [.long av, .long bv] [] (.int (w_X5_isShare av bv)) := by
  refine Met.ofW (cc := cX5_isShare) (maxL := 4) (ret := (some .boolean)) (by decide) rfl ?_
  intro p e s m args below meth c s₁ B hml hv
  obtain ⟨rfl, hP, hK⟩ := hv
  have hx := B.exec
  have hb := B.bytes
  have hr := B.returns
  have hU : ∀ w ∈ wsL_law, w.before [.long av, .long bv].toArray s = true := fun w h => atoms_spec (ws := Cond.code yX5_isShare cX5_isShare 4 (some .boolean) :: wsL_law) B.pre w (List.mem_cons_of_mem _ h)
  have hown : s.vm.findClass RX5 = some m.cls := findClass_of_methodNamed B.named
  have hlocks := B.notSynchronized
  have hF : CF p m c cX5_isShare 4 s [.long av, .long bv].toArray RX5 := ⟨hx, hb, hml, hown, hU⟩
  have hl := lv_entry ([.long av, .long bv] : List Value) (n := 4) (Nat.le_of_ble_eq_true rfl)
  rw [lg_entry_eq]
  generalize (lg_sl ([.long av, .long bv] : List Value) ++ List.replicate (4 - (lg_sl ([.long av, .long bv] : List Value)).length) Slot.unset).toArray = ls at hl ⊢
  have hl : lv_has ls 4 [(0, .long av), (2, .long bv)] := hl
  refine lv_lload_n hx hb dX5_isShare_0 rfl (lv_at hl 0 rfl) ?_
  refine lv_lconst (v := 0) hx hb dX5_isShare_1 (by decide) ?_
  refine xl_lt (tgt := 30) hx hb dX5_isShare_2 dX5_isShare_3 (by decide) (fun c_1 => ?_) (fun c_1 => ?_)
  · refine lv_iconst (v := 0) hx hb dX5_isShare_30 (by decide) ?_
    exact W.zret (v := 0) hx hb hr rfl (fun t ht hW => ⟨by rw [w_X5_isShare, if_pos c_1], ht⟩) (fun q h => absurd h List.not_mem_nil) dX5_isShare_31
  · refine lv_lload_n hx hb dX5_isShare_6 rfl (lv_at hl 0 rfl) ?_
    refine lv_lload_n hx hb dX5_isShare_7 rfl (lv_at hl 1 rfl) ?_
    refine xl_gt (tgt := 30) hx hb dX5_isShare_8 dX5_isShare_9 (by decide) (fun c_2 => ?_) (fun c_2 => ?_)
    · refine lv_iconst (v := 0) hx hb dX5_isShare_30 (by decide) ?_
      exact W.zret (v := 0) hx hb hr rfl (fun t ht hW => ⟨by rw [w_X5_isShare, if_neg c_1, if_pos c_2], ht⟩) (fun q h => absurd h List.not_mem_nil) dX5_isShare_31
    · refine lv_lload_n hx hb dX5_isShare_12 rfl (lv_at hl 1 rfl) ?_
      refine lv_lconst (v := 1) hx hb dX5_isShare_13 (by decide) ?_
      refine xl_lt (tgt := 30) hx hb dX5_isShare_14 dX5_isShare_15 (by decide) (fun c_3 => ?_) (fun c_3 => ?_)
      · refine lv_iconst (v := 0) hx hb dX5_isShare_30 (by decide) ?_
        exact W.zret (v := 0) hx hb hr rfl (fun t ht hW => ⟨by rw [w_X5_isShare, if_neg c_1, if_neg c_2, if_pos c_3], ht⟩) (fun q h => absurd h List.not_mem_nil) dX5_isShare_31
      · refine lv_lload_n hx hb dX5_isShare_18 rfl (lv_at hl 1 rfl) ?_
        refine lv_ldc2 hx hb hown (hU _ uK_X5_53) dX5_isShare_19 ?_
        refine xl_gt (tgt := 30) hx hb dX5_isShare_22 dX5_isShare_23 (by decide) (fun c_4 => ?_) (fun c_4 => ?_)
        · refine lv_iconst (v := 0) hx hb dX5_isShare_30 (by decide) ?_
          exact W.zret (v := 0) hx hb hr rfl (fun t ht hW => ⟨by rw [w_X5_isShare, if_neg c_1, if_neg c_2, if_neg c_3, if_pos c_4], ht⟩) (fun q h => absurd h List.not_mem_nil) dX5_isShare_31
        · refine lv_iconst (v := 1) hx hb dX5_isShare_26 (by decide) ?_
          refine lv_goto (tgt := 31) hx hb dX5_isShare_27 (by decide) ?_
          exact W.zret (v := 1) hx hb hr rfl (fun t ht hW => ⟨by rw [w_X5_isShare, if_neg c_1, if_neg c_2, if_neg c_3, if_neg c_4], ht⟩) (fun q h => absurd h List.not_mem_nil) dX5_isShare_31

def w_X5_has (set : Int32) (ce : Int32) : Int32 := if ((set >>> (ce &&& 31)) &&& 1) = 1 then 1 else 0
set_option maxHeartbeats 4000000 in
set_option maxRecDepth 100000 in
theorem c_X5_has (l : Launch) (k : KT)  (set : Int32) (ce : Int32)  : MR l yX5_has cX5_has 2 (some .boolean) (rz 0 0) k [.int set, .int ce] [] (.int (w_X5_has set ce)) := by
  refine Met.ofW (cc := cX5_has) (maxL := 2) (ret := (some .boolean)) (by decide) rfl ?_
  intro p e s m args below meth c s₁ B hml hv
  obtain ⟨rfl, hP, hK⟩ := hv
  have hx := B.exec
  have hb := B.bytes
  have hr := B.returns
  have hU : ∀ w ∈ wsL_law, w.before [.int set, .int ce].toArray s = true := fun w h => atoms_spec (ws := Cond.code yX5_has cX5_has 2 (some .boolean) :: wsL_law) B.pre w (List.mem_cons_of_mem _ h)
  have hown : s.vm.findClass RX5 = some m.cls := findClass_of_methodNamed B.named
  have hlocks := B.notSynchronized
  have hF : CF p m c cX5_has 2 s [.int set, .int ce].toArray RX5 := ⟨hx, hb, hml, hown, hU⟩
  have hl := lv_entry ([.int set, .int ce] : List Value) (n := 2) (Nat.le_of_ble_eq_true rfl)
  rw [lg_entry_eq]
  generalize (lg_sl ([.int set, .int ce] : List Value) ++ List.replicate (2 - (lg_sl ([.int set, .int ce] : List Value)).length) Slot.unset).toArray = ls at hl ⊢
  have hl : lv_has ls 2 [(0, .int set), (1, .int ce)] := hl
  refine lv_iload_n hx hb dX5_has_0 rfl (lv_at hl 0 rfl) ?_
  refine lv_iload_n hx hb dX5_has_1 rfl (lv_at hl 1 rfl) ?_
  refine lv_ishr hx hb dX5_has_2 ?_
  refine lv_iconst (v := 1) hx hb dX5_has_3 (by decide) ?_
  refine lv_iand hx hb dX5_has_4 ?_
  refine lv_iconst (v := 1) hx hb dX5_has_5 (by decide) ?_
  refine lv_icmp_ne (tgt := 13) hx hb dX5_has_6 (by decide) (fun c_1 => ?_) (fun c_1 => ?_)
  · refine lv_iconst (v := 0) hx hb dX5_has_13 (by decide) ?_
    exact W.zret (v := 0) hx hb hr rfl (fun t ht hW => ⟨by rw [w_X5_has, if_neg c_1], ht⟩) (fun q h => absurd h List.not_mem_nil) dX5_has_14
  · refine lv_iconst (v := 1) hx hb dX5_has_9 (by decide) ?_
    refine lv_goto (tgt := 14) hx hb dX5_has_10 (by decide) ?_
    exact W.zret (v := 1) hx hb hr rfl (fun t ht hW => ⟨by rw [w_X5_has, if_pos c_1], ht⟩) (fun q h => absurd h List.not_mem_nil) dX5_has_14

def w_X5_next (xv : Int64) : Int64 := (((xv ^^^ (lh xv 13)) ^^^ (lu (xv ^^^ (lh xv 13)) 7)) ^^^ (lh ((xv ^^^ (lh xv 13)) ^^^ (lu (xv ^^^ (lh xv 13)) 7)) 17))
set_option maxHeartbeats 4000000 in
set_option maxRecDepth 100000 in
theorem c_X5_next (l : Launch) (k : KT)  (xv : Int64)  : MR l yX5_next cX5_next 4 (some .long) (rz 0 0) k [.long xv] [] (.long (w_X5_next xv)) := by
  refine Met.ofW (cc := cX5_next) (maxL := 4) (ret := (some .long)) (by decide) rfl ?_
  intro p e s m args below meth c s₁ B hml hv
  obtain ⟨rfl, hP, hK⟩ := hv
  have hx := B.exec
  have hb := B.bytes
  have hr := B.returns
  have hU : ∀ w ∈ wsL_law, w.before [.long xv].toArray s = true := fun w h => atoms_spec (ws := Cond.code yX5_next cX5_next 4 (some .long) :: wsL_law) B.pre w (List.mem_cons_of_mem _ h)
  have hown : s.vm.findClass RX5 = some m.cls := findClass_of_methodNamed B.named
  have hlocks := B.notSynchronized
  have hF : CF p m c cX5_next 4 s [.long xv].toArray RX5 := ⟨hx, hb, hml, hown, hU⟩
  have hl := lv_entry ([.long xv] : List Value) (n := 4) (Nat.le_of_ble_eq_true rfl)
  rw [lg_entry_eq]
  generalize (lg_sl ([.long xv] : List Value) ++ List.replicate (4 - (lg_sl ([.long xv] : List Value)).length) Slot.unset).toArray = ls at hl ⊢
  have hl : lv_has ls 4 [(0, .long xv)] := hl
  refine lv_lload_n hx hb dX5_next_0 rfl (lv_at hl 0 rfl) ?_
  refine lv_lstore_n (lv' := [(2, .long xv), (0, .long xv)]) hx hb dX5_next_1 rfl hl (by decide) rfl (fun ls hl => ?_)
  refine lv_lload_n hx hb dX5_next_2 rfl (lv_at hl 0 rfl) ?_
  refine lv_lload_n hx hb dX5_next_3 rfl (lv_at hl 0 rfl) ?_
  refine lv_bipush (v := 13) hx hb dX5_next_4 (by decide) ?_
  refine lv_lshl (v := (lh xv 13)) hx hb dX5_next_6 rfl ?_
  refine lv_lxor hx hb dX5_next_7 ?_
  refine lv_lstore_n (lv' := [(2, .long (xv ^^^ (lh xv 13))), (0, .long xv)]) hx hb dX5_next_8 rfl hl (by decide) rfl (fun ls hl => ?_)
  refine lv_lload_n hx hb dX5_next_9 rfl (lv_at hl 0 rfl) ?_
  refine lv_lload_n hx hb dX5_next_10 rfl (lv_at hl 0 rfl) ?_
  refine lv_bipush (v := 7) hx hb dX5_next_11 (by decide) ?_
  refine lv_lushr (v := (lu (xv ^^^ (lh xv 13)) 7)) hx hb dX5_next_13 rfl ?_
  refine lv_lxor hx hb dX5_next_14 ?_
  refine lv_lstore_n (lv' := [(2, .long ((xv ^^^ (lh xv 13)) ^^^ (lu (xv ^^^ (lh xv 13)) 7))), (0, .long xv)]) hx hb dX5_next_15 rfl hl (by decide) rfl (fun ls hl => ?_)
  refine lv_lload_n hx hb dX5_next_16 rfl (lv_at hl 0 rfl) ?_
  refine lv_lload_n hx hb dX5_next_17 rfl (lv_at hl 0 rfl) ?_
  refine lv_bipush (v := 17) hx hb dX5_next_18 (by decide) ?_
  refine lv_lshl (v := (lh ((xv ^^^ (lh xv 13)) ^^^ (lu (xv ^^^ (lh xv 13)) 7)) 17)) hx hb dX5_next_20 rfl ?_
  refine lv_lxor hx hb dX5_next_21 ?_
  exact W.lret (v := (((xv ^^^ (lh xv 13)) ^^^ (lu (xv ^^^ (lh xv 13)) 7)) ^^^ (lh ((xv ^^^ (lh xv 13)) ^^^ (lu (xv ^^^ (lh xv 13)) 7)) 17))) hx hb hr (fun t ht hW => ⟨by rw [w_X5_next], ht⟩) (fun q h => absurd h List.not_mem_nil) dX5_next_22

theorem mb0 (x : Int32) {n : Nat} (hn : n < 32) : w_X5_has x (nI n) = 0 ↔ bt x n = false := by
  have key : ((x >>> (nI n &&& 31)) &&& 1) = 1 ↔ bt x n = true := by
    constructor
    · intro h
      have h2 : bt ((x >>> (nI n &&& 31)) &&& 1) 0 = bt 1 0 := by rw [h]
      rw [b_and, b_sshr n hn x (by omega), if_pos (by omega), b_1 0 (by omega)] at h2
      simpa using h2
    · intro h
      refine b_ext (fun i hi => ?_)
      rw [b_and, b_1 i hi]
      by_cases h0 : i = 0
      · subst h0; rw [b_sshr n hn x (by omega), if_pos (by omega), Nat.add_zero, h]; rfl
      · simp [h0]
  unfold w_X5_has
  by_cases h : ((x >>> (nI n &&& 31)) &&& 1) = 1
  · rw [if_pos h]; exact ⟨fun q => absurd q (by decide), fun q => by rw [key.mp h] at q; cases q⟩
  · rw [if_neg h]
    refine ⟨fun _ => ?_, fun _ => rfl⟩
    cases e : bt x n with
    | false => rfl
    | true => exact absurd (key.mpr e) h
theorem mb1 (x : Int32) {n : Nat} (hn : n < 32) : ¬ w_X5_has x (nI n) = 0 ↔ bt x n = true := by
  rw [mb0 x hn]; cases bt x n <;> simp
theorem mkJ {ki : Int32} (h : ¬ w_X5_isKind ki = 0) : tn ki < 8 ∧ ki = nI (tn ki) := by
  unfold w_X5_isKind at h
  split at h
  · exact absurd rfl h
  · rename_i h1
    split at h
    · rename_i h2
      exact tn_of (n := 8) (by omega) h1 (fun q => absurd h2 (Int32.not_lt.mpr q))
    · exact absurd rfl h
theorem mpJ {ki : Int32} (h : ¬ w_X5_isPort ki = 0) : tn ki < 4 ∧ ki = nI (tn ki) := by
  unfold w_X5_isPort at h
  split at h
  · exact absurd rfl h
  · rename_i h1
    split at h
    · rename_i h2
      exact tn_of (n := 4) (by omega) h1 (fun q => absurd h2 (Int32.not_lt.mpr q))
    · exact absurd rfl h
theorem nzb {v : Int32} (h : v = 0 ∨ v = 1) : narrow .boolean (.int v) = .int v := by rcases h with rfl | rfl <;> rfl
theorem fzb {v : Int32} (h : v = 0 ∨ v = 1) : fits .boolean (.int v) = true := by rcases h with rfl | rfl <;> rfl

def w_X5_isCell (M : ModT) (ce : Int32) : Int32 := if ce < 0 then 0 else if ce < (M_cells M) then 1 else 0
set_option maxHeartbeats 4000000 in
set_option maxRecDepth 100000 in
theorem c_X5_isCell (l : Launch) (k : KT) (a : Nat → Nat) (M : ModT) (ce : Int32)  : MR l yX5_isCell cX5_isCell 2 (some .boolean) (rz 0 0) k [.ref (a 0), .int ce] (mW k a M) (.int (w_X5_isCell M ce)) := by
  refine Met.ofW (cc := cX5_isCell) (maxL := 2) (ret := (some .boolean)) (by decide) rfl ?_
  intro p e s m args below meth c s₁ B hml hv
  obtain ⟨rfl, hP, hK⟩ := hv
  have hx := B.exec
  have hb := B.bytes
  have hr := B.returns
  have hU : ∀ w ∈ wsL_law, w.before [.ref (a 0), .int ce].toArray s = true := fun w h => atoms_spec (ws := Cond.code yX5_isCell cX5_isCell 2 (some .boolean) :: wsL_law) B.pre w (List.mem_cons_of_mem _ h)
  have hown : s.vm.findClass RX5 = some m.cls := findClass_of_methodNamed B.named
  have hlocks := B.notSynchronized
  have hF : CF p m c cX5_isCell 2 s [.ref (a 0), .int ce].toArray RX5 := ⟨hx, hb, hml, hown, hU⟩
  have hl := lv_entry ([.ref (a 0), .int ce] : List Value) (n := 2) (Nat.le_of_ble_eq_true rfl)
  rw [lg_entry_eq]
  generalize (lg_sl ([.ref (a 0), .int ce] : List Value) ++ List.replicate (2 - (lg_sl ([.ref (a 0), .int ce] : List Value)).length) Slot.unset).toArray = ls at hl ⊢
  have hl : lv_has ls 2 [(0, .ref (a 0)), (1, .int ce)] := hl
  refine lv_iload_n hx hb dX5_isCell_0 rfl (lv_at hl 1 rfl) ?_
  refine lv_if_lt (tgt := 16) hx hb dX5_isCell_1 (by decide) (fun c_1 => ?_) (fun c_1 => ?_)
  · refine lv_iconst (v := 0) hx hb dX5_isCell_16 (by decide) ?_
    exact W.zret (v := 0) hx hb hr rfl (fun t ht hW => ⟨by rw [w_X5_isCell, if_pos c_1], ht⟩) (fun q h => absurd h List.not_mem_nil) dX5_isCell_17
  · refine lv_iload_n hx hb dX5_isCell_4 rfl (lv_at hl 1 rfl) ?_
    refine lv_aload_n hx hb dX5_isCell_5 rfl (lv_at hl 0 rfl) ?_
    refine va_get (D := k.1) (ci := 5) (v := .int (M_cells M)) (C := RX5) (T := TX5) (N := 27) hx hb hU inlX5 hown hK.1 hP 0 rfl rfl 0 (by decide) (hU _ uF_X5_49) (fun _ h9 => h9) rfl dX5_isCell_6 ?_
    refine xb_ge (tgt := 16) hx hb dX5_isCell_9 (by decide) (fun c_2 => ?_) (fun c_2 => ?_)
    · refine lv_iconst (v := 0) hx hb dX5_isCell_16 (by decide) ?_
      exact W.zret (v := 0) hx hb hr rfl (fun t ht hW => ⟨by rw [w_X5_isCell, if_neg c_1, if_neg c_2], ht⟩) (fun q h => absurd h List.not_mem_nil) dX5_isCell_17
    · refine lv_iconst (v := 1) hx hb dX5_isCell_12 (by decide) ?_
      refine lv_goto (tgt := 17) hx hb dX5_isCell_13 (by decide) ?_
      exact W.zret (v := 1) hx hb hr rfl (fun t ht hW => ⟨by rw [w_X5_isCell, if_neg c_1, if_pos c_2], ht⟩) (fun q h => absurd h List.not_mem_nil) dX5_isCell_17

theorem mcJ {M : ModT} {n : Nat} {ce : Int32} (hn : n ≤ 24) (hc : M_cells M = nI n) (h : ¬ w_X5_isCell M ce = 0) : tn ce < n ∧ ce = nI (tn ce) := by
  unfold w_X5_isCell at h
  split at h
  · exact absurd rfl h
  · rename_i h1
    split at h
    · rename_i h2
      rw [hc] at h2
      exact tn_of (by omega) h1 (fun q => absurd h2 (Int32.not_lt.mpr q))
    · exact absurd rfl h
theorem mlt24 {M : ModT} {n : Nat} (hn : n ≤ 24) (hc : M_cells M = nI n) (h : ¬ M_cells M = 24) : n < 24 := by
  rcases Nat.lt_or_ge n 24 with h1 | h1
  · exact h1
  · exact absurd (by rw [hc, show n = 24 by omega]; rfl) h

def w_X5_cell (M : ModT) (cost : Int64) : Int32 := if (M_cells M) = 24 then (-1) else if cost < 0 then (-1) else if 1000000 < cost then (-1) else (((M_cells M) + 1) - 1)
def w_X5_cell_M (M : ModT) (cost : Int64) (n : Nat) : ModT := if (M_cells M) = 24 then M else if cost < 0 then M else if 1000000 < cost then M else (sM_cells (sM_costs M (vp_updL (M_costs M) n cost)) ((M_cells M) + 1))
set_option maxHeartbeats 4000000 in
set_option maxRecDepth 100000 in
theorem c_X5_cell (l : Launch) (k : KT) (a : Nat → Nat) (M : ModT) (cost : Int64) (n : Nat) (hn : n ≤ 24) (hc : M_cells M = nI n) : MW l yX5_cell cX5_cell 3 (some .int) (rz 0 0) k [.ref (a 0), .long cost] (mW k a M) (some (.int (w_X5_cell M cost))) (mW k a (w_X5_cell_M M cost n)) := by
  intro sz
  refine Met.ofW (cc := cX5_cell) (maxL := 3) (ret := (some .int)) (by decide) rfl ?_
  intro p e s m args below meth c s₁ B hml hv
  obtain ⟨rfl, hsz, hP, hK, hD0⟩ := hv
  have hx := B.exec
  have hb := B.bytes
  have hr := B.returns
  have hU : ∀ w ∈ wsL_law, w.before [.ref (a 0), .long cost].toArray s = true := fun w h => atoms_spec (ws := Cond.code yX5_cell cX5_cell 3 (some .int) :: wsL_law) B.pre w (List.mem_cons_of_mem _ h)
  have hown : s.vm.findClass RX5 = some m.cls := findClass_of_methodNamed B.named
  have hlocks := B.notSynchronized
  have hF : CF p m c cX5_cell 3 s [.ref (a 0), .long cost].toArray RX5 := ⟨hx, hb, hml, hown, hU⟩
  subst hsz
  have hD := hD0.self (sz := s.heap.size)
  generalize hAe : va_A (mW k a M) s.heap.size = A at hD ⊢
  have hA : ∀ q : Nat, s.heap.size ≤ q → A q := fun q h => by rw [← hAe]; exact Or.inr h
  have hS : va_S A s.heap s.heap [] := va_S.rf
  have hl := lv_entry ([.ref (a 0), .long cost] : List Value) (n := 3) (Nat.le_of_ble_eq_true rfl)
  rw [lg_entry_eq]
  generalize (lg_sl ([.ref (a 0), .long cost] : List Value) ++ List.replicate (3 - (lg_sl ([.ref (a 0), .long cost] : List Value)).length) Slot.unset).toArray = ls at hl ⊢
  have hl : lv_has ls 3 [(0, .ref (a 0)), (1, .long cost)] := hl
  refine lv_aload_n hx hb dX5_cell_0 rfl (lv_at hl 0 rfl) ?_
  refine va_get (D := k.1) (ci := 5) (v := .int (M_cells M)) (C := RX5) (T := TX5) (N := 27) hx hb hU inlX5 hown hK.1 hP 0 rfl rfl 0 (by decide) (hU _ uF_X5_49) (fun _ h9 => h9) rfl dX5_cell_1 ?_
  refine lv_bipush (v := 24) hx hb dX5_cell_4 (by decide) ?_
  refine lv_icmp_eq (tgt := 23) hx hb dX5_cell_6 (by decide) (fun c_1 => ?_) (fun c_1 => ?_)
  · refine lv_iconst (v := (-1)) hx hb dX5_cell_23 (by decide) ?_
    have hP9 : va_P k.1 vwCl (mW k a (w_X5_cell_M M cost n)) s.heap := by rw [w_X5_cell_M, if_pos c_1]; exact hP
    have hD9 : va_D A (mW k a (w_X5_cell_M M cost n)) := by rw [w_X5_cell_M, if_pos c_1]; exact hD
    exact W.iret (v := (-1)) hx hb hr (fun t ht hW => ⟨⟨by rw [w_X5_cell, if_pos c_1], by rw [ht]; exact hP9, hD9⟩, hS.F ht⟩) hS.2.2 dX5_cell_24
  · refine lv_lload_n hx hb dX5_cell_9 rfl (lv_at hl 1 rfl) ?_
    refine lv_lconst (v := 0) hx hb dX5_cell_10 (by decide) ?_
    refine xl_lt (tgt := 23) hx hb dX5_cell_11 dX5_cell_12 (by decide) (fun c_2 => ?_) (fun c_2 => ?_)
    · refine lv_iconst (v := (-1)) hx hb dX5_cell_23 (by decide) ?_
      have hP9 : va_P k.1 vwCl (mW k a (w_X5_cell_M M cost n)) s.heap := by rw [w_X5_cell_M, if_neg c_1, if_pos c_2]; exact hP
      have hD9 : va_D A (mW k a (w_X5_cell_M M cost n)) := by rw [w_X5_cell_M, if_neg c_1, if_pos c_2]; exact hD
      exact W.iret (v := (-1)) hx hb hr (fun t ht hW => ⟨⟨by rw [w_X5_cell, if_neg c_1, if_pos c_2], by rw [ht]; exact hP9, hD9⟩, hS.F ht⟩) hS.2.2 dX5_cell_24
    · refine lv_lload_n hx hb dX5_cell_15 rfl (lv_at hl 1 rfl) ?_
      refine lv_ldc2 hx hb hown (hU _ uK_X5_55) dX5_cell_16 ?_
      refine xl_le (tgt := 25) hx hb dX5_cell_19 dX5_cell_20 (by decide) (fun c_3 => ?_) (fun c_3 => ?_)
      · refine lv_aload_n hx hb dX5_cell_25 rfl (lv_at hl 0 rfl) ?_
        refine va_get (D := k.1) (ci := 5) (v := .ref (a 1)) (C := RX5) (T := TX5) (N := 27) hx hb hU inlX5 hown hK.1 hP 0 rfl rfl 1 (by decide) (hU _ uF_X5_7) (fun _ h9 => h9) rfl dX5_cell_26 ?_
        refine lv_aload_n hx hb dX5_cell_29 rfl (lv_at hl 0 rfl) ?_
        refine va_get (D := k.1) (ci := 5) (v := .int (M_cells M)) (C := RX5) (T := TX5) (N := 27) hx hb hU inlX5 hown hK.1 hP 0 rfl rfl 0 (by decide) (hU _ uF_X5_49) (fun _ h9 => h9) rfl dX5_cell_30 ?_
        refine lv_lload_n hx hb dX5_cell_33 rfl (lv_at hl 1 rfl) ?_
        refine xa_last hx hb hK.1 hP hD hS 1 1 rfl rfl (j := n) hc (mlt24 hn hc c_1) (by decide) dX5_cell_34 (fun H locs hP hD hS => ?_)
        have hP := pz_m_1 k a M (vp_updL (M_costs M) n cost) hP
        have hD := dz_m_1 k a M (vp_updL (M_costs M) n cost) hD
        refine lv_aload_n hx hb dX5_cell_35 rfl (lv_at hl 0 rfl) ?_
        refine lv_dup hx hb dX5_cell_36 rfl ?_
        refine va_get (D := k.1) (ci := 5) (v := .int (M_cells M)) (C := RX5) (T := TX5) (N := 27) hx hb hU inlX5 hown hK.1 hP 0 rfl rfl 0 (by decide) (hU _ uF_X5_49) (fun _ h9 => h9) rfl dX5_cell_37 ?_
        refine lv_iconst (v := 1) hx hb dX5_cell_40 (by decide) ?_
        refine lv_iadd hx hb dX5_cell_41 ?_
        refine va_put (D := k.1) (ci := 5) (v := .int ((M_cells M) + 1)) (ty := .int) (C := RX5) (T := TX5) (N := 27) hx hb hU inlX5 tyX5 tyX5_ok nmX5 hown hK.1 hP hD hS 0 rfl rfl 0 (by decide) (hU _ uF_X5_49) (fun _ h9 => h9) rfl (by decide +kernel) rfl rfl (Nat.le_of_ble_eq_true rfl) dX5_cell_42 (fun H locs hP hD hS => ?_)
        have hP := pz_m_0_0 k a (sM_costs M (vp_updL (M_costs M) n cost)) ((M_cells M) + 1) hP
        have hD := dz_m_0_0 k a (sM_costs M (vp_updL (M_costs M) n cost)) ((M_cells M) + 1) hD
        refine lv_aload_n hx hb dX5_cell_45 rfl (lv_at hl 0 rfl) ?_
        refine va_get (D := k.1) (ci := 5) (v := .int ((M_cells M) + 1)) (C := RX5) (T := TX5) (N := 27) hx hb hU inlX5 hown hK.1 hP 0 rfl rfl 0 (by decide) (hU _ uF_X5_49) (fun _ h9 => h9) rfl dX5_cell_46 ?_
        refine lv_iconst (v := 1) hx hb dX5_cell_49 (by decide) ?_
        refine lv_isub hx hb dX5_cell_50 ?_
        have hP9 : va_P k.1 vwCl (mW k a (w_X5_cell_M M cost n)) H := by rw [w_X5_cell_M, if_neg c_1, if_neg c_2, if_neg c_3]; exact hP
        have hD9 : va_D A (mW k a (w_X5_cell_M M cost n)) := by rw [w_X5_cell_M, if_neg c_1, if_neg c_2, if_neg c_3]; exact hD
        exact W.iret (v := (((M_cells M) + 1) - 1)) hx hb hr (fun t ht hW => ⟨⟨by rw [w_X5_cell, if_neg c_1, if_neg c_2, if_neg c_3], by rw [ht]; exact hP9, hD9⟩, hS.F ht⟩) hS.2.2 dX5_cell_51
      · refine lv_iconst (v := (-1)) hx hb dX5_cell_23 (by decide) ?_
        have hP9 : va_P k.1 vwCl (mW k a (w_X5_cell_M M cost n)) s.heap := by rw [w_X5_cell_M, if_neg c_1, if_neg c_2, if_pos c_3]; exact hP
        have hD9 : va_D A (mW k a (w_X5_cell_M M cost n)) := by rw [w_X5_cell_M, if_neg c_1, if_neg c_2, if_pos c_3]; exact hD
        exact W.iret (v := (-1)) hx hb hr (fun t ht hW => ⟨⟨by rw [w_X5_cell, if_neg c_1, if_neg c_2, if_pos c_3], by rw [ht]; exact hP9, hD9⟩, hS.F ht⟩) hS.2.2 dX5_cell_24

def w_X5_holds (M : ModT) (ce : Int32) (ki : Int32) (av : Int64) (bv : Int64) : Int32 := if (w_X5_isCell M ce) = 0 then 0 else if (w_X5_isKind ki) = 0 then 0 else if av < 0 then 0 else if 1000 < av then 0 else if bv < 1 then 0 else if 16 < bv then 0 else 1
def w_X5_holds_M (M : ModT) (ce : Int32) (ki : Int32) (av : Int64) (bv : Int64) : ModT := if (w_X5_isCell M ce) = 0 then M else if (w_X5_isKind ki) = 0 then M else if av < 0 then M else if 1000 < av then M else if bv < 1 then M else if 16 < bv then M else (sM_amounts M (vp_updL (M_amounts M) (24 * (tn ki) + (tn ce)) (av * (720720 / bv))))
set_option maxHeartbeats 4000000 in
set_option maxRecDepth 100000 in
theorem c_X5_holds (l : Launch) (k : KT) (a : Nat → Nat) (M : ModT) (ce : Int32) (ki : Int32) (av : Int64) (bv : Int64) (n : Nat) (hn : n ≤ 24) (hc : M_cells M = nI n) : MW l yX5_holds cX5_holds 7 (some .boolean) (rz 1 21) k [.ref (a 0), .int ce, .int ki, .long av, .long bv] (mW k a M) (some (.int (w_X5_holds M ce ki av bv))) (mW k a (w_X5_holds_M M ce ki av bv)) := by
  intro sz
  refine Met.ofW (cc := cX5_holds) (maxL := 7) (ret := (some .boolean)) (by decide) rfl ?_
  intro p e s m args below meth c s₁ B hml hv
  obtain ⟨rfl, hsz, hP, hK, hD0⟩ := hv
  have hx := B.exec
  have hb := B.bytes
  have hr := B.returns
  have hU : ∀ w ∈ wsL_law, w.before [.ref (a 0), .int ce, .int ki, .long av, .long bv].toArray s = true := fun w h => atoms_spec (ws := Cond.code yX5_holds cX5_holds 7 (some .boolean) :: wsL_law) B.pre w (List.mem_cons_of_mem _ h)
  have hown : s.vm.findClass RX5 = some m.cls := findClass_of_methodNamed B.named
  have hlocks := B.notSynchronized
  have hF : CF p m c cX5_holds 7 s [.ref (a 0), .int ce, .int ki, .long av, .long bv].toArray RX5 := ⟨hx, hb, hml, hown, hU⟩
  subst hsz
  have hD := hD0.self (sz := s.heap.size)
  generalize hAe : va_A (mW k a M) s.heap.size = A at hD ⊢
  have hA : ∀ q : Nat, s.heap.size ≤ q → A q := fun q h => by rw [← hAe]; exact Or.inr h
  have hS : va_S A s.heap s.heap [] := va_S.rf
  have hl := lv_entry ([.ref (a 0), .int ce, .int ki, .long av, .long bv] : List Value) (n := 7) (Nat.le_of_ble_eq_true rfl)
  rw [lg_entry_eq]
  generalize (lg_sl ([.ref (a 0), .int ce, .int ki, .long av, .long bv] : List Value) ++ List.replicate (7 - (lg_sl ([.ref (a 0), .int ce, .int ki, .long av, .long bv] : List Value)).length) Slot.unset).toArray = ls at hl ⊢
  have hl : lv_has ls 7 [(0, .ref (a 0)), (1, .int ce), (2, .int ki), (3, .long av), (5, .long bv)] := hl
  refine lv_aload_n hx hb dX5_holds_0 rfl (lv_at hl 0 rfl) ?_
  refine lv_iload_n hx hb dX5_holds_1 rfl (lv_at hl 1 rfl) ?_
  refine rcV (n := 1) (As := [.int ce]) (rest := []) hF (c_X5_isCell l k a M ce ) (hP) hK 0 (ci := 5) rfl rfl rfl uC_X5_isCell uN_X5 uM_X5_57 uI_X5_isCell uE_X5_isCell (by decide +kernel) rfl ⟨Nat.le_of_ble_eq_true rfl, Nat.le_of_ble_eq_true rfl⟩ ⟨Nat.zero_le _, Nat.zero_le _⟩ hl.1 rfl (Nat.le_of_ble_eq_true rfl) dX5_holds_2 ?_
  refine lv_if_eq (tgt := 45) hx hb dX5_holds_5 (by decide) (fun c_1 => ?_) (fun c_1 => ?_)
  · refine lv_iconst (v := 0) hx hb dX5_holds_45 (by decide) ?_
    have hP9 : va_P k.1 vwCl (mW k a (w_X5_holds_M M ce ki av bv)) s.heap := by rw [w_X5_holds_M, if_pos c_1]; exact hP
    have hD9 : va_D A (mW k a (w_X5_holds_M M ce ki av bv)) := by rw [w_X5_holds_M, if_pos c_1]; exact hD
    exact W.zret (v := 0) hx hb hr rfl (fun t ht hW => ⟨⟨by rw [w_X5_holds, if_pos c_1], by rw [ht]; exact hP9, hD9⟩, hS.F ht⟩) hS.2.2 dX5_holds_46
  · refine lv_iload_n hx hb dX5_holds_8 rfl (lv_at hl 2 rfl) ?_
    refine rcS (n := 1) (As := [.int ki]) (rest := []) hF (c_X5_isKind l k  ki ) (hP.sub (ws' := []) [] rfl) hK uC_X5_isKind uN_X5 uM_X5_61 uS_X5_isKind (by decide +kernel) rfl ⟨Nat.le_of_ble_eq_true rfl, Nat.le_of_ble_eq_true rfl⟩ ⟨Nat.zero_le _, Nat.zero_le _⟩ hl.1 rfl (Nat.le_of_ble_eq_true rfl) dX5_holds_9 ?_
    refine lv_if_eq (tgt := 45) hx hb dX5_holds_12 (by decide) (fun c_2 => ?_) (fun c_2 => ?_)
    · refine lv_iconst (v := 0) hx hb dX5_holds_45 (by decide) ?_
      have hP9 : va_P k.1 vwCl (mW k a (w_X5_holds_M M ce ki av bv)) s.heap := by rw [w_X5_holds_M, if_neg c_1, if_pos c_2]; exact hP
      have hD9 : va_D A (mW k a (w_X5_holds_M M ce ki av bv)) := by rw [w_X5_holds_M, if_neg c_1, if_pos c_2]; exact hD
      exact W.zret (v := 0) hx hb hr rfl (fun t ht hW => ⟨⟨by rw [w_X5_holds, if_neg c_1, if_pos c_2], by rw [ht]; exact hP9, hD9⟩, hS.F ht⟩) hS.2.2 dX5_holds_46
    · refine lv_lload_n hx hb dX5_holds_15 rfl (lv_at hl 3 rfl) ?_
      refine lv_lconst (v := 0) hx hb dX5_holds_16 (by decide) ?_
      refine xl_lt (tgt := 45) hx hb dX5_holds_17 dX5_holds_18 (by decide) (fun c_3 => ?_) (fun c_3 => ?_)
      · refine lv_iconst (v := 0) hx hb dX5_holds_45 (by decide) ?_
        have hP9 : va_P k.1 vwCl (mW k a (w_X5_holds_M M ce ki av bv)) s.heap := by rw [w_X5_holds_M, if_neg c_1, if_neg c_2, if_pos c_3]; exact hP
        have hD9 : va_D A (mW k a (w_X5_holds_M M ce ki av bv)) := by rw [w_X5_holds_M, if_neg c_1, if_neg c_2, if_pos c_3]; exact hD
        exact W.zret (v := 0) hx hb hr rfl (fun t ht hW => ⟨⟨by rw [w_X5_holds, if_neg c_1, if_neg c_2, if_pos c_3], by rw [ht]; exact hP9, hD9⟩, hS.F ht⟩) hS.2.2 dX5_holds_46
      · refine lv_lload_n hx hb dX5_holds_21 rfl (lv_at hl 3 rfl) ?_
        refine lv_ldc2 hx hb hown (hU _ uK_X5_64) dX5_holds_22 ?_
        refine xl_gt (tgt := 45) hx hb dX5_holds_25 dX5_holds_26 (by decide) (fun c_4 => ?_) (fun c_4 => ?_)
        · refine lv_iconst (v := 0) hx hb dX5_holds_45 (by decide) ?_
          have hP9 : va_P k.1 vwCl (mW k a (w_X5_holds_M M ce ki av bv)) s.heap := by rw [w_X5_holds_M, if_neg c_1, if_neg c_2, if_neg c_3, if_pos c_4]; exact hP
          have hD9 : va_D A (mW k a (w_X5_holds_M M ce ki av bv)) := by rw [w_X5_holds_M, if_neg c_1, if_neg c_2, if_neg c_3, if_pos c_4]; exact hD
          exact W.zret (v := 0) hx hb hr rfl (fun t ht hW => ⟨⟨by rw [w_X5_holds, if_neg c_1, if_neg c_2, if_neg c_3, if_pos c_4], by rw [ht]; exact hP9, hD9⟩, hS.F ht⟩) hS.2.2 dX5_holds_46
        · refine lv_lload hx hb dX5_holds_29 (lv_at hl 4 rfl) ?_
          refine lv_lconst (v := 1) hx hb dX5_holds_31 (by decide) ?_
          refine xl_lt (tgt := 45) hx hb dX5_holds_32 dX5_holds_33 (by decide) (fun c_5 => ?_) (fun c_5 => ?_)
          · refine lv_iconst (v := 0) hx hb dX5_holds_45 (by decide) ?_
            have hP9 : va_P k.1 vwCl (mW k a (w_X5_holds_M M ce ki av bv)) s.heap := by rw [w_X5_holds_M, if_neg c_1, if_neg c_2, if_neg c_3, if_neg c_4, if_pos c_5]; exact hP
            have hD9 : va_D A (mW k a (w_X5_holds_M M ce ki av bv)) := by rw [w_X5_holds_M, if_neg c_1, if_neg c_2, if_neg c_3, if_neg c_4, if_pos c_5]; exact hD
            exact W.zret (v := 0) hx hb hr rfl (fun t ht hW => ⟨⟨by rw [w_X5_holds, if_neg c_1, if_neg c_2, if_neg c_3, if_neg c_4, if_pos c_5], by rw [ht]; exact hP9, hD9⟩, hS.F ht⟩) hS.2.2 dX5_holds_46
          · refine lv_lload hx hb dX5_holds_36 (lv_at hl 4 rfl) ?_
            refine lv_ldc2 hx hb hown (hU _ uK_X5_66) dX5_holds_38 ?_
            refine xl_le (tgt := 47) hx hb dX5_holds_41 dX5_holds_42 (by decide) (fun c_6 => ?_) (fun c_6 => ?_)
            · refine lv_aload_n hx hb dX5_holds_47 rfl (lv_at hl 0 rfl) ?_
              refine va_get (D := k.1) (ci := 5) (v := .ref (a 3)) (C := RX5) (T := TX5) (N := 27) hx hb hU inlX5 hown hK.1 hP 0 rfl rfl 3 (by decide) (hU _ uF_X5_17) (fun _ h9 => h9) rfl dX5_holds_48 ?_
              refine lv_bipush (v := 24) hx hb dX5_holds_51 (by decide) ?_
              refine lv_iload_n hx hb dX5_holds_53 rfl (lv_at hl 2 rfl) ?_
              refine lv_imul hx hb dX5_holds_54 ?_
              refine lv_iload_n hx hb dX5_holds_55 rfl (lv_at hl 1 rfl) ?_
              refine lv_iadd hx hb dX5_holds_56 ?_
              refine lv_lload_n hx hb dX5_holds_57 rfl (lv_at hl 3 rfl) ?_
              refine lv_ldc2 hx hb hown (hU _ uK_X5_68) dX5_holds_58 ?_
              refine lv_lload hx hb dX5_holds_61 (lv_at hl 4 rfl) ?_
              refine lv_ldiv hx hb dX5_holds_63 (ge1 c_5) ?_
              refine lv_lmul hx hb dX5_holds_64 ?_
              refine xa_last hx hb hK.1 hP hD hS 3 1 rfl rfl (j := (24 * (tn ki) + (tn ce))) (by rw [← ix24r, ← (mkJ c_2).2, ← (mcJ hn hc c_1).2]) (by have h1 := (mkJ c_2).1; have h2 := (mcJ hn hc c_1).1; omega) (by decide) dX5_holds_65 (fun H locs hP hD hS => ?_)
              have hP := pz_m_3 k a M (vp_updL (M_amounts M) (24 * (tn ki) + (tn ce)) (av * (720720 / bv))) hP
              have hD := dz_m_3 k a M (vp_updL (M_amounts M) (24 * (tn ki) + (tn ce)) (av * (720720 / bv))) hD
              refine lv_iconst (v := 1) hx hb dX5_holds_66 (by decide) ?_
              have hP9 : va_P k.1 vwCl (mW k a (w_X5_holds_M M ce ki av bv)) H := by rw [w_X5_holds_M, if_neg c_1, if_neg c_2, if_neg c_3, if_neg c_4, if_neg c_5, if_neg c_6]; exact hP
              have hD9 : va_D A (mW k a (w_X5_holds_M M ce ki av bv)) := by rw [w_X5_holds_M, if_neg c_1, if_neg c_2, if_neg c_3, if_neg c_4, if_neg c_5, if_neg c_6]; exact hD
              exact W.zret (v := 1) hx hb hr rfl (fun t ht hW => ⟨⟨by rw [w_X5_holds, if_neg c_1, if_neg c_2, if_neg c_3, if_neg c_4, if_neg c_5, if_neg c_6], by rw [ht]; exact hP9, hD9⟩, hS.F ht⟩) hS.2.2 dX5_holds_67
            · refine lv_iconst (v := 0) hx hb dX5_holds_45 (by decide) ?_
              have hP9 : va_P k.1 vwCl (mW k a (w_X5_holds_M M ce ki av bv)) s.heap := by rw [w_X5_holds_M, if_neg c_1, if_neg c_2, if_neg c_3, if_neg c_4, if_neg c_5, if_pos c_6]; exact hP
              have hD9 : va_D A (mW k a (w_X5_holds_M M ce ki av bv)) := by rw [w_X5_holds_M, if_neg c_1, if_neg c_2, if_neg c_3, if_neg c_4, if_neg c_5, if_pos c_6]; exact hD
              exact W.zret (v := 0) hx hb hr rfl (fun t ht hW => ⟨⟨by rw [w_X5_holds, if_neg c_1, if_neg c_2, if_neg c_3, if_neg c_4, if_neg c_5, if_pos c_6], by rw [ht]; exact hP9, hD9⟩, hS.F ht⟩) hS.2.2 dX5_holds_46

def w_X5_goal (ki : Int32) (av : Int64) (bv : Int64) : Int32 := if (w_X5_isKind ki) = 0 then 0 else if (w_X5_isShare av bv) = 0 then 0 else 1
def w_X5_goal_M (M : ModT) (ki : Int32) (av : Int64) (bv : Int64) : ModT := if (w_X5_isKind ki) = 0 then M else if (w_X5_isShare av bv) = 0 then M else (sM_goalBelow (sM_goalAbove (sM_hasGoal M (upd (M_hasGoal M) (tn ki) 1)) (vp_updL (M_goalAbove (sM_hasGoal M (upd (M_hasGoal M) (tn ki) 1))) (tn ki) av)) (vp_updL (M_goalBelow (sM_goalAbove (sM_hasGoal M (upd (M_hasGoal M) (tn ki) 1)) (vp_updL (M_goalAbove (sM_hasGoal M (upd (M_hasGoal M) (tn ki) 1))) (tn ki) av))) (tn ki) bv))
set_option maxHeartbeats 4000000 in
set_option maxRecDepth 100000 in
theorem c_X5_goal (l : Launch) (k : KT) (a : Nat → Nat) (M : ModT) (ki : Int32) (av : Int64) (bv : Int64) (n : Nat) (hn : n ≤ 24) (hc : M_cells M = nI n) : MW l yX5_goal cX5_goal 6 (some .boolean) (rz 1 23) k [.ref (a 0), .int ki, .long av, .long bv] (mW k a M) (some (.int (w_X5_goal ki av bv))) (mW k a (w_X5_goal_M M ki av bv)) := by
  intro sz
  refine Met.ofW (cc := cX5_goal) (maxL := 6) (ret := (some .boolean)) (by decide) rfl ?_
  intro p e s m args below meth c s₁ B hml hv
  obtain ⟨rfl, hsz, hP, hK, hD0⟩ := hv
  have hx := B.exec
  have hb := B.bytes
  have hr := B.returns
  have hU : ∀ w ∈ wsL_law, w.before [.ref (a 0), .int ki, .long av, .long bv].toArray s = true := fun w h => atoms_spec (ws := Cond.code yX5_goal cX5_goal 6 (some .boolean) :: wsL_law) B.pre w (List.mem_cons_of_mem _ h)
  have hown : s.vm.findClass RX5 = some m.cls := findClass_of_methodNamed B.named
  have hlocks := B.notSynchronized
  have hF : CF p m c cX5_goal 6 s [.ref (a 0), .int ki, .long av, .long bv].toArray RX5 := ⟨hx, hb, hml, hown, hU⟩
  subst hsz
  have hD := hD0.self (sz := s.heap.size)
  generalize hAe : va_A (mW k a M) s.heap.size = A at hD ⊢
  have hA : ∀ q : Nat, s.heap.size ≤ q → A q := fun q h => by rw [← hAe]; exact Or.inr h
  have hS : va_S A s.heap s.heap [] := va_S.rf
  have hl := lv_entry ([.ref (a 0), .int ki, .long av, .long bv] : List Value) (n := 6) (Nat.le_of_ble_eq_true rfl)
  rw [lg_entry_eq]
  generalize (lg_sl ([.ref (a 0), .int ki, .long av, .long bv] : List Value) ++ List.replicate (6 - (lg_sl ([.ref (a 0), .int ki, .long av, .long bv] : List Value)).length) Slot.unset).toArray = ls at hl ⊢
  have hl : lv_has ls 6 [(0, .ref (a 0)), (1, .int ki), (2, .long av), (4, .long bv)] := hl
  refine lv_iload_n hx hb dX5_goal_0 rfl (lv_at hl 1 rfl) ?_
  refine rcS (n := 1) (As := [.int ki]) (rest := []) hF (c_X5_isKind l k  ki ) (hP.sub (ws' := []) [] rfl) hK uC_X5_isKind uN_X5 uM_X5_61 uS_X5_isKind (by decide +kernel) rfl ⟨Nat.le_of_ble_eq_true rfl, Nat.le_of_ble_eq_true rfl⟩ ⟨Nat.zero_le _, Nat.zero_le _⟩ hl.1 rfl (Nat.le_of_ble_eq_true rfl) dX5_goal_1 ?_
  refine lv_if_eq (tgt := 16) hx hb dX5_goal_4 (by decide) (fun c_1 => ?_) (fun c_1 => ?_)
  · refine lv_iconst (v := 0) hx hb dX5_goal_16 (by decide) ?_
    have hP9 : va_P k.1 vwCl (mW k a (w_X5_goal_M M ki av bv)) s.heap := by rw [w_X5_goal_M, if_pos c_1]; exact hP
    have hD9 : va_D A (mW k a (w_X5_goal_M M ki av bv)) := by rw [w_X5_goal_M, if_pos c_1]; exact hD
    exact W.zret (v := 0) hx hb hr rfl (fun t ht hW => ⟨⟨by rw [w_X5_goal, if_pos c_1], by rw [ht]; exact hP9, hD9⟩, hS.F ht⟩) hS.2.2 dX5_goal_17
  · refine lv_lload_n hx hb dX5_goal_7 rfl (lv_at hl 2 rfl) ?_
    refine lv_lload hx hb dX5_goal_8 (lv_at hl 3 rfl) ?_
    refine rcS (n := 2) (As := [.long av, .long bv]) (rest := []) hF (c_X5_isShare l k  av bv ) (hP.sub (ws' := []) [] rfl) hK uC_X5_isShare uN_X5 uM_X5_70 uS_X5_isShare (by decide +kernel) rfl ⟨Nat.le_of_ble_eq_true rfl, Nat.le_of_ble_eq_true rfl⟩ ⟨Nat.zero_le _, Nat.zero_le _⟩ hl.1 rfl (Nat.le_of_ble_eq_true rfl) dX5_goal_10 ?_
    refine lv_if_ne (tgt := 18) hx hb dX5_goal_13 (by decide) (fun c_2 => ?_) (fun c_2 => ?_)
    · refine lv_aload_n hx hb dX5_goal_18 rfl (lv_at hl 0 rfl) ?_
      refine va_get (D := k.1) (ci := 5) (v := .ref (a 7)) (C := RX5) (T := TX5) (N := 27) hx hb hU inlX5 hown hK.1 hP 0 rfl rfl 7 (by decide) (hU _ uF_X5_30) (fun _ h9 => h9) rfl dX5_goal_19 ?_
      refine lv_iload_n hx hb dX5_goal_22 rfl (lv_at hl 1 rfl) ?_
      refine lv_iconst (v := 1) hx hb dX5_goal_23 (by decide) ?_
      refine xa_zast hx hb hK.1 hP hD hS 7 2 rfl rfl (j := (tn ki)) (mkJ c_1).2 (mkJ c_1).1 (by decide) rfl dX5_goal_24 (fun H locs hP hD hS => ?_)
      have hP := pz_m_7 k a M (upd (M_hasGoal M) (tn ki) 1) hP
      have hD := dz_m_7 k a M (upd (M_hasGoal M) (tn ki) 1) hD
      refine lv_aload_n hx hb dX5_goal_25 rfl (lv_at hl 0 rfl) ?_
      refine va_get (D := k.1) (ci := 5) (v := .ref (a 8)) (C := RX5) (T := TX5) (N := 27) hx hb hU inlX5 hown hK.1 hP 0 rfl rfl 8 (by decide) (hU _ uF_X5_33) (fun _ h9 => h9) rfl dX5_goal_26 ?_
      refine lv_iload_n hx hb dX5_goal_29 rfl (lv_at hl 1 rfl) ?_
      refine lv_lload_n hx hb dX5_goal_30 rfl (lv_at hl 2 rfl) ?_
      refine xa_last hx hb hK.1 hP hD hS 8 1 rfl rfl (j := (tn ki)) (mkJ c_1).2 (mkJ c_1).1 (by decide) dX5_goal_31 (fun H locs hP hD hS => ?_)
      have hP := pz_m_8 k a (sM_hasGoal M (upd (M_hasGoal M) (tn ki) 1)) (vp_updL (M_goalAbove (sM_hasGoal M (upd (M_hasGoal M) (tn ki) 1))) (tn ki) av) hP
      have hD := dz_m_8 k a (sM_hasGoal M (upd (M_hasGoal M) (tn ki) 1)) (vp_updL (M_goalAbove (sM_hasGoal M (upd (M_hasGoal M) (tn ki) 1))) (tn ki) av) hD
      refine lv_aload_n hx hb dX5_goal_32 rfl (lv_at hl 0 rfl) ?_
      refine va_get (D := k.1) (ci := 5) (v := .ref (a 9)) (C := RX5) (T := TX5) (N := 27) hx hb hU inlX5 hown hK.1 hP 0 rfl rfl 9 (by decide) (hU _ uF_X5_36) (fun _ h9 => h9) rfl dX5_goal_33 ?_
      refine lv_iload_n hx hb dX5_goal_36 rfl (lv_at hl 1 rfl) ?_
      refine lv_lload hx hb dX5_goal_37 (lv_at hl 3 rfl) ?_
      refine xa_last hx hb hK.1 hP hD hS 9 1 rfl rfl (j := (tn ki)) (mkJ c_1).2 (mkJ c_1).1 (by decide) dX5_goal_39 (fun H locs hP hD hS => ?_)
      have hP := pz_m_9 k a (sM_goalAbove (sM_hasGoal M (upd (M_hasGoal M) (tn ki) 1)) (vp_updL (M_goalAbove (sM_hasGoal M (upd (M_hasGoal M) (tn ki) 1))) (tn ki) av)) (vp_updL (M_goalBelow (sM_goalAbove (sM_hasGoal M (upd (M_hasGoal M) (tn ki) 1)) (vp_updL (M_goalAbove (sM_hasGoal M (upd (M_hasGoal M) (tn ki) 1))) (tn ki) av))) (tn ki) bv) hP
      have hD := dz_m_9 k a (sM_goalAbove (sM_hasGoal M (upd (M_hasGoal M) (tn ki) 1)) (vp_updL (M_goalAbove (sM_hasGoal M (upd (M_hasGoal M) (tn ki) 1))) (tn ki) av)) (vp_updL (M_goalBelow (sM_goalAbove (sM_hasGoal M (upd (M_hasGoal M) (tn ki) 1)) (vp_updL (M_goalAbove (sM_hasGoal M (upd (M_hasGoal M) (tn ki) 1))) (tn ki) av))) (tn ki) bv) hD
      refine lv_iconst (v := 1) hx hb dX5_goal_40 (by decide) ?_
      have hP9 : va_P k.1 vwCl (mW k a (w_X5_goal_M M ki av bv)) H := by rw [w_X5_goal_M, if_neg c_1, if_neg c_2]; exact hP
      have hD9 : va_D A (mW k a (w_X5_goal_M M ki av bv)) := by rw [w_X5_goal_M, if_neg c_1, if_neg c_2]; exact hD
      exact W.zret (v := 1) hx hb hr rfl (fun t ht hW => ⟨⟨by rw [w_X5_goal, if_neg c_1, if_neg c_2], by rw [ht]; exact hP9, hD9⟩, hS.F ht⟩) hS.2.2 dX5_goal_41
    · refine lv_iconst (v := 0) hx hb dX5_goal_16 (by decide) ?_
      have hP9 : va_P k.1 vwCl (mW k a (w_X5_goal_M M ki av bv)) s.heap := by rw [w_X5_goal_M, if_neg c_1, if_pos c_2]; exact hP
      have hD9 : va_D A (mW k a (w_X5_goal_M M ki av bv)) := by rw [w_X5_goal_M, if_neg c_1, if_pos c_2]; exact hD
      exact W.zret (v := 0) hx hb hr rfl (fun t ht hW => ⟨⟨by rw [w_X5_goal, if_neg c_1, if_pos c_2], by rw [ht]; exact hP9, hD9⟩, hS.F ht⟩) hS.2.2 dX5_goal_17

def w_X5_near (M : ModT) (ca : Int32) (cb : Int32) (bo : Int64) : Int32 := if (w_X5_isCell M ca) = 0 then 0 else if (w_X5_isCell M cb) = 0 then 0 else if ca = cb then 0 else if bo < 0 then 0 else if 1000 < bo then 0 else 1
def w_X5_near_M (M : ModT) (ca : Int32) (cb : Int32) (bo : Int64) : ModT := if (w_X5_isCell M ca) = 0 then M else if (w_X5_isCell M cb) = 0 then M else if ca = cb then M else if bo < 0 then M else if 1000 < bo then M else (sM_borders (sM_borders M (vp_updL (M_borders M) (24 * (tn ca) + (tn cb)) bo)) (vp_updL (M_borders (sM_borders M (vp_updL (M_borders M) (24 * (tn ca) + (tn cb)) bo))) (24 * (tn cb) + (tn ca)) bo))
set_option maxHeartbeats 4000000 in
set_option maxRecDepth 100000 in
theorem c_X5_near (l : Launch) (k : KT) (a : Nat → Nat) (M : ModT) (ca : Int32) (cb : Int32) (bo : Int64) (n : Nat) (hn : n ≤ 24) (hc : M_cells M = nI n) : MW l yX5_near cX5_near 5 (some .boolean) (rz 1 21) k [.ref (a 0), .int ca, .int cb, .long bo] (mW k a M) (some (.int (w_X5_near M ca cb bo))) (mW k a (w_X5_near_M M ca cb bo)) := by
  intro sz
  refine Met.ofW (cc := cX5_near) (maxL := 5) (ret := (some .boolean)) (by decide) rfl ?_
  intro p e s m args below meth c s₁ B hml hv
  obtain ⟨rfl, hsz, hP, hK, hD0⟩ := hv
  have hx := B.exec
  have hb := B.bytes
  have hr := B.returns
  have hU : ∀ w ∈ wsL_law, w.before [.ref (a 0), .int ca, .int cb, .long bo].toArray s = true := fun w h => atoms_spec (ws := Cond.code yX5_near cX5_near 5 (some .boolean) :: wsL_law) B.pre w (List.mem_cons_of_mem _ h)
  have hown : s.vm.findClass RX5 = some m.cls := findClass_of_methodNamed B.named
  have hlocks := B.notSynchronized
  have hF : CF p m c cX5_near 5 s [.ref (a 0), .int ca, .int cb, .long bo].toArray RX5 := ⟨hx, hb, hml, hown, hU⟩
  subst hsz
  have hD := hD0.self (sz := s.heap.size)
  generalize hAe : va_A (mW k a M) s.heap.size = A at hD ⊢
  have hA : ∀ q : Nat, s.heap.size ≤ q → A q := fun q h => by rw [← hAe]; exact Or.inr h
  have hS : va_S A s.heap s.heap [] := va_S.rf
  have hl := lv_entry ([.ref (a 0), .int ca, .int cb, .long bo] : List Value) (n := 5) (Nat.le_of_ble_eq_true rfl)
  rw [lg_entry_eq]
  generalize (lg_sl ([.ref (a 0), .int ca, .int cb, .long bo] : List Value) ++ List.replicate (5 - (lg_sl ([.ref (a 0), .int ca, .int cb, .long bo] : List Value)).length) Slot.unset).toArray = ls at hl ⊢
  have hl : lv_has ls 5 [(0, .ref (a 0)), (1, .int ca), (2, .int cb), (3, .long bo)] := hl
  refine lv_aload_n hx hb dX5_near_0 rfl (lv_at hl 0 rfl) ?_
  refine lv_iload_n hx hb dX5_near_1 rfl (lv_at hl 1 rfl) ?_
  refine rcV (n := 1) (As := [.int ca]) (rest := []) hF (c_X5_isCell l k a M ca ) (hP) hK 0 (ci := 5) rfl rfl rfl uC_X5_isCell uN_X5 uM_X5_57 uI_X5_isCell uE_X5_isCell (by decide +kernel) rfl ⟨Nat.le_of_ble_eq_true rfl, Nat.le_of_ble_eq_true rfl⟩ ⟨Nat.zero_le _, Nat.zero_le _⟩ hl.1 rfl (Nat.le_of_ble_eq_true rfl) dX5_near_2 ?_
  refine lv_if_eq (tgt := 35) hx hb dX5_near_5 (by decide) (fun c_1 => ?_) (fun c_1 => ?_)
  · refine lv_iconst (v := 0) hx hb dX5_near_35 (by decide) ?_
    have hP9 : va_P k.1 vwCl (mW k a (w_X5_near_M M ca cb bo)) s.heap := by rw [w_X5_near_M, if_pos c_1]; exact hP
    have hD9 : va_D A (mW k a (w_X5_near_M M ca cb bo)) := by rw [w_X5_near_M, if_pos c_1]; exact hD
    exact W.zret (v := 0) hx hb hr rfl (fun t ht hW => ⟨⟨by rw [w_X5_near, if_pos c_1], by rw [ht]; exact hP9, hD9⟩, hS.F ht⟩) hS.2.2 dX5_near_36
  · refine lv_aload_n hx hb dX5_near_8 rfl (lv_at hl 0 rfl) ?_
    refine lv_iload_n hx hb dX5_near_9 rfl (lv_at hl 2 rfl) ?_
    refine rcV (n := 1) (As := [.int cb]) (rest := []) hF (c_X5_isCell l k a M cb ) (hP) hK 0 (ci := 5) rfl rfl rfl uC_X5_isCell uN_X5 uM_X5_57 uI_X5_isCell uE_X5_isCell (by decide +kernel) rfl ⟨Nat.le_of_ble_eq_true rfl, Nat.le_of_ble_eq_true rfl⟩ ⟨Nat.zero_le _, Nat.zero_le _⟩ hl.1 rfl (Nat.le_of_ble_eq_true rfl) dX5_near_10 ?_
    refine lv_if_eq (tgt := 35) hx hb dX5_near_13 (by decide) (fun c_2 => ?_) (fun c_2 => ?_)
    · refine lv_iconst (v := 0) hx hb dX5_near_35 (by decide) ?_
      have hP9 : va_P k.1 vwCl (mW k a (w_X5_near_M M ca cb bo)) s.heap := by rw [w_X5_near_M, if_neg c_1, if_pos c_2]; exact hP
      have hD9 : va_D A (mW k a (w_X5_near_M M ca cb bo)) := by rw [w_X5_near_M, if_neg c_1, if_pos c_2]; exact hD
      exact W.zret (v := 0) hx hb hr rfl (fun t ht hW => ⟨⟨by rw [w_X5_near, if_neg c_1, if_pos c_2], by rw [ht]; exact hP9, hD9⟩, hS.F ht⟩) hS.2.2 dX5_near_36
    · refine lv_iload_n hx hb dX5_near_16 rfl (lv_at hl 1 rfl) ?_
      refine lv_iload_n hx hb dX5_near_17 rfl (lv_at hl 2 rfl) ?_
      refine lv_icmp_eq (tgt := 35) hx hb dX5_near_18 (by decide) (fun c_3 => ?_) (fun c_3 => ?_)
      · refine lv_iconst (v := 0) hx hb dX5_near_35 (by decide) ?_
        have hP9 : va_P k.1 vwCl (mW k a (w_X5_near_M M ca cb bo)) s.heap := by rw [w_X5_near_M, if_neg c_1, if_neg c_2, if_pos c_3]; exact hP
        have hD9 : va_D A (mW k a (w_X5_near_M M ca cb bo)) := by rw [w_X5_near_M, if_neg c_1, if_neg c_2, if_pos c_3]; exact hD
        exact W.zret (v := 0) hx hb hr rfl (fun t ht hW => ⟨⟨by rw [w_X5_near, if_neg c_1, if_neg c_2, if_pos c_3], by rw [ht]; exact hP9, hD9⟩, hS.F ht⟩) hS.2.2 dX5_near_36
      · refine lv_lload_n hx hb dX5_near_21 rfl (lv_at hl 3 rfl) ?_
        refine lv_lconst (v := 0) hx hb dX5_near_22 (by decide) ?_
        refine xl_lt (tgt := 35) hx hb dX5_near_23 dX5_near_24 (by decide) (fun c_4 => ?_) (fun c_4 => ?_)
        · refine lv_iconst (v := 0) hx hb dX5_near_35 (by decide) ?_
          have hP9 : va_P k.1 vwCl (mW k a (w_X5_near_M M ca cb bo)) s.heap := by rw [w_X5_near_M, if_neg c_1, if_neg c_2, if_neg c_3, if_pos c_4]; exact hP
          have hD9 : va_D A (mW k a (w_X5_near_M M ca cb bo)) := by rw [w_X5_near_M, if_neg c_1, if_neg c_2, if_neg c_3, if_pos c_4]; exact hD
          exact W.zret (v := 0) hx hb hr rfl (fun t ht hW => ⟨⟨by rw [w_X5_near, if_neg c_1, if_neg c_2, if_neg c_3, if_pos c_4], by rw [ht]; exact hP9, hD9⟩, hS.F ht⟩) hS.2.2 dX5_near_36
        · refine lv_lload_n hx hb dX5_near_27 rfl (lv_at hl 3 rfl) ?_
          refine lv_ldc2 hx hb hown (hU _ uK_X5_64) dX5_near_28 ?_
          refine xl_le (tgt := 37) hx hb dX5_near_31 dX5_near_32 (by decide) (fun c_5 => ?_) (fun c_5 => ?_)
          · refine lv_aload_n hx hb dX5_near_37 rfl (lv_at hl 0 rfl) ?_
            refine va_get (D := k.1) (ci := 5) (v := .ref (a 5)) (C := RX5) (T := TX5) (N := 27) hx hb hU inlX5 hown hK.1 hP 0 rfl rfl 5 (by decide) (hU _ uF_X5_23) (fun _ h9 => h9) rfl dX5_near_38 ?_
            refine lv_bipush (v := 24) hx hb dX5_near_41 (by decide) ?_
            refine lv_iload_n hx hb dX5_near_43 rfl (lv_at hl 1 rfl) ?_
            refine lv_imul hx hb dX5_near_44 ?_
            refine lv_iload_n hx hb dX5_near_45 rfl (lv_at hl 2 rfl) ?_
            refine lv_iadd hx hb dX5_near_46 ?_
            refine lv_lload_n hx hb dX5_near_47 rfl (lv_at hl 3 rfl) ?_
            refine xa_last hx hb hK.1 hP hD hS 5 1 rfl rfl (j := (24 * (tn ca) + (tn cb))) (by rw [← ix24r, ← (mcJ hn hc c_1).2, ← (mcJ hn hc c_2).2]) (by have h1 := (mcJ hn hc c_1).1; have h2 := (mcJ hn hc c_2).1; omega) (by decide) dX5_near_48 (fun H locs hP hD hS => ?_)
            have hP := pz_m_5 k a M (vp_updL (M_borders M) (24 * (tn ca) + (tn cb)) bo) hP
            have hD := dz_m_5 k a M (vp_updL (M_borders M) (24 * (tn ca) + (tn cb)) bo) hD
            refine lv_aload_n hx hb dX5_near_49 rfl (lv_at hl 0 rfl) ?_
            refine va_get (D := k.1) (ci := 5) (v := .ref (a 5)) (C := RX5) (T := TX5) (N := 27) hx hb hU inlX5 hown hK.1 hP 0 rfl rfl 5 (by decide) (hU _ uF_X5_23) (fun _ h9 => h9) rfl dX5_near_50 ?_
            refine lv_bipush (v := 24) hx hb dX5_near_53 (by decide) ?_
            refine lv_iload_n hx hb dX5_near_55 rfl (lv_at hl 2 rfl) ?_
            refine lv_imul hx hb dX5_near_56 ?_
            refine lv_iload_n hx hb dX5_near_57 rfl (lv_at hl 1 rfl) ?_
            refine lv_iadd hx hb dX5_near_58 ?_
            refine lv_lload_n hx hb dX5_near_59 rfl (lv_at hl 3 rfl) ?_
            refine xa_last hx hb hK.1 hP hD hS 5 1 rfl rfl (j := (24 * (tn cb) + (tn ca))) (by rw [← ix24r, ← (mcJ hn hc c_2).2, ← (mcJ hn hc c_1).2]) (by have h1 := (mcJ hn hc c_2).1; have h2 := (mcJ hn hc c_1).1; omega) (by decide) dX5_near_60 (fun H locs hP hD hS => ?_)
            have hP := pz_m_5 k a (sM_borders M (vp_updL (M_borders M) (24 * (tn ca) + (tn cb)) bo)) (vp_updL (M_borders (sM_borders M (vp_updL (M_borders M) (24 * (tn ca) + (tn cb)) bo))) (24 * (tn cb) + (tn ca)) bo) hP
            have hD := dz_m_5 k a (sM_borders M (vp_updL (M_borders M) (24 * (tn ca) + (tn cb)) bo)) (vp_updL (M_borders (sM_borders M (vp_updL (M_borders M) (24 * (tn ca) + (tn cb)) bo))) (24 * (tn cb) + (tn ca)) bo) hD
            refine lv_iconst (v := 1) hx hb dX5_near_61 (by decide) ?_
            have hP9 : va_P k.1 vwCl (mW k a (w_X5_near_M M ca cb bo)) H := by rw [w_X5_near_M, if_neg c_1, if_neg c_2, if_neg c_3, if_neg c_4, if_neg c_5]; exact hP
            have hD9 : va_D A (mW k a (w_X5_near_M M ca cb bo)) := by rw [w_X5_near_M, if_neg c_1, if_neg c_2, if_neg c_3, if_neg c_4, if_neg c_5]; exact hD
            exact W.zret (v := 1) hx hb hr rfl (fun t ht hW => ⟨⟨by rw [w_X5_near, if_neg c_1, if_neg c_2, if_neg c_3, if_neg c_4, if_neg c_5], by rw [ht]; exact hP9, hD9⟩, hS.F ht⟩) hS.2.2 dX5_near_62
          · refine lv_iconst (v := 0) hx hb dX5_near_35 (by decide) ?_
            have hP9 : va_P k.1 vwCl (mW k a (w_X5_near_M M ca cb bo)) s.heap := by rw [w_X5_near_M, if_neg c_1, if_neg c_2, if_neg c_3, if_neg c_4, if_pos c_5]; exact hP
            have hD9 : va_D A (mW k a (w_X5_near_M M ca cb bo)) := by rw [w_X5_near_M, if_neg c_1, if_neg c_2, if_neg c_3, if_neg c_4, if_pos c_5]; exact hD
            exact W.zret (v := 0) hx hb hr rfl (fun t ht hW => ⟨⟨by rw [w_X5_near, if_neg c_1, if_neg c_2, if_neg c_3, if_neg c_4, if_pos c_5], by rw [ht]; exact hP9, hD9⟩, hS.F ht⟩) hS.2.2 dX5_near_36

def w_X5_far (M : ModT) (ca : Int32) (cb : Int32) (most : Int32) : Int32 := if (w_X5_isCell M ca) = 0 then 0 else if (w_X5_isCell M cb) = 0 then 0 else if ca = cb then 0 else if most < 0 then if most < 0 then 1 else 1 else if most < 0 then 1 else 1
def w_X5_far_M (M : ModT) (ca : Int32) (cb : Int32) (most : Int32) : ModT := if (w_X5_isCell M ca) = 0 then M else if (w_X5_isCell M cb) = 0 then M else if ca = cb then M else if most < 0 then if most < 0 then (sM_apart (sM_apart M (upd (M_apart M) (24 * (tn ca) + (tn cb)) 1)) (upd (M_apart (sM_apart M (upd (M_apart M) (24 * (tn ca) + (tn cb)) 1))) (24 * (tn cb) + (tn ca)) 1)) else (sM_apart (sM_apart M (upd (M_apart M) (24 * (tn ca) + (tn cb)) 1)) (upd (M_apart (sM_apart M (upd (M_apart M) (24 * (tn ca) + (tn cb)) 1))) (24 * (tn cb) + (tn ca)) 0)) else if most < 0 then (sM_apart (sM_apart M (upd (M_apart M) (24 * (tn ca) + (tn cb)) 0)) (upd (M_apart (sM_apart M (upd (M_apart M) (24 * (tn ca) + (tn cb)) 0))) (24 * (tn cb) + (tn ca)) 1)) else (sM_apart (sM_apart M (upd (M_apart M) (24 * (tn ca) + (tn cb)) 0)) (upd (M_apart (sM_apart M (upd (M_apart M) (24 * (tn ca) + (tn cb)) 0))) (24 * (tn cb) + (tn ca)) 0))
set_option maxHeartbeats 4000000 in
set_option maxRecDepth 100000 in
theorem c_X5_far (l : Launch) (k : KT) (a : Nat → Nat) (M : ModT) (ca : Int32) (cb : Int32) (most : Int32) (n : Nat) (hn : n ≤ 24) (hc : M_cells M = nI n) : MW l yX5_far cX5_far 4 (some .boolean) (rz 1 21) k [.ref (a 0), .int ca, .int cb, .int most] (mW k a M) (some (.int (w_X5_far M ca cb most))) (mW k a (w_X5_far_M M ca cb most)) := by
  intro sz
  refine Met.ofW (cc := cX5_far) (maxL := 4) (ret := (some .boolean)) (by decide) rfl ?_
  intro p e s m args below meth c s₁ B hml hv
  obtain ⟨rfl, hsz, hP, hK, hD0⟩ := hv
  have hx := B.exec
  have hb := B.bytes
  have hr := B.returns
  have hU : ∀ w ∈ wsL_law, w.before [.ref (a 0), .int ca, .int cb, .int most].toArray s = true := fun w h => atoms_spec (ws := Cond.code yX5_far cX5_far 4 (some .boolean) :: wsL_law) B.pre w (List.mem_cons_of_mem _ h)
  have hown : s.vm.findClass RX5 = some m.cls := findClass_of_methodNamed B.named
  have hlocks := B.notSynchronized
  have hF : CF p m c cX5_far 4 s [.ref (a 0), .int ca, .int cb, .int most].toArray RX5 := ⟨hx, hb, hml, hown, hU⟩
  subst hsz
  have hD := hD0.self (sz := s.heap.size)
  generalize hAe : va_A (mW k a M) s.heap.size = A at hD ⊢
  have hA : ∀ q : Nat, s.heap.size ≤ q → A q := fun q h => by rw [← hAe]; exact Or.inr h
  have hS : va_S A s.heap s.heap [] := va_S.rf
  have hl := lv_entry ([.ref (a 0), .int ca, .int cb, .int most] : List Value) (n := 4) (Nat.le_of_ble_eq_true rfl)
  rw [lg_entry_eq]
  generalize (lg_sl ([.ref (a 0), .int ca, .int cb, .int most] : List Value) ++ List.replicate (4 - (lg_sl ([.ref (a 0), .int ca, .int cb, .int most] : List Value)).length) Slot.unset).toArray = ls at hl ⊢
  have hl : lv_has ls 4 [(0, .ref (a 0)), (1, .int ca), (2, .int cb), (3, .int most)] := hl
  refine lv_aload_n hx hb dX5_far_0 rfl (lv_at hl 0 rfl) ?_
  refine lv_iload_n hx hb dX5_far_1 rfl (lv_at hl 1 rfl) ?_
  refine rcV (n := 1) (As := [.int ca]) (rest := []) hF (c_X5_isCell l k a M ca ) (hP) hK 0 (ci := 5) rfl rfl rfl uC_X5_isCell uN_X5 uM_X5_57 uI_X5_isCell uE_X5_isCell (by decide +kernel) rfl ⟨Nat.le_of_ble_eq_true rfl, Nat.le_of_ble_eq_true rfl⟩ ⟨Nat.zero_le _, Nat.zero_le _⟩ hl.1 rfl (Nat.le_of_ble_eq_true rfl) dX5_far_2 ?_
  refine lv_if_eq (tgt := 21) hx hb dX5_far_5 (by decide) (fun c_1 => ?_) (fun c_1 => ?_)
  · refine lv_iconst (v := 0) hx hb dX5_far_21 (by decide) ?_
    have hP9 : va_P k.1 vwCl (mW k a (w_X5_far_M M ca cb most)) s.heap := by rw [w_X5_far_M, if_pos c_1]; exact hP
    have hD9 : va_D A (mW k a (w_X5_far_M M ca cb most)) := by rw [w_X5_far_M, if_pos c_1]; exact hD
    exact W.zret (v := 0) hx hb hr rfl (fun t ht hW => ⟨⟨by rw [w_X5_far, if_pos c_1], by rw [ht]; exact hP9, hD9⟩, hS.F ht⟩) hS.2.2 dX5_far_22
  · refine lv_aload_n hx hb dX5_far_8 rfl (lv_at hl 0 rfl) ?_
    refine lv_iload_n hx hb dX5_far_9 rfl (lv_at hl 2 rfl) ?_
    refine rcV (n := 1) (As := [.int cb]) (rest := []) hF (c_X5_isCell l k a M cb ) (hP) hK 0 (ci := 5) rfl rfl rfl uC_X5_isCell uN_X5 uM_X5_57 uI_X5_isCell uE_X5_isCell (by decide +kernel) rfl ⟨Nat.le_of_ble_eq_true rfl, Nat.le_of_ble_eq_true rfl⟩ ⟨Nat.zero_le _, Nat.zero_le _⟩ hl.1 rfl (Nat.le_of_ble_eq_true rfl) dX5_far_10 ?_
    refine lv_if_eq (tgt := 21) hx hb dX5_far_13 (by decide) (fun c_2 => ?_) (fun c_2 => ?_)
    · refine lv_iconst (v := 0) hx hb dX5_far_21 (by decide) ?_
      have hP9 : va_P k.1 vwCl (mW k a (w_X5_far_M M ca cb most)) s.heap := by rw [w_X5_far_M, if_neg c_1, if_pos c_2]; exact hP
      have hD9 : va_D A (mW k a (w_X5_far_M M ca cb most)) := by rw [w_X5_far_M, if_neg c_1, if_pos c_2]; exact hD
      exact W.zret (v := 0) hx hb hr rfl (fun t ht hW => ⟨⟨by rw [w_X5_far, if_neg c_1, if_pos c_2], by rw [ht]; exact hP9, hD9⟩, hS.F ht⟩) hS.2.2 dX5_far_22
    · refine lv_iload_n hx hb dX5_far_16 rfl (lv_at hl 1 rfl) ?_
      refine lv_iload_n hx hb dX5_far_17 rfl (lv_at hl 2 rfl) ?_
      refine lv_icmp_ne (tgt := 23) hx hb dX5_far_18 (by decide) (fun c_3 => ?_) (fun c_3 => ?_)
      · refine lv_aload_n hx hb dX5_far_23 rfl (lv_at hl 0 rfl) ?_
        refine va_get (D := k.1) (ci := 5) (v := .ref (a 6)) (C := RX5) (T := TX5) (N := 27) hx hb hU inlX5 hown hK.1 hP 0 rfl rfl 6 (by decide) (hU _ uF_X5_26) (fun _ h9 => h9) rfl dX5_far_24 ?_
        refine lv_bipush (v := 24) hx hb dX5_far_27 (by decide) ?_
        refine lv_iload_n hx hb dX5_far_29 rfl (lv_at hl 1 rfl) ?_
        refine lv_imul hx hb dX5_far_30 ?_
        refine lv_iload_n hx hb dX5_far_31 rfl (lv_at hl 2 rfl) ?_
        refine lv_iadd hx hb dX5_far_32 ?_
        refine lv_iload_n hx hb dX5_far_33 rfl (lv_at hl 3 rfl) ?_
        refine xz_ge (tgt := 41) hx hb dX5_far_34 (by decide) (fun c_4 => ?_) (fun c_4 => ?_)
        · refine lv_iconst (v := 0) hx hb dX5_far_41 (by decide) ?_
          refine xa_zast hx hb hK.1 hP hD hS 6 2 rfl rfl (j := (24 * (tn ca) + (tn cb))) (by rw [← ix24r, ← (mcJ hn hc c_1).2, ← (mcJ hn hc c_2).2]) (by have h1 := (mcJ hn hc c_1).1; have h2 := (mcJ hn hc c_2).1; omega) (by decide) rfl dX5_far_42 (fun H locs hP hD hS => ?_)
          have hP := pz_m_6 k a M (upd (M_apart M) (24 * (tn ca) + (tn cb)) 0) hP
          have hD := dz_m_6 k a M (upd (M_apart M) (24 * (tn ca) + (tn cb)) 0) hD
          refine lv_aload_n hx hb dX5_far_43 rfl (lv_at hl 0 rfl) ?_
          refine va_get (D := k.1) (ci := 5) (v := .ref (a 6)) (C := RX5) (T := TX5) (N := 27) hx hb hU inlX5 hown hK.1 hP 0 rfl rfl 6 (by decide) (hU _ uF_X5_26) (fun _ h9 => h9) rfl dX5_far_44 ?_
          refine lv_bipush (v := 24) hx hb dX5_far_47 (by decide) ?_
          refine lv_iload_n hx hb dX5_far_49 rfl (lv_at hl 2 rfl) ?_
          refine lv_imul hx hb dX5_far_50 ?_
          refine lv_iload_n hx hb dX5_far_51 rfl (lv_at hl 1 rfl) ?_
          refine lv_iadd hx hb dX5_far_52 ?_
          refine lv_iload_n hx hb dX5_far_53 rfl (lv_at hl 3 rfl) ?_
          refine xz_ge (tgt := 61) hx hb dX5_far_54 (by decide) (fun c_5 => ?_) (fun c_5 => ?_)
          · refine lv_iconst (v := 0) hx hb dX5_far_61 (by decide) ?_
            refine xa_zast hx hb hK.1 hP hD hS 6 2 rfl rfl (j := (24 * (tn cb) + (tn ca))) (by rw [← ix24r, ← (mcJ hn hc c_2).2, ← (mcJ hn hc c_1).2]) (by have h1 := (mcJ hn hc c_2).1; have h2 := (mcJ hn hc c_1).1; omega) (by decide) rfl dX5_far_62 (fun H locs hP hD hS => ?_)
            have hP := pz_m_6 k a (sM_apart M (upd (M_apart M) (24 * (tn ca) + (tn cb)) 0)) (upd (M_apart (sM_apart M (upd (M_apart M) (24 * (tn ca) + (tn cb)) 0))) (24 * (tn cb) + (tn ca)) 0) hP
            have hD := dz_m_6 k a (sM_apart M (upd (M_apart M) (24 * (tn ca) + (tn cb)) 0)) (upd (M_apart (sM_apart M (upd (M_apart M) (24 * (tn ca) + (tn cb)) 0))) (24 * (tn cb) + (tn ca)) 0) hD
            refine lv_iconst (v := 1) hx hb dX5_far_63 (by decide) ?_
            have hP9 : va_P k.1 vwCl (mW k a (w_X5_far_M M ca cb most)) H := by rw [w_X5_far_M, if_neg c_1, if_neg c_2, if_neg c_3, if_neg c_4, if_neg c_5]; exact hP
            have hD9 : va_D A (mW k a (w_X5_far_M M ca cb most)) := by rw [w_X5_far_M, if_neg c_1, if_neg c_2, if_neg c_3, if_neg c_4, if_neg c_5]; exact hD
            exact W.zret (v := 1) hx hb hr rfl (fun t ht hW => ⟨⟨by rw [w_X5_far, if_neg c_1, if_neg c_2, if_neg c_3, if_neg c_4, if_neg c_5], by rw [ht]; exact hP9, hD9⟩, hS.F ht⟩) hS.2.2 dX5_far_64
          · refine lv_iconst (v := 1) hx hb dX5_far_57 (by decide) ?_
            refine lv_goto (tgt := 62) hx hb dX5_far_58 (by decide) ?_
            refine xa_zast hx hb hK.1 hP hD hS 6 2 rfl rfl (j := (24 * (tn cb) + (tn ca))) (by rw [← ix24r, ← (mcJ hn hc c_2).2, ← (mcJ hn hc c_1).2]) (by have h1 := (mcJ hn hc c_2).1; have h2 := (mcJ hn hc c_1).1; omega) (by decide) rfl dX5_far_62 (fun H locs hP hD hS => ?_)
            have hP := pz_m_6 k a (sM_apart M (upd (M_apart M) (24 * (tn ca) + (tn cb)) 0)) (upd (M_apart (sM_apart M (upd (M_apart M) (24 * (tn ca) + (tn cb)) 0))) (24 * (tn cb) + (tn ca)) 1) hP
            have hD := dz_m_6 k a (sM_apart M (upd (M_apart M) (24 * (tn ca) + (tn cb)) 0)) (upd (M_apart (sM_apart M (upd (M_apart M) (24 * (tn ca) + (tn cb)) 0))) (24 * (tn cb) + (tn ca)) 1) hD
            refine lv_iconst (v := 1) hx hb dX5_far_63 (by decide) ?_
            have hP9 : va_P k.1 vwCl (mW k a (w_X5_far_M M ca cb most)) H := by rw [w_X5_far_M, if_neg c_1, if_neg c_2, if_neg c_3, if_neg c_4, if_pos c_5]; exact hP
            have hD9 : va_D A (mW k a (w_X5_far_M M ca cb most)) := by rw [w_X5_far_M, if_neg c_1, if_neg c_2, if_neg c_3, if_neg c_4, if_pos c_5]; exact hD
            exact W.zret (v := 1) hx hb hr rfl (fun t ht hW => ⟨⟨by rw [w_X5_far, if_neg c_1, if_neg c_2, if_neg c_3, if_neg c_4, if_pos c_5], by rw [ht]; exact hP9, hD9⟩, hS.F ht⟩) hS.2.2 dX5_far_64
        · refine lv_iconst (v := 1) hx hb dX5_far_37 (by decide) ?_
          refine lv_goto (tgt := 42) hx hb dX5_far_38 (by decide) ?_
          refine xa_zast hx hb hK.1 hP hD hS 6 2 rfl rfl (j := (24 * (tn ca) + (tn cb))) (by rw [← ix24r, ← (mcJ hn hc c_1).2, ← (mcJ hn hc c_2).2]) (by have h1 := (mcJ hn hc c_1).1; have h2 := (mcJ hn hc c_2).1; omega) (by decide) rfl dX5_far_42 (fun H locs hP hD hS => ?_)
          have hP := pz_m_6 k a M (upd (M_apart M) (24 * (tn ca) + (tn cb)) 1) hP
          have hD := dz_m_6 k a M (upd (M_apart M) (24 * (tn ca) + (tn cb)) 1) hD
          refine lv_aload_n hx hb dX5_far_43 rfl (lv_at hl 0 rfl) ?_
          refine va_get (D := k.1) (ci := 5) (v := .ref (a 6)) (C := RX5) (T := TX5) (N := 27) hx hb hU inlX5 hown hK.1 hP 0 rfl rfl 6 (by decide) (hU _ uF_X5_26) (fun _ h9 => h9) rfl dX5_far_44 ?_
          refine lv_bipush (v := 24) hx hb dX5_far_47 (by decide) ?_
          refine lv_iload_n hx hb dX5_far_49 rfl (lv_at hl 2 rfl) ?_
          refine lv_imul hx hb dX5_far_50 ?_
          refine lv_iload_n hx hb dX5_far_51 rfl (lv_at hl 1 rfl) ?_
          refine lv_iadd hx hb dX5_far_52 ?_
          refine lv_iload_n hx hb dX5_far_53 rfl (lv_at hl 3 rfl) ?_
          refine xz_ge (tgt := 61) hx hb dX5_far_54 (by decide) (fun c_6 => ?_) (fun c_6 => ?_)
          · refine lv_iconst (v := 0) hx hb dX5_far_61 (by decide) ?_
            refine xa_zast hx hb hK.1 hP hD hS 6 2 rfl rfl (j := (24 * (tn cb) + (tn ca))) (by rw [← ix24r, ← (mcJ hn hc c_2).2, ← (mcJ hn hc c_1).2]) (by have h1 := (mcJ hn hc c_2).1; have h2 := (mcJ hn hc c_1).1; omega) (by decide) rfl dX5_far_62 (fun H locs hP hD hS => ?_)
            have hP := pz_m_6 k a (sM_apart M (upd (M_apart M) (24 * (tn ca) + (tn cb)) 1)) (upd (M_apart (sM_apart M (upd (M_apart M) (24 * (tn ca) + (tn cb)) 1))) (24 * (tn cb) + (tn ca)) 0) hP
            have hD := dz_m_6 k a (sM_apart M (upd (M_apart M) (24 * (tn ca) + (tn cb)) 1)) (upd (M_apart (sM_apart M (upd (M_apart M) (24 * (tn ca) + (tn cb)) 1))) (24 * (tn cb) + (tn ca)) 0) hD
            refine lv_iconst (v := 1) hx hb dX5_far_63 (by decide) ?_
            have hP9 : va_P k.1 vwCl (mW k a (w_X5_far_M M ca cb most)) H := by rw [w_X5_far_M, if_neg c_1, if_neg c_2, if_neg c_3, if_pos c_4, if_neg c_6]; exact hP
            have hD9 : va_D A (mW k a (w_X5_far_M M ca cb most)) := by rw [w_X5_far_M, if_neg c_1, if_neg c_2, if_neg c_3, if_pos c_4, if_neg c_6]; exact hD
            exact W.zret (v := 1) hx hb hr rfl (fun t ht hW => ⟨⟨by rw [w_X5_far, if_neg c_1, if_neg c_2, if_neg c_3, if_pos c_4, if_neg c_6], by rw [ht]; exact hP9, hD9⟩, hS.F ht⟩) hS.2.2 dX5_far_64
          · refine lv_iconst (v := 1) hx hb dX5_far_57 (by decide) ?_
            refine lv_goto (tgt := 62) hx hb dX5_far_58 (by decide) ?_
            refine xa_zast hx hb hK.1 hP hD hS 6 2 rfl rfl (j := (24 * (tn cb) + (tn ca))) (by rw [← ix24r, ← (mcJ hn hc c_2).2, ← (mcJ hn hc c_1).2]) (by have h1 := (mcJ hn hc c_2).1; have h2 := (mcJ hn hc c_1).1; omega) (by decide) rfl dX5_far_62 (fun H locs hP hD hS => ?_)
            have hP := pz_m_6 k a (sM_apart M (upd (M_apart M) (24 * (tn ca) + (tn cb)) 1)) (upd (M_apart (sM_apart M (upd (M_apart M) (24 * (tn ca) + (tn cb)) 1))) (24 * (tn cb) + (tn ca)) 1) hP
            have hD := dz_m_6 k a (sM_apart M (upd (M_apart M) (24 * (tn ca) + (tn cb)) 1)) (upd (M_apart (sM_apart M (upd (M_apart M) (24 * (tn ca) + (tn cb)) 1))) (24 * (tn cb) + (tn ca)) 1) hD
            refine lv_iconst (v := 1) hx hb dX5_far_63 (by decide) ?_
            have hP9 : va_P k.1 vwCl (mW k a (w_X5_far_M M ca cb most)) H := by rw [w_X5_far_M, if_neg c_1, if_neg c_2, if_neg c_3, if_pos c_4, if_pos c_6]; exact hP
            have hD9 : va_D A (mW k a (w_X5_far_M M ca cb most)) := by rw [w_X5_far_M, if_neg c_1, if_neg c_2, if_neg c_3, if_pos c_4, if_pos c_6]; exact hD
            exact W.zret (v := 1) hx hb hr rfl (fun t ht hW => ⟨⟨by rw [w_X5_far, if_neg c_1, if_neg c_2, if_neg c_3, if_pos c_4, if_pos c_6], by rw [ht]; exact hP9, hD9⟩, hS.F ht⟩) hS.2.2 dX5_far_64
      · refine lv_iconst (v := 0) hx hb dX5_far_21 (by decide) ?_
        have hP9 : va_P k.1 vwCl (mW k a (w_X5_far_M M ca cb most)) s.heap := by rw [w_X5_far_M, if_neg c_1, if_neg c_2, if_pos c_3]; exact hP
        have hD9 : va_D A (mW k a (w_X5_far_M M ca cb most)) := by rw [w_X5_far_M, if_neg c_1, if_neg c_2, if_pos c_3]; exact hD
        exact W.zret (v := 0) hx hb hr rfl (fun t ht hW => ⟨⟨by rw [w_X5_far, if_neg c_1, if_neg c_2, if_pos c_3], by rw [ht]; exact hP9, hD9⟩, hS.F ht⟩) hS.2.2 dX5_far_22

def w_X5_weight (wv : Int64) : Int32 := if wv < 0 then 0 else if 1000 < wv then 0 else 1
def w_X5_weight_M (M : ModT) (wv : Int64) : ModT := if wv < 0 then M else if 1000 < wv then M else (sM_weight M wv)
set_option maxHeartbeats 4000000 in
set_option maxRecDepth 100000 in
theorem c_X5_weight (l : Launch) (k : KT) (a : Nat → Nat) (M : ModT) (wv : Int64) (n : Nat) (hn : n ≤ 24) (hc : M_cells M = nI n) : MW l yX5_weight cX5_weight 3 (some .boolean) (rz 0 0) k [.ref (a 0), .long wv] (mW k a M) (some (.int (w_X5_weight wv))) (mW k a (w_X5_weight_M M wv)) := by
  intro sz
  refine Met.ofW (cc := cX5_weight) (maxL := 3) (ret := (some .boolean)) (by decide) rfl ?_
  intro p e s m args below meth c s₁ B hml hv
  obtain ⟨rfl, hsz, hP, hK, hD0⟩ := hv
  have hx := B.exec
  have hb := B.bytes
  have hr := B.returns
  have hU : ∀ w ∈ wsL_law, w.before [.ref (a 0), .long wv].toArray s = true := fun w h => atoms_spec (ws := Cond.code yX5_weight cX5_weight 3 (some .boolean) :: wsL_law) B.pre w (List.mem_cons_of_mem _ h)
  have hown : s.vm.findClass RX5 = some m.cls := findClass_of_methodNamed B.named
  have hlocks := B.notSynchronized
  have hF : CF p m c cX5_weight 3 s [.ref (a 0), .long wv].toArray RX5 := ⟨hx, hb, hml, hown, hU⟩
  subst hsz
  have hD := hD0.self (sz := s.heap.size)
  generalize hAe : va_A (mW k a M) s.heap.size = A at hD ⊢
  have hA : ∀ q : Nat, s.heap.size ≤ q → A q := fun q h => by rw [← hAe]; exact Or.inr h
  have hS : va_S A s.heap s.heap [] := va_S.rf
  have hl := lv_entry ([.ref (a 0), .long wv] : List Value) (n := 3) (Nat.le_of_ble_eq_true rfl)
  rw [lg_entry_eq]
  generalize (lg_sl ([.ref (a 0), .long wv] : List Value) ++ List.replicate (3 - (lg_sl ([.ref (a 0), .long wv] : List Value)).length) Slot.unset).toArray = ls at hl ⊢
  have hl : lv_has ls 3 [(0, .ref (a 0)), (1, .long wv)] := hl
  refine lv_lload_n hx hb dX5_weight_0 rfl (lv_at hl 1 rfl) ?_
  refine lv_lconst (v := 0) hx hb dX5_weight_1 (by decide) ?_
  refine xl_lt (tgt := 14) hx hb dX5_weight_2 dX5_weight_3 (by decide) (fun c_1 => ?_) (fun c_1 => ?_)
  · refine lv_iconst (v := 0) hx hb dX5_weight_14 (by decide) ?_
    have hP9 : va_P k.1 vwCl (mW k a (w_X5_weight_M M wv)) s.heap := by rw [w_X5_weight_M, if_pos c_1]; exact hP
    have hD9 : va_D A (mW k a (w_X5_weight_M M wv)) := by rw [w_X5_weight_M, if_pos c_1]; exact hD
    exact W.zret (v := 0) hx hb hr rfl (fun t ht hW => ⟨⟨by rw [w_X5_weight, if_pos c_1], by rw [ht]; exact hP9, hD9⟩, hS.F ht⟩) hS.2.2 dX5_weight_15
  · refine lv_lload_n hx hb dX5_weight_6 rfl (lv_at hl 1 rfl) ?_
    refine lv_ldc2 hx hb hown (hU _ uK_X5_64) dX5_weight_7 ?_
    refine xl_le (tgt := 16) hx hb dX5_weight_10 dX5_weight_11 (by decide) (fun c_2 => ?_) (fun c_2 => ?_)
    · refine lv_aload_n hx hb dX5_weight_16 rfl (lv_at hl 0 rfl) ?_
      refine lv_lload_n hx hb dX5_weight_17 rfl (lv_at hl 1 rfl) ?_
      refine va_put (D := k.1) (ci := 5) (v := .long wv) (ty := .long) (C := RX5) (T := TX5) (N := 27) hx hb hU inlX5 tyX5 tyX5_ok nmX5 hown hK.1 hP hD hS 0 rfl rfl 13 (by decide) (hU _ uF_X5_74) (fun _ h9 => h9) rfl (by decide +kernel) rfl rfl (Nat.le_of_ble_eq_true rfl) dX5_weight_18 (fun H locs hP hD hS => ?_)
      have hP := pz_m_0_13 k a M wv hP
      have hD := dz_m_0_13 k a M wv hD
      refine lv_iconst (v := 1) hx hb dX5_weight_21 (by decide) ?_
      have hP9 : va_P k.1 vwCl (mW k a (w_X5_weight_M M wv)) H := by rw [w_X5_weight_M, if_neg c_1, if_neg c_2]; exact hP
      have hD9 : va_D A (mW k a (w_X5_weight_M M wv)) := by rw [w_X5_weight_M, if_neg c_1, if_neg c_2]; exact hD
      exact W.zret (v := 1) hx hb hr rfl (fun t ht hW => ⟨⟨by rw [w_X5_weight, if_neg c_1, if_neg c_2], by rw [ht]; exact hP9, hD9⟩, hS.F ht⟩) hS.2.2 dX5_weight_22
    · refine lv_iconst (v := 0) hx hb dX5_weight_14 (by decide) ?_
      have hP9 : va_P k.1 vwCl (mW k a (w_X5_weight_M M wv)) s.heap := by rw [w_X5_weight_M, if_neg c_1, if_pos c_2]; exact hP
      have hD9 : va_D A (mW k a (w_X5_weight_M M wv)) := by rw [w_X5_weight_M, if_neg c_1, if_pos c_2]; exact hD
      exact W.zret (v := 0) hx hb hr rfl (fun t ht hW => ⟨⟨by rw [w_X5_weight, if_neg c_1, if_pos c_2], by rw [ht]; exact hP9, hD9⟩, hS.F ht⟩) hS.2.2 dX5_weight_15

def w_X5_must (M : ModT) (ce : Int32) : Int32 := if (w_X5_isCell M ce) = 0 then 0 else 1
def w_X5_must_M (M : ModT) (ce : Int32) : ModT := if (w_X5_isCell M ce) = 0 then M else (sM_states M (upd (M_states M) (tn ce) 1))
set_option maxHeartbeats 4000000 in
set_option maxRecDepth 100000 in
theorem c_X5_must (l : Launch) (k : KT) (a : Nat → Nat) (M : ModT) (ce : Int32) (n : Nat) (hn : n ≤ 24) (hc : M_cells M = nI n) : MW l yX5_must cX5_must 2 (some .boolean) (rz 1 21) k [.ref (a 0), .int ce] (mW k a M) (some (.int (w_X5_must M ce))) (mW k a (w_X5_must_M M ce)) := by
  intro sz
  refine Met.ofW (cc := cX5_must) (maxL := 2) (ret := (some .boolean)) (by decide) rfl ?_
  intro p e s m args below meth c s₁ B hml hv
  obtain ⟨rfl, hsz, hP, hK, hD0⟩ := hv
  have hx := B.exec
  have hb := B.bytes
  have hr := B.returns
  have hU : ∀ w ∈ wsL_law, w.before [.ref (a 0), .int ce].toArray s = true := fun w h => atoms_spec (ws := Cond.code yX5_must cX5_must 2 (some .boolean) :: wsL_law) B.pre w (List.mem_cons_of_mem _ h)
  have hown : s.vm.findClass RX5 = some m.cls := findClass_of_methodNamed B.named
  have hlocks := B.notSynchronized
  have hF : CF p m c cX5_must 2 s [.ref (a 0), .int ce].toArray RX5 := ⟨hx, hb, hml, hown, hU⟩
  subst hsz
  have hD := hD0.self (sz := s.heap.size)
  generalize hAe : va_A (mW k a M) s.heap.size = A at hD ⊢
  have hA : ∀ q : Nat, s.heap.size ≤ q → A q := fun q h => by rw [← hAe]; exact Or.inr h
  have hS : va_S A s.heap s.heap [] := va_S.rf
  have hl := lv_entry ([.ref (a 0), .int ce] : List Value) (n := 2) (Nat.le_of_ble_eq_true rfl)
  rw [lg_entry_eq]
  generalize (lg_sl ([.ref (a 0), .int ce] : List Value) ++ List.replicate (2 - (lg_sl ([.ref (a 0), .int ce] : List Value)).length) Slot.unset).toArray = ls at hl ⊢
  have hl : lv_has ls 2 [(0, .ref (a 0)), (1, .int ce)] := hl
  refine lv_aload_n hx hb dX5_must_0 rfl (lv_at hl 0 rfl) ?_
  refine lv_iload_n hx hb dX5_must_1 rfl (lv_at hl 1 rfl) ?_
  refine rcV (n := 1) (As := [.int ce]) (rest := []) hF (c_X5_isCell l k a M ce ) (hP) hK 0 (ci := 5) rfl rfl rfl uC_X5_isCell uN_X5 uM_X5_57 uI_X5_isCell uE_X5_isCell (by decide +kernel) rfl ⟨Nat.le_of_ble_eq_true rfl, Nat.le_of_ble_eq_true rfl⟩ ⟨Nat.zero_le _, Nat.zero_le _⟩ hl.1 rfl (Nat.le_of_ble_eq_true rfl) dX5_must_2 ?_
  refine lv_if_ne (tgt := 10) hx hb dX5_must_5 (by decide) (fun c_1 => ?_) (fun c_1 => ?_)
  · refine lv_aload_n hx hb dX5_must_10 rfl (lv_at hl 0 rfl) ?_
    refine va_get (D := k.1) (ci := 5) (v := .ref (a 2)) (C := RX5) (T := TX5) (N := 27) hx hb hU inlX5 hown hK.1 hP 0 rfl rfl 2 (by decide) (hU _ uF_X5_13) (fun _ h9 => h9) rfl dX5_must_11 ?_
    refine lv_iload_n hx hb dX5_must_14 rfl (lv_at hl 1 rfl) ?_
    refine lv_iconst (v := 1) hx hb dX5_must_15 (by decide) ?_
    refine xa_iast hx hb hK.1 hP hD hS 2 0 rfl rfl (j := (tn ce)) (mcJ hn hc c_1).2 (by have := (mcJ hn hc c_1).1; omega) (by decide) dX5_must_16 (fun H locs hP hD hS => ?_)
    have hP := pz_m_2 k a M (upd (M_states M) (tn ce) 1) hP
    have hD := dz_m_2 k a M (upd (M_states M) (tn ce) 1) hD
    refine lv_iconst (v := 1) hx hb dX5_must_17 (by decide) ?_
    have hP9 : va_P k.1 vwCl (mW k a (w_X5_must_M M ce)) H := by rw [w_X5_must_M, if_neg c_1]; exact hP
    have hD9 : va_D A (mW k a (w_X5_must_M M ce)) := by rw [w_X5_must_M, if_neg c_1]; exact hD
    exact W.zret (v := 1) hx hb hr rfl (fun t ht hW => ⟨⟨by rw [w_X5_must, if_neg c_1], by rw [ht]; exact hP9, hD9⟩, hS.F ht⟩) hS.2.2 dX5_must_18
  · refine lv_iconst (v := 0) hx hb dX5_must_8 (by decide) ?_
    have hP9 : va_P k.1 vwCl (mW k a (w_X5_must_M M ce)) s.heap := by rw [w_X5_must_M, if_pos c_1]; exact hP
    have hD9 : va_D A (mW k a (w_X5_must_M M ce)) := by rw [w_X5_must_M, if_pos c_1]; exact hD
    exact W.zret (v := 0) hx hb hr rfl (fun t ht hW => ⟨⟨by rw [w_X5_must, if_pos c_1], by rw [ht]; exact hP9, hD9⟩, hS.F ht⟩) hS.2.2 dX5_must_9

def w_X5_bar (M : ModT) (ce : Int32) : Int32 := if (w_X5_isCell M ce) = 0 then 0 else 1
def w_X5_bar_M (M : ModT) (ce : Int32) : ModT := if (w_X5_isCell M ce) = 0 then M else (sM_states M (upd (M_states M) (tn ce) 2))
set_option maxHeartbeats 4000000 in
set_option maxRecDepth 100000 in
theorem c_X5_bar (l : Launch) (k : KT) (a : Nat → Nat) (M : ModT) (ce : Int32) (n : Nat) (hn : n ≤ 24) (hc : M_cells M = nI n) : MW l yX5_bar cX5_bar 2 (some .boolean) (rz 1 21) k [.ref (a 0), .int ce] (mW k a M) (some (.int (w_X5_bar M ce))) (mW k a (w_X5_bar_M M ce)) := by
  intro sz
  refine Met.ofW (cc := cX5_bar) (maxL := 2) (ret := (some .boolean)) (by decide) rfl ?_
  intro p e s m args below meth c s₁ B hml hv
  obtain ⟨rfl, hsz, hP, hK, hD0⟩ := hv
  have hx := B.exec
  have hb := B.bytes
  have hr := B.returns
  have hU : ∀ w ∈ wsL_law, w.before [.ref (a 0), .int ce].toArray s = true := fun w h => atoms_spec (ws := Cond.code yX5_bar cX5_bar 2 (some .boolean) :: wsL_law) B.pre w (List.mem_cons_of_mem _ h)
  have hown : s.vm.findClass RX5 = some m.cls := findClass_of_methodNamed B.named
  have hlocks := B.notSynchronized
  have hF : CF p m c cX5_bar 2 s [.ref (a 0), .int ce].toArray RX5 := ⟨hx, hb, hml, hown, hU⟩
  subst hsz
  have hD := hD0.self (sz := s.heap.size)
  generalize hAe : va_A (mW k a M) s.heap.size = A at hD ⊢
  have hA : ∀ q : Nat, s.heap.size ≤ q → A q := fun q h => by rw [← hAe]; exact Or.inr h
  have hS : va_S A s.heap s.heap [] := va_S.rf
  have hl := lv_entry ([.ref (a 0), .int ce] : List Value) (n := 2) (Nat.le_of_ble_eq_true rfl)
  rw [lg_entry_eq]
  generalize (lg_sl ([.ref (a 0), .int ce] : List Value) ++ List.replicate (2 - (lg_sl ([.ref (a 0), .int ce] : List Value)).length) Slot.unset).toArray = ls at hl ⊢
  have hl : lv_has ls 2 [(0, .ref (a 0)), (1, .int ce)] := hl
  refine lv_aload_n hx hb dX5_bar_0 rfl (lv_at hl 0 rfl) ?_
  refine lv_iload_n hx hb dX5_bar_1 rfl (lv_at hl 1 rfl) ?_
  refine rcV (n := 1) (As := [.int ce]) (rest := []) hF (c_X5_isCell l k a M ce ) (hP) hK 0 (ci := 5) rfl rfl rfl uC_X5_isCell uN_X5 uM_X5_57 uI_X5_isCell uE_X5_isCell (by decide +kernel) rfl ⟨Nat.le_of_ble_eq_true rfl, Nat.le_of_ble_eq_true rfl⟩ ⟨Nat.zero_le _, Nat.zero_le _⟩ hl.1 rfl (Nat.le_of_ble_eq_true rfl) dX5_bar_2 ?_
  refine lv_if_ne (tgt := 10) hx hb dX5_bar_5 (by decide) (fun c_1 => ?_) (fun c_1 => ?_)
  · refine lv_aload_n hx hb dX5_bar_10 rfl (lv_at hl 0 rfl) ?_
    refine va_get (D := k.1) (ci := 5) (v := .ref (a 2)) (C := RX5) (T := TX5) (N := 27) hx hb hU inlX5 hown hK.1 hP 0 rfl rfl 2 (by decide) (hU _ uF_X5_13) (fun _ h9 => h9) rfl dX5_bar_11 ?_
    refine lv_iload_n hx hb dX5_bar_14 rfl (lv_at hl 1 rfl) ?_
    refine lv_iconst (v := 2) hx hb dX5_bar_15 (by decide) ?_
    refine xa_iast hx hb hK.1 hP hD hS 2 0 rfl rfl (j := (tn ce)) (mcJ hn hc c_1).2 (by have := (mcJ hn hc c_1).1; omega) (by decide) dX5_bar_16 (fun H locs hP hD hS => ?_)
    have hP := pz_m_2 k a M (upd (M_states M) (tn ce) 2) hP
    have hD := dz_m_2 k a M (upd (M_states M) (tn ce) 2) hD
    refine lv_iconst (v := 1) hx hb dX5_bar_17 (by decide) ?_
    have hP9 : va_P k.1 vwCl (mW k a (w_X5_bar_M M ce)) H := by rw [w_X5_bar_M, if_neg c_1]; exact hP
    have hD9 : va_D A (mW k a (w_X5_bar_M M ce)) := by rw [w_X5_bar_M, if_neg c_1]; exact hD
    exact W.zret (v := 1) hx hb hr rfl (fun t ht hW => ⟨⟨by rw [w_X5_bar, if_neg c_1], by rw [ht]; exact hP9, hD9⟩, hS.F ht⟩) hS.2.2 dX5_bar_18
  · refine lv_iconst (v := 0) hx hb dX5_bar_8 (by decide) ?_
    have hP9 : va_P k.1 vwCl (mW k a (w_X5_bar_M M ce)) s.heap := by rw [w_X5_bar_M, if_pos c_1]; exact hP
    have hD9 : va_D A (mW k a (w_X5_bar_M M ce)) := by rw [w_X5_bar_M, if_pos c_1]; exact hD
    exact W.zret (v := 0) hx hb hr rfl (fun t ht hW => ⟨⟨by rw [w_X5_bar, if_pos c_1], by rw [ht]; exact hP9, hD9⟩, hS.F ht⟩) hS.2.2 dX5_bar_9

def w_X5_port (M : ModT) (ce : Int32) (ki : Int32) (hv_ : Int64) : Int32 := if (w_X5_isCell M ce) = 0 then 0 else if (w_X5_isPort ki) = 0 then 0 else if hv_ < 0 then 0 else if 1000000 < hv_ then 0 else 1
def w_X5_port_M (M : ModT) (ce : Int32) (ki : Int32) (hv_ : Int64) : ModT := if (w_X5_isCell M ce) = 0 then M else if (w_X5_isPort ki) = 0 then M else if hv_ < 0 then M else if 1000000 < hv_ then M else (sM_hours M (vp_updL (M_hours M) (24 * (tn ki) + (tn ce)) hv_))
set_option maxHeartbeats 4000000 in
set_option maxRecDepth 100000 in
theorem c_X5_port (l : Launch) (k : KT) (a : Nat → Nat) (M : ModT) (ce : Int32) (ki : Int32) (hv_ : Int64) (n : Nat) (hn : n ≤ 24) (hc : M_cells M = nI n) : MW l yX5_port cX5_port 5 (some .boolean) (rz 1 21) k [.ref (a 0), .int ce, .int ki, .long hv_] (mW k a M) (some (.int (w_X5_port M ce ki hv_))) (mW k a (w_X5_port_M M ce ki hv_)) := by
  intro sz
  refine Met.ofW (cc := cX5_port) (maxL := 5) (ret := (some .boolean)) (by decide) rfl ?_
  intro p e s m args below meth c s₁ B hml hv
  obtain ⟨rfl, hsz, hP, hK, hD0⟩ := hv
  have hx := B.exec
  have hb := B.bytes
  have hr := B.returns
  have hU : ∀ w ∈ wsL_law, w.before [.ref (a 0), .int ce, .int ki, .long hv_].toArray s = true := fun w h => atoms_spec (ws := Cond.code yX5_port cX5_port 5 (some .boolean) :: wsL_law) B.pre w (List.mem_cons_of_mem _ h)
  have hown : s.vm.findClass RX5 = some m.cls := findClass_of_methodNamed B.named
  have hlocks := B.notSynchronized
  have hF : CF p m c cX5_port 5 s [.ref (a 0), .int ce, .int ki, .long hv_].toArray RX5 := ⟨hx, hb, hml, hown, hU⟩
  subst hsz
  have hD := hD0.self (sz := s.heap.size)
  generalize hAe : va_A (mW k a M) s.heap.size = A at hD ⊢
  have hA : ∀ q : Nat, s.heap.size ≤ q → A q := fun q h => by rw [← hAe]; exact Or.inr h
  have hS : va_S A s.heap s.heap [] := va_S.rf
  have hl := lv_entry ([.ref (a 0), .int ce, .int ki, .long hv_] : List Value) (n := 5) (Nat.le_of_ble_eq_true rfl)
  rw [lg_entry_eq]
  generalize (lg_sl ([.ref (a 0), .int ce, .int ki, .long hv_] : List Value) ++ List.replicate (5 - (lg_sl ([.ref (a 0), .int ce, .int ki, .long hv_] : List Value)).length) Slot.unset).toArray = ls at hl ⊢
  have hl : lv_has ls 5 [(0, .ref (a 0)), (1, .int ce), (2, .int ki), (3, .long hv_)] := hl
  refine lv_aload_n hx hb dX5_port_0 rfl (lv_at hl 0 rfl) ?_
  refine lv_iload_n hx hb dX5_port_1 rfl (lv_at hl 1 rfl) ?_
  refine rcV (n := 1) (As := [.int ce]) (rest := []) hF (c_X5_isCell l k a M ce ) (hP) hK 0 (ci := 5) rfl rfl rfl uC_X5_isCell uN_X5 uM_X5_57 uI_X5_isCell uE_X5_isCell (by decide +kernel) rfl ⟨Nat.le_of_ble_eq_true rfl, Nat.le_of_ble_eq_true rfl⟩ ⟨Nat.zero_le _, Nat.zero_le _⟩ hl.1 rfl (Nat.le_of_ble_eq_true rfl) dX5_port_2 ?_
  refine lv_if_eq (tgt := 29) hx hb dX5_port_5 (by decide) (fun c_1 => ?_) (fun c_1 => ?_)
  · refine lv_iconst (v := 0) hx hb dX5_port_29 (by decide) ?_
    have hP9 : va_P k.1 vwCl (mW k a (w_X5_port_M M ce ki hv_)) s.heap := by rw [w_X5_port_M, if_pos c_1]; exact hP
    have hD9 : va_D A (mW k a (w_X5_port_M M ce ki hv_)) := by rw [w_X5_port_M, if_pos c_1]; exact hD
    exact W.zret (v := 0) hx hb hr rfl (fun t ht hW => ⟨⟨by rw [w_X5_port, if_pos c_1], by rw [ht]; exact hP9, hD9⟩, hS.F ht⟩) hS.2.2 dX5_port_30
  · refine lv_iload_n hx hb dX5_port_8 rfl (lv_at hl 2 rfl) ?_
    refine rcS (n := 1) (As := [.int ki]) (rest := []) hF (c_X5_isPort l k  ki ) (hP.sub (ws' := []) [] rfl) hK uC_X5_isPort uN_X5 uM_X5_77 uS_X5_isPort (by decide +kernel) rfl ⟨Nat.le_of_ble_eq_true rfl, Nat.le_of_ble_eq_true rfl⟩ ⟨Nat.zero_le _, Nat.zero_le _⟩ hl.1 rfl (Nat.le_of_ble_eq_true rfl) dX5_port_9 ?_
    refine lv_if_eq (tgt := 29) hx hb dX5_port_12 (by decide) (fun c_2 => ?_) (fun c_2 => ?_)
    · refine lv_iconst (v := 0) hx hb dX5_port_29 (by decide) ?_
      have hP9 : va_P k.1 vwCl (mW k a (w_X5_port_M M ce ki hv_)) s.heap := by rw [w_X5_port_M, if_neg c_1, if_pos c_2]; exact hP
      have hD9 : va_D A (mW k a (w_X5_port_M M ce ki hv_)) := by rw [w_X5_port_M, if_neg c_1, if_pos c_2]; exact hD
      exact W.zret (v := 0) hx hb hr rfl (fun t ht hW => ⟨⟨by rw [w_X5_port, if_neg c_1, if_pos c_2], by rw [ht]; exact hP9, hD9⟩, hS.F ht⟩) hS.2.2 dX5_port_30
    · refine lv_lload_n hx hb dX5_port_15 rfl (lv_at hl 3 rfl) ?_
      refine lv_lconst (v := 0) hx hb dX5_port_16 (by decide) ?_
      refine xl_lt (tgt := 29) hx hb dX5_port_17 dX5_port_18 (by decide) (fun c_3 => ?_) (fun c_3 => ?_)
      · refine lv_iconst (v := 0) hx hb dX5_port_29 (by decide) ?_
        have hP9 : va_P k.1 vwCl (mW k a (w_X5_port_M M ce ki hv_)) s.heap := by rw [w_X5_port_M, if_neg c_1, if_neg c_2, if_pos c_3]; exact hP
        have hD9 : va_D A (mW k a (w_X5_port_M M ce ki hv_)) := by rw [w_X5_port_M, if_neg c_1, if_neg c_2, if_pos c_3]; exact hD
        exact W.zret (v := 0) hx hb hr rfl (fun t ht hW => ⟨⟨by rw [w_X5_port, if_neg c_1, if_neg c_2, if_pos c_3], by rw [ht]; exact hP9, hD9⟩, hS.F ht⟩) hS.2.2 dX5_port_30
      · refine lv_lload_n hx hb dX5_port_21 rfl (lv_at hl 3 rfl) ?_
        refine lv_ldc2 hx hb hown (hU _ uK_X5_55) dX5_port_22 ?_
        refine xl_le (tgt := 31) hx hb dX5_port_25 dX5_port_26 (by decide) (fun c_4 => ?_) (fun c_4 => ?_)
        · refine lv_aload_n hx hb dX5_port_31 rfl (lv_at hl 0 rfl) ?_
          refine va_get (D := k.1) (ci := 5) (v := .ref (a 4)) (C := RX5) (T := TX5) (N := 27) hx hb hU inlX5 hown hK.1 hP 0 rfl rfl 4 (by decide) (hU _ uF_X5_20) (fun _ h9 => h9) rfl dX5_port_32 ?_
          refine lv_bipush (v := 24) hx hb dX5_port_35 (by decide) ?_
          refine lv_iload_n hx hb dX5_port_37 rfl (lv_at hl 2 rfl) ?_
          refine lv_imul hx hb dX5_port_38 ?_
          refine lv_iload_n hx hb dX5_port_39 rfl (lv_at hl 1 rfl) ?_
          refine lv_iadd hx hb dX5_port_40 ?_
          refine lv_lload_n hx hb dX5_port_41 rfl (lv_at hl 3 rfl) ?_
          refine xa_last hx hb hK.1 hP hD hS 4 1 rfl rfl (j := (24 * (tn ki) + (tn ce))) (by rw [← ix24r, ← (mpJ c_2).2, ← (mcJ hn hc c_1).2]) (by have h1 := (mpJ c_2).1; have h2 := (mcJ hn hc c_1).1; omega) (by decide) dX5_port_42 (fun H locs hP hD hS => ?_)
          have hP := pz_m_4 k a M (vp_updL (M_hours M) (24 * (tn ki) + (tn ce)) hv_) hP
          have hD := dz_m_4 k a M (vp_updL (M_hours M) (24 * (tn ki) + (tn ce)) hv_) hD
          refine lv_iconst (v := 1) hx hb dX5_port_43 (by decide) ?_
          have hP9 : va_P k.1 vwCl (mW k a (w_X5_port_M M ce ki hv_)) H := by rw [w_X5_port_M, if_neg c_1, if_neg c_2, if_neg c_3, if_neg c_4]; exact hP
          have hD9 : va_D A (mW k a (w_X5_port_M M ce ki hv_)) := by rw [w_X5_port_M, if_neg c_1, if_neg c_2, if_neg c_3, if_neg c_4]; exact hD
          exact W.zret (v := 1) hx hb hr rfl (fun t ht hW => ⟨⟨by rw [w_X5_port, if_neg c_1, if_neg c_2, if_neg c_3, if_neg c_4], by rw [ht]; exact hP9, hD9⟩, hS.F ht⟩) hS.2.2 dX5_port_44
        · refine lv_iconst (v := 0) hx hb dX5_port_29 (by decide) ?_
          have hP9 : va_P k.1 vwCl (mW k a (w_X5_port_M M ce ki hv_)) s.heap := by rw [w_X5_port_M, if_neg c_1, if_neg c_2, if_neg c_3, if_pos c_4]; exact hP
          have hD9 : va_D A (mW k a (w_X5_port_M M ce ki hv_)) := by rw [w_X5_port_M, if_neg c_1, if_neg c_2, if_neg c_3, if_pos c_4]; exact hD
          exact W.zret (v := 0) hx hb hr rfl (fun t ht hW => ⟨⟨by rw [w_X5_port, if_neg c_1, if_neg c_2, if_neg c_3, if_pos c_4], by rw [ht]; exact hP9, hD9⟩, hS.F ht⟩) hS.2.2 dX5_port_30

def w_X5_fair (av : Int64) (bv : Int64) : Int32 := if (w_X5_isShare av bv) = 0 then 0 else 1
def w_X5_fair_M (M : ModT) (av : Int64) (bv : Int64) : ModT := if (w_X5_isShare av bv) = 0 then M else (sM_fairBelow (sM_fairAbove (sM_isFair M 1) av) bv)
set_option maxHeartbeats 4000000 in
set_option maxRecDepth 100000 in
theorem c_X5_fair (l : Launch) (k : KT) (a : Nat → Nat) (M : ModT) (av : Int64) (bv : Int64) (n : Nat) (hn : n ≤ 24) (hc : M_cells M = nI n) : MW l yX5_fair cX5_fair 5 (some .boolean) (rz 1 23) k [.ref (a 0), .long av, .long bv] (mW k a M) (some (.int (w_X5_fair av bv))) (mW k a (w_X5_fair_M M av bv)) := by
  intro sz
  refine Met.ofW (cc := cX5_fair) (maxL := 5) (ret := (some .boolean)) (by decide) rfl ?_
  intro p e s m args below meth c s₁ B hml hv
  obtain ⟨rfl, hsz, hP, hK, hD0⟩ := hv
  have hx := B.exec
  have hb := B.bytes
  have hr := B.returns
  have hU : ∀ w ∈ wsL_law, w.before [.ref (a 0), .long av, .long bv].toArray s = true := fun w h => atoms_spec (ws := Cond.code yX5_fair cX5_fair 5 (some .boolean) :: wsL_law) B.pre w (List.mem_cons_of_mem _ h)
  have hown : s.vm.findClass RX5 = some m.cls := findClass_of_methodNamed B.named
  have hlocks := B.notSynchronized
  have hF : CF p m c cX5_fair 5 s [.ref (a 0), .long av, .long bv].toArray RX5 := ⟨hx, hb, hml, hown, hU⟩
  subst hsz
  have hD := hD0.self (sz := s.heap.size)
  generalize hAe : va_A (mW k a M) s.heap.size = A at hD ⊢
  have hA : ∀ q : Nat, s.heap.size ≤ q → A q := fun q h => by rw [← hAe]; exact Or.inr h
  have hS : va_S A s.heap s.heap [] := va_S.rf
  have hl := lv_entry ([.ref (a 0), .long av, .long bv] : List Value) (n := 5) (Nat.le_of_ble_eq_true rfl)
  rw [lg_entry_eq]
  generalize (lg_sl ([.ref (a 0), .long av, .long bv] : List Value) ++ List.replicate (5 - (lg_sl ([.ref (a 0), .long av, .long bv] : List Value)).length) Slot.unset).toArray = ls at hl ⊢
  have hl : lv_has ls 5 [(0, .ref (a 0)), (1, .long av), (3, .long bv)] := hl
  refine lv_lload_n hx hb dX5_fair_0 rfl (lv_at hl 1 rfl) ?_
  refine lv_lload_n hx hb dX5_fair_1 rfl (lv_at hl 2 rfl) ?_
  refine rcS (n := 2) (As := [.long av, .long bv]) (rest := []) hF (c_X5_isShare l k  av bv ) (hP.sub (ws' := []) [] rfl) hK uC_X5_isShare uN_X5 uM_X5_70 uS_X5_isShare (by decide +kernel) rfl ⟨Nat.le_of_ble_eq_true rfl, Nat.le_of_ble_eq_true rfl⟩ ⟨Nat.zero_le _, Nat.zero_le _⟩ hl.1 rfl (Nat.le_of_ble_eq_true rfl) dX5_fair_2 ?_
  refine lv_if_ne (tgt := 10) hx hb dX5_fair_5 (by decide) (fun c_1 => ?_) (fun c_1 => ?_)
  · refine lv_aload_n hx hb dX5_fair_10 rfl (lv_at hl 0 rfl) ?_
    refine lv_iconst (v := 1) hx hb dX5_fair_11 (by decide) ?_
    refine va_put (D := k.1) (ci := 5) (v := .int 1) (ty := .boolean) (C := RX5) (T := TX5) (N := 27) hx hb hU inlX5 tyX5 tyX5_ok nmX5 hown hK.1 hP hD hS 0 rfl rfl 10 (by decide) (hU _ uF_X5_80) (fun _ h9 => h9) rfl (by decide +kernel) rfl rfl (Nat.le_of_ble_eq_true rfl) dX5_fair_12 (fun H locs hP hD hS => ?_)
    have hP := pz_m_0_10 k a M 1 hP
    have hD := dz_m_0_10 k a M 1 hD
    refine lv_aload_n hx hb dX5_fair_15 rfl (lv_at hl 0 rfl) ?_
    refine lv_lload_n hx hb dX5_fair_16 rfl (lv_at hl 1 rfl) ?_
    refine va_put (D := k.1) (ci := 5) (v := .long av) (ty := .long) (C := RX5) (T := TX5) (N := 27) hx hb hU inlX5 tyX5 tyX5_ok nmX5 hown hK.1 hP hD hS 0 rfl rfl 11 (by decide) (hU _ uF_X5_84) (fun _ h9 => h9) rfl (by decide +kernel) rfl rfl (Nat.le_of_ble_eq_true rfl) dX5_fair_17 (fun H locs hP hD hS => ?_)
    have hP := pz_m_0_11 k a (sM_isFair M 1) av hP
    have hD := dz_m_0_11 k a (sM_isFair M 1) av hD
    refine lv_aload_n hx hb dX5_fair_20 rfl (lv_at hl 0 rfl) ?_
    refine lv_lload_n hx hb dX5_fair_21 rfl (lv_at hl 2 rfl) ?_
    refine va_put (D := k.1) (ci := 5) (v := .long bv) (ty := .long) (C := RX5) (T := TX5) (N := 27) hx hb hU inlX5 tyX5 tyX5_ok nmX5 hown hK.1 hP hD hS 0 rfl rfl 12 (by decide) (hU _ uF_X5_87) (fun _ h9 => h9) rfl (by decide +kernel) rfl rfl (Nat.le_of_ble_eq_true rfl) dX5_fair_22 (fun H locs hP hD hS => ?_)
    have hP := pz_m_0_12 k a (sM_fairAbove (sM_isFair M 1) av) bv hP
    have hD := dz_m_0_12 k a (sM_fairAbove (sM_isFair M 1) av) bv hD
    refine lv_iconst (v := 1) hx hb dX5_fair_25 (by decide) ?_
    have hP9 : va_P k.1 vwCl (mW k a (w_X5_fair_M M av bv)) H := by rw [w_X5_fair_M, if_neg c_1]; exact hP
    have hD9 : va_D A (mW k a (w_X5_fair_M M av bv)) := by rw [w_X5_fair_M, if_neg c_1]; exact hD
    exact W.zret (v := 1) hx hb hr rfl (fun t ht hW => ⟨⟨by rw [w_X5_fair, if_neg c_1], by rw [ht]; exact hP9, hD9⟩, hS.F ht⟩) hS.2.2 dX5_fair_26
  · refine lv_iconst (v := 0) hx hb dX5_fair_8 (by decide) ?_
    have hP9 : va_P k.1 vwCl (mW k a (w_X5_fair_M M av bv)) s.heap := by rw [w_X5_fair_M, if_pos c_1]; exact hP
    have hD9 : va_D A (mW k a (w_X5_fair_M M av bv)) := by rw [w_X5_fair_M, if_pos c_1]; exact hD
    exact W.zret (v := 0) hx hb hr rfl (fun t ht hW => ⟨⟨by rw [w_X5_fair, if_pos c_1], by rw [ht]; exact hP9, hD9⟩, hS.F ht⟩) hS.2.2 dX5_fair_9

def w_X5_size (M : ModT) (lv_ : Int32) : Int32 := if lv_ < 0 then (-1) else if 24 < lv_ then (-1) else (M_cells M)
def w_X5_size_M (M : ModT) (lv_ : Int32) : ModT := if lv_ < 0 then M else if 24 < lv_ then M else (sM_least M lv_)
set_option maxHeartbeats 4000000 in
set_option maxRecDepth 100000 in
theorem c_X5_size (l : Launch) (k : KT) (a : Nat → Nat) (M : ModT) (lv_ : Int32) (n : Nat) (hn : n ≤ 24) (hc : M_cells M = nI n) : MW l yX5_size cX5_size 2 (some .int) (rz 0 0) k [.ref (a 0), .int lv_] (mW k a M) (some (.int (w_X5_size M lv_))) (mW k a (w_X5_size_M M lv_)) := by
  intro sz
  refine Met.ofW (cc := cX5_size) (maxL := 2) (ret := (some .int)) (by decide) rfl ?_
  intro p e s m args below meth c s₁ B hml hv
  obtain ⟨rfl, hsz, hP, hK, hD0⟩ := hv
  have hx := B.exec
  have hb := B.bytes
  have hr := B.returns
  have hU : ∀ w ∈ wsL_law, w.before [.ref (a 0), .int lv_].toArray s = true := fun w h => atoms_spec (ws := Cond.code yX5_size cX5_size 2 (some .int) :: wsL_law) B.pre w (List.mem_cons_of_mem _ h)
  have hown : s.vm.findClass RX5 = some m.cls := findClass_of_methodNamed B.named
  have hlocks := B.notSynchronized
  have hF : CF p m c cX5_size 2 s [.ref (a 0), .int lv_].toArray RX5 := ⟨hx, hb, hml, hown, hU⟩
  subst hsz
  have hD := hD0.self (sz := s.heap.size)
  generalize hAe : va_A (mW k a M) s.heap.size = A at hD ⊢
  have hA : ∀ q : Nat, s.heap.size ≤ q → A q := fun q h => by rw [← hAe]; exact Or.inr h
  have hS : va_S A s.heap s.heap [] := va_S.rf
  have hl := lv_entry ([.ref (a 0), .int lv_] : List Value) (n := 2) (Nat.le_of_ble_eq_true rfl)
  rw [lg_entry_eq]
  generalize (lg_sl ([.ref (a 0), .int lv_] : List Value) ++ List.replicate (2 - (lg_sl ([.ref (a 0), .int lv_] : List Value)).length) Slot.unset).toArray = ls at hl ⊢
  have hl : lv_has ls 2 [(0, .ref (a 0)), (1, .int lv_)] := hl
  refine lv_iload_n hx hb dX5_size_0 rfl (lv_at hl 1 rfl) ?_
  refine lv_if_lt (tgt := 10) hx hb dX5_size_1 (by decide) (fun c_1 => ?_) (fun c_1 => ?_)
  · refine lv_iconst (v := (-1)) hx hb dX5_size_10 (by decide) ?_
    have hP9 : va_P k.1 vwCl (mW k a (w_X5_size_M M lv_)) s.heap := by rw [w_X5_size_M, if_pos c_1]; exact hP
    have hD9 : va_D A (mW k a (w_X5_size_M M lv_)) := by rw [w_X5_size_M, if_pos c_1]; exact hD
    exact W.iret (v := (-1)) hx hb hr (fun t ht hW => ⟨⟨by rw [w_X5_size, if_pos c_1], by rw [ht]; exact hP9, hD9⟩, hS.F ht⟩) hS.2.2 dX5_size_11
  · refine lv_iload_n hx hb dX5_size_4 rfl (lv_at hl 1 rfl) ?_
    refine lv_bipush (v := 24) hx hb dX5_size_5 (by decide) ?_
    refine xb_le (tgt := 12) hx hb dX5_size_7 (by decide) (fun c_2 => ?_) (fun c_2 => ?_)
    · refine lv_aload_n hx hb dX5_size_12 rfl (lv_at hl 0 rfl) ?_
      refine lv_iload_n hx hb dX5_size_13 rfl (lv_at hl 1 rfl) ?_
      refine va_put (D := k.1) (ci := 5) (v := .int lv_) (ty := .int) (C := RX5) (T := TX5) (N := 27) hx hb hU inlX5 tyX5 tyX5_ok nmX5 hown hK.1 hP hD hS 0 rfl rfl 14 (by decide) (hU _ uF_X5_90) (fun _ h9 => h9) rfl (by decide +kernel) rfl rfl (Nat.le_of_ble_eq_true rfl) dX5_size_14 (fun H locs hP hD hS => ?_)
      have hP := pz_m_0_14 k a M lv_ hP
      have hD := dz_m_0_14 k a M lv_ hD
      refine lv_aload_n hx hb dX5_size_17 rfl (lv_at hl 0 rfl) ?_
      refine va_get (D := k.1) (ci := 5) (v := .int (M_cells M)) (C := RX5) (T := TX5) (N := 27) hx hb hU inlX5 hown hK.1 hP 0 rfl rfl 0 (by decide) (hU _ uF_X5_49) (fun _ h9 => h9) rfl dX5_size_18 ?_
      have hP9 : va_P k.1 vwCl (mW k a (w_X5_size_M M lv_)) H := by rw [w_X5_size_M, if_neg c_1, if_neg c_2]; exact hP
      have hD9 : va_D A (mW k a (w_X5_size_M M lv_)) := by rw [w_X5_size_M, if_neg c_1, if_neg c_2]; exact hD
      exact W.iret (v := (M_cells M)) hx hb hr (fun t ht hW => ⟨⟨by rw [w_X5_size, if_neg c_1, if_neg c_2], by rw [ht]; exact hP9, hD9⟩, hS.F ht⟩) hS.2.2 dX5_size_21
    · refine lv_iconst (v := (-1)) hx hb dX5_size_10 (by decide) ?_
      have hP9 : va_P k.1 vwCl (mW k a (w_X5_size_M M lv_)) s.heap := by rw [w_X5_size_M, if_neg c_1, if_pos c_2]; exact hP
      have hD9 : va_D A (mW k a (w_X5_size_M M lv_)) := by rw [w_X5_size_M, if_neg c_1, if_pos c_2]; exact hD
      exact W.iret (v := (-1)) hx hb hr (fun t ht hW => ⟨⟨by rw [w_X5_size, if_neg c_1, if_pos c_2], by rw [ht]; exact hP9, hD9⟩, hS.F ht⟩) hS.2.2 dX5_size_11

def w_X5_wind (M : ModT) (ce : Int32) (mv : Int64) : Int32 := if (w_X5_isCell M ce) = 0 then 0 else if mv < 0 then 0 else if 1000000 < mv then 0 else if 10000000 < (((M_costs M) (tn ce)) + mv) then 0 else 1
def w_X5_wind_M (M : ModT) (ce : Int32) (mv : Int64) : ModT := if (w_X5_isCell M ce) = 0 then M else if mv < 0 then M else if 1000000 < mv then M else if 10000000 < (((M_costs M) (tn ce)) + mv) then M else (sM_costs M (vp_updL (M_costs M) (tn ce) (((M_costs M) (tn ce)) + mv)))
set_option maxHeartbeats 4000000 in
set_option maxRecDepth 100000 in
theorem c_X5_wind (l : Launch) (k : KT) (a : Nat → Nat) (M : ModT) (ce : Int32) (mv : Int64) (n : Nat) (hn : n ≤ 24) (hc : M_cells M = nI n) : MW l yX5_wind cX5_wind 4 (some .boolean) (rz 1 21) k [.ref (a 0), .int ce, .long mv] (mW k a M) (some (.int (w_X5_wind M ce mv))) (mW k a (w_X5_wind_M M ce mv)) := by
  intro sz
  refine Met.ofW (cc := cX5_wind) (maxL := 4) (ret := (some .boolean)) (by decide) rfl ?_
  intro p e s m args below meth c s₁ B hml hv
  obtain ⟨rfl, hsz, hP, hK, hD0⟩ := hv
  have hx := B.exec
  have hb := B.bytes
  have hr := B.returns
  have hU : ∀ w ∈ wsL_law, w.before [.ref (a 0), .int ce, .long mv].toArray s = true := fun w h => atoms_spec (ws := Cond.code yX5_wind cX5_wind 4 (some .boolean) :: wsL_law) B.pre w (List.mem_cons_of_mem _ h)
  have hown : s.vm.findClass RX5 = some m.cls := findClass_of_methodNamed B.named
  have hlocks := B.notSynchronized
  have hF : CF p m c cX5_wind 4 s [.ref (a 0), .int ce, .long mv].toArray RX5 := ⟨hx, hb, hml, hown, hU⟩
  subst hsz
  have hD := hD0.self (sz := s.heap.size)
  generalize hAe : va_A (mW k a M) s.heap.size = A at hD ⊢
  have hA : ∀ q : Nat, s.heap.size ≤ q → A q := fun q h => by rw [← hAe]; exact Or.inr h
  have hS : va_S A s.heap s.heap [] := va_S.rf
  have hl := lv_entry ([.ref (a 0), .int ce, .long mv] : List Value) (n := 4) (Nat.le_of_ble_eq_true rfl)
  rw [lg_entry_eq]
  generalize (lg_sl ([.ref (a 0), .int ce, .long mv] : List Value) ++ List.replicate (4 - (lg_sl ([.ref (a 0), .int ce, .long mv] : List Value)).length) Slot.unset).toArray = ls at hl ⊢
  have hl : lv_has ls 4 [(0, .ref (a 0)), (1, .int ce), (2, .long mv)] := hl
  refine lv_aload_n hx hb dX5_wind_0 rfl (lv_at hl 0 rfl) ?_
  refine lv_iload_n hx hb dX5_wind_1 rfl (lv_at hl 1 rfl) ?_
  refine rcV (n := 1) (As := [.int ce]) (rest := []) hF (c_X5_isCell l k a M ce ) (hP) hK 0 (ci := 5) rfl rfl rfl uC_X5_isCell uN_X5 uM_X5_57 uI_X5_isCell uE_X5_isCell (by decide +kernel) rfl ⟨Nat.le_of_ble_eq_true rfl, Nat.le_of_ble_eq_true rfl⟩ ⟨Nat.zero_le _, Nat.zero_le _⟩ hl.1 rfl (Nat.le_of_ble_eq_true rfl) dX5_wind_2 ?_
  refine lv_if_eq (tgt := 37) hx hb dX5_wind_5 (by decide) (fun c_1 => ?_) (fun c_1 => ?_)
  · refine lv_iconst (v := 0) hx hb dX5_wind_37 (by decide) ?_
    have hP9 : va_P k.1 vwCl (mW k a (w_X5_wind_M M ce mv)) s.heap := by rw [w_X5_wind_M, if_pos c_1]; exact hP
    have hD9 : va_D A (mW k a (w_X5_wind_M M ce mv)) := by rw [w_X5_wind_M, if_pos c_1]; exact hD
    exact W.zret (v := 0) hx hb hr rfl (fun t ht hW => ⟨⟨by rw [w_X5_wind, if_pos c_1], by rw [ht]; exact hP9, hD9⟩, hS.F ht⟩) hS.2.2 dX5_wind_38
  · refine lv_lload_n hx hb dX5_wind_8 rfl (lv_at hl 2 rfl) ?_
    refine lv_lconst (v := 0) hx hb dX5_wind_9 (by decide) ?_
    refine xl_lt (tgt := 37) hx hb dX5_wind_10 dX5_wind_11 (by decide) (fun c_2 => ?_) (fun c_2 => ?_)
    · refine lv_iconst (v := 0) hx hb dX5_wind_37 (by decide) ?_
      have hP9 : va_P k.1 vwCl (mW k a (w_X5_wind_M M ce mv)) s.heap := by rw [w_X5_wind_M, if_neg c_1, if_pos c_2]; exact hP
      have hD9 : va_D A (mW k a (w_X5_wind_M M ce mv)) := by rw [w_X5_wind_M, if_neg c_1, if_pos c_2]; exact hD
      exact W.zret (v := 0) hx hb hr rfl (fun t ht hW => ⟨⟨by rw [w_X5_wind, if_neg c_1, if_pos c_2], by rw [ht]; exact hP9, hD9⟩, hS.F ht⟩) hS.2.2 dX5_wind_38
    · refine lv_lload_n hx hb dX5_wind_14 rfl (lv_at hl 2 rfl) ?_
      refine lv_ldc2 hx hb hown (hU _ uK_X5_55) dX5_wind_15 ?_
      refine xl_gt (tgt := 37) hx hb dX5_wind_18 dX5_wind_19 (by decide) (fun c_3 => ?_) (fun c_3 => ?_)
      · refine lv_iconst (v := 0) hx hb dX5_wind_37 (by decide) ?_
        have hP9 : va_P k.1 vwCl (mW k a (w_X5_wind_M M ce mv)) s.heap := by rw [w_X5_wind_M, if_neg c_1, if_neg c_2, if_pos c_3]; exact hP
        have hD9 : va_D A (mW k a (w_X5_wind_M M ce mv)) := by rw [w_X5_wind_M, if_neg c_1, if_neg c_2, if_pos c_3]; exact hD
        exact W.zret (v := 0) hx hb hr rfl (fun t ht hW => ⟨⟨by rw [w_X5_wind, if_neg c_1, if_neg c_2, if_pos c_3], by rw [ht]; exact hP9, hD9⟩, hS.F ht⟩) hS.2.2 dX5_wind_38
      · refine lv_aload_n hx hb dX5_wind_22 rfl (lv_at hl 0 rfl) ?_
        refine va_get (D := k.1) (ci := 5) (v := .ref (a 1)) (C := RX5) (T := TX5) (N := 27) hx hb hU inlX5 hown hK.1 hP 0 rfl rfl 1 (by decide) (hU _ uF_X5_7) (fun _ h9 => h9) rfl dX5_wind_23 ?_
        refine lv_iload_n hx hb dX5_wind_26 rfl (lv_at hl 1 rfl) ?_
        refine xa_lald hx hb hK.1 hP 1 1 rfl rfl (j := (tn ce)) (mcJ hn hc c_1).2 (by have := (mcJ hn hc c_1).1; omega) (by decide) dX5_wind_27 ?_
        refine lv_lload_n hx hb dX5_wind_28 rfl (lv_at hl 2 rfl) ?_
        refine lv_ladd hx hb dX5_wind_29 ?_
        refine lv_ldc2 hx hb hown (hU _ uK_X5_93) dX5_wind_30 ?_
        refine xl_le (tgt := 39) hx hb dX5_wind_33 dX5_wind_34 (by decide) (fun c_4 => ?_) (fun c_4 => ?_)
        · refine lv_aload_n hx hb dX5_wind_39 rfl (lv_at hl 0 rfl) ?_
          refine va_get (D := k.1) (ci := 5) (v := .ref (a 1)) (C := RX5) (T := TX5) (N := 27) hx hb hU inlX5 hown hK.1 hP 0 rfl rfl 1 (by decide) (hU _ uF_X5_7) (fun _ h9 => h9) rfl dX5_wind_40 ?_
          refine lv_iload_n hx hb dX5_wind_43 rfl (lv_at hl 1 rfl) ?_
          refine lv_aload_n hx hb dX5_wind_44 rfl (lv_at hl 0 rfl) ?_
          refine va_get (D := k.1) (ci := 5) (v := .ref (a 1)) (C := RX5) (T := TX5) (N := 27) hx hb hU inlX5 hown hK.1 hP 0 rfl rfl 1 (by decide) (hU _ uF_X5_7) (fun _ h9 => h9) rfl dX5_wind_45 ?_
          refine lv_iload_n hx hb dX5_wind_48 rfl (lv_at hl 1 rfl) ?_
          refine xa_lald hx hb hK.1 hP 1 1 rfl rfl (j := (tn ce)) (mcJ hn hc c_1).2 (by have := (mcJ hn hc c_1).1; omega) (by decide) dX5_wind_49 ?_
          refine lv_lload_n hx hb dX5_wind_50 rfl (lv_at hl 2 rfl) ?_
          refine lv_ladd hx hb dX5_wind_51 ?_
          refine xa_last hx hb hK.1 hP hD hS 1 1 rfl rfl (j := (tn ce)) (mcJ hn hc c_1).2 (by have := (mcJ hn hc c_1).1; omega) (by decide) dX5_wind_52 (fun H locs hP hD hS => ?_)
          have hP := pz_m_1 k a M (vp_updL (M_costs M) (tn ce) (((M_costs M) (tn ce)) + mv)) hP
          have hD := dz_m_1 k a M (vp_updL (M_costs M) (tn ce) (((M_costs M) (tn ce)) + mv)) hD
          refine lv_iconst (v := 1) hx hb dX5_wind_53 (by decide) ?_
          have hP9 : va_P k.1 vwCl (mW k a (w_X5_wind_M M ce mv)) H := by rw [w_X5_wind_M, if_neg c_1, if_neg c_2, if_neg c_3, if_neg c_4]; exact hP
          have hD9 : va_D A (mW k a (w_X5_wind_M M ce mv)) := by rw [w_X5_wind_M, if_neg c_1, if_neg c_2, if_neg c_3, if_neg c_4]; exact hD
          exact W.zret (v := 1) hx hb hr rfl (fun t ht hW => ⟨⟨by rw [w_X5_wind, if_neg c_1, if_neg c_2, if_neg c_3, if_neg c_4], by rw [ht]; exact hP9, hD9⟩, hS.F ht⟩) hS.2.2 dX5_wind_54
        · refine lv_iconst (v := 0) hx hb dX5_wind_37 (by decide) ?_
          have hP9 : va_P k.1 vwCl (mW k a (w_X5_wind_M M ce mv)) s.heap := by rw [w_X5_wind_M, if_neg c_1, if_neg c_2, if_neg c_3, if_pos c_4]; exact hP
          have hD9 : va_D A (mW k a (w_X5_wind_M M ce mv)) := by rw [w_X5_wind_M, if_neg c_1, if_neg c_2, if_neg c_3, if_pos c_4]; exact hD
          exact W.zret (v := 0) hx hb hr rfl (fun t ht hW => ⟨⟨by rw [w_X5_wind, if_neg c_1, if_neg c_2, if_neg c_3, if_pos c_4], by rw [ht]; exact hP9, hD9⟩, hS.F ht⟩) hS.2.2 dX5_wind_38

def w_X5_all (M : ModT) : Int32 := ((1 <<< ((M_cells M) &&& 31)) - 1)
set_option maxHeartbeats 4000000 in
set_option maxRecDepth 100000 in
theorem c_X5_all (l : Launch) (k : KT) (a : Nat → Nat) (M : ModT)   : MR l yX5_all cX5_all 1 (some .int) (rz 0 0) k [.ref (a 0)] (mW k a M) (.int (w_X5_all M)) := by
  refine Met.ofW (cc := cX5_all) (maxL := 1) (ret := (some .int)) (by decide) rfl ?_
  intro p e s m args below meth c s₁ B hml hv
  obtain ⟨rfl, hP, hK⟩ := hv
  have hx := B.exec
  have hb := B.bytes
  have hr := B.returns
  have hU : ∀ w ∈ wsL_law, w.before [.ref (a 0)].toArray s = true := fun w h => atoms_spec (ws := Cond.code yX5_all cX5_all 1 (some .int) :: wsL_law) B.pre w (List.mem_cons_of_mem _ h)
  have hown : s.vm.findClass RX5 = some m.cls := findClass_of_methodNamed B.named
  have hlocks := B.notSynchronized
  have hF : CF p m c cX5_all 1 s [.ref (a 0)].toArray RX5 := ⟨hx, hb, hml, hown, hU⟩
  have hl := lv_entry ([.ref (a 0)] : List Value) (n := 1) (Nat.le_of_ble_eq_true rfl)
  rw [lg_entry_eq]
  generalize (lg_sl ([.ref (a 0)] : List Value) ++ List.replicate (1 - (lg_sl ([.ref (a 0)] : List Value)).length) Slot.unset).toArray = ls at hl ⊢
  have hl : lv_has ls 1 [(0, .ref (a 0))] := hl
  refine lv_iconst (v := 1) hx hb dX5_all_0 (by decide) ?_
  refine lv_aload_n hx hb dX5_all_1 rfl (lv_at hl 0 rfl) ?_
  refine va_get (D := k.1) (ci := 5) (v := .int (M_cells M)) (C := RX5) (T := TX5) (N := 27) hx hb hU inlX5 hown hK.1 hP 0 rfl rfl 0 (by decide) (hU _ uF_X5_49) (fun _ h9 => h9) rfl dX5_all_2 ?_
  refine lv_ishl hx hb dX5_all_5 ?_
  refine lv_iconst (v := 1) hx hb dX5_all_6 (by decide) ?_
  refine lv_isub hx hb dX5_all_7 ?_
  exact W.iret (v := ((1 <<< ((M_cells M) &&& 31)) - 1)) hx hb hr (fun t ht hW => ⟨by rw [w_X5_all], ht⟩) (fun q h => absurd h List.not_mem_nil) dX5_all_8

def w_X5_chosen (M : ModT) (ce : Int32) : Int32 := if (M_hasChoice M) = 0 then 0 else if (w_X5_isCell M ce) = 0 then 0 else if (w_X5_has (M_choice M) ce) = 0 then 0 else 1
set_option maxHeartbeats 4000000 in
set_option maxRecDepth 100000 in
theorem c_X5_chosen (l : Launch) (k : KT) (a : Nat → Nat) (M : ModT) (ce : Int32)  : MR l yX5_chosen cX5_chosen 2 (some .boolean) (rz 1 21) k [.ref (a 0), .int ce] (mW k a M) (.int (w_X5_chosen M ce)) := by
  refine Met.ofW (cc := cX5_chosen) (maxL := 2) (ret := (some .boolean)) (by decide) rfl ?_
  intro p e s m args below meth c s₁ B hml hv
  obtain ⟨rfl, hP, hK⟩ := hv
  have hx := B.exec
  have hb := B.bytes
  have hr := B.returns
  have hU : ∀ w ∈ wsL_law, w.before [.ref (a 0), .int ce].toArray s = true := fun w h => atoms_spec (ws := Cond.code yX5_chosen cX5_chosen 2 (some .boolean) :: wsL_law) B.pre w (List.mem_cons_of_mem _ h)
  have hown : s.vm.findClass RX5 = some m.cls := findClass_of_methodNamed B.named
  have hlocks := B.notSynchronized
  have hF : CF p m c cX5_chosen 2 s [.ref (a 0), .int ce].toArray RX5 := ⟨hx, hb, hml, hown, hU⟩
  have hl := lv_entry ([.ref (a 0), .int ce] : List Value) (n := 2) (Nat.le_of_ble_eq_true rfl)
  rw [lg_entry_eq]
  generalize (lg_sl ([.ref (a 0), .int ce] : List Value) ++ List.replicate (2 - (lg_sl ([.ref (a 0), .int ce] : List Value)).length) Slot.unset).toArray = ls at hl ⊢
  have hl : lv_has ls 2 [(0, .ref (a 0)), (1, .int ce)] := hl
  refine lv_aload_n hx hb dX5_chosen_0 rfl (lv_at hl 0 rfl) ?_
  refine va_get (D := k.1) (ci := 5) (v := .int (M_hasChoice M)) (C := RX5) (T := TX5) (N := 27) hx hb hU inlX5 hown hK.1 hP 0 rfl rfl 16 (by decide) (hU _ uF_X5_121) (fun _ h9 => h9) rfl dX5_chosen_1 ?_
  refine lv_if_eq (tgt := 30) hx hb dX5_chosen_4 (by decide) (fun c_1 => ?_) (fun c_1 => ?_)
  · refine lv_iconst (v := 0) hx hb dX5_chosen_30 (by decide) ?_
    exact W.zret (v := 0) hx hb hr rfl (fun t ht hW => ⟨by rw [w_X5_chosen, if_pos c_1], ht⟩) (fun q h => absurd h List.not_mem_nil) dX5_chosen_31
  · refine lv_aload_n hx hb dX5_chosen_7 rfl (lv_at hl 0 rfl) ?_
    refine lv_iload_n hx hb dX5_chosen_8 rfl (lv_at hl 1 rfl) ?_
    refine rcV (n := 1) (As := [.int ce]) (rest := []) hF (c_X5_isCell l k a M ce ) (hP) hK 0 (ci := 5) rfl rfl rfl uC_X5_isCell uN_X5 uM_X5_57 uI_X5_isCell uE_X5_isCell (by decide +kernel) rfl ⟨Nat.le_of_ble_eq_true rfl, Nat.le_of_ble_eq_true rfl⟩ ⟨Nat.zero_le _, Nat.zero_le _⟩ hl.1 rfl (Nat.le_of_ble_eq_true rfl) dX5_chosen_9 ?_
    refine lv_if_eq (tgt := 30) hx hb dX5_chosen_12 (by decide) (fun c_2 => ?_) (fun c_2 => ?_)
    · refine lv_iconst (v := 0) hx hb dX5_chosen_30 (by decide) ?_
      exact W.zret (v := 0) hx hb hr rfl (fun t ht hW => ⟨by rw [w_X5_chosen, if_neg c_1, if_pos c_2], ht⟩) (fun q h => absurd h List.not_mem_nil) dX5_chosen_31
    · refine lv_aload_n hx hb dX5_chosen_15 rfl (lv_at hl 0 rfl) ?_
      refine va_get (D := k.1) (ci := 5) (v := .int (M_choice M)) (C := RX5) (T := TX5) (N := 27) hx hb hU inlX5 hown hK.1 hP 0 rfl rfl 17 (by decide) (hU _ uF_X5_124) (fun _ h9 => h9) rfl dX5_chosen_16 ?_
      refine lv_iload_n hx hb dX5_chosen_19 rfl (lv_at hl 1 rfl) ?_
      refine rcS (n := 2) (As := [.int (M_choice M), .int ce]) (rest := []) hF (c_X5_has l k  (M_choice M) ce ) (hP.sub (ws' := []) [] rfl) hK uC_X5_has uN_X5 uM_X5_95 uS_X5_has (by decide +kernel) rfl ⟨Nat.le_of_ble_eq_true rfl, Nat.le_of_ble_eq_true rfl⟩ ⟨Nat.zero_le _, Nat.zero_le _⟩ hl.1 rfl (Nat.le_of_ble_eq_true rfl) dX5_chosen_20 ?_
      refine lv_if_eq (tgt := 30) hx hb dX5_chosen_23 (by decide) (fun c_3 => ?_) (fun c_3 => ?_)
      · refine lv_iconst (v := 0) hx hb dX5_chosen_30 (by decide) ?_
        exact W.zret (v := 0) hx hb hr rfl (fun t ht hW => ⟨by rw [w_X5_chosen, if_neg c_1, if_neg c_2, if_pos c_3], ht⟩) (fun q h => absurd h List.not_mem_nil) dX5_chosen_31
      · refine lv_iconst (v := 1) hx hb dX5_chosen_26 (by decide) ?_
        refine lv_goto (tgt := 31) hx hb dX5_chosen_27 (by decide) ?_
        exact W.zret (v := 1) hx hb hr rfl (fun t ht hW => ⟨by rw [w_X5_chosen, if_neg c_1, if_neg c_2, if_neg c_3], ht⟩) (fun q h => absurd h List.not_mem_nil) dX5_chosen_31

def w_X5_cost (M : ModT) : Int64 := if (M_hasChoice M) = 0 then (-1) else (M_cost M)
set_option maxHeartbeats 4000000 in
set_option maxRecDepth 100000 in
theorem c_X5_cost (l : Launch) (k : KT) (a : Nat → Nat) (M : ModT)  (n : Nat) (hn : n ≤ 24) (hc : M_cells M = nI n) : MR l yX5_cost cX5_cost 1 (some .long) (rz 0 0) k [.ref (a 0)] (mW k a M) (.long (w_X5_cost M)) := by
  refine Met.ofW (cc := cX5_cost) (maxL := 1) (ret := (some .long)) (by decide) rfl ?_
  intro p e s m args below meth c s₁ B hml hv
  obtain ⟨rfl, hP, hK⟩ := hv
  have hx := B.exec
  have hb := B.bytes
  have hr := B.returns
  have hU : ∀ w ∈ wsL_law, w.before [.ref (a 0)].toArray s = true := fun w h => atoms_spec (ws := Cond.code yX5_cost cX5_cost 1 (some .long) :: wsL_law) B.pre w (List.mem_cons_of_mem _ h)
  have hown : s.vm.findClass RX5 = some m.cls := findClass_of_methodNamed B.named
  have hlocks := B.notSynchronized
  have hF : CF p m c cX5_cost 1 s [.ref (a 0)].toArray RX5 := ⟨hx, hb, hml, hown, hU⟩
  have hl := lv_entry ([.ref (a 0)] : List Value) (n := 1) (Nat.le_of_ble_eq_true rfl)
  rw [lg_entry_eq]
  generalize (lg_sl ([.ref (a 0)] : List Value) ++ List.replicate (1 - (lg_sl ([.ref (a 0)] : List Value)).length) Slot.unset).toArray = ls at hl ⊢
  have hl : lv_has ls 1 [(0, .ref (a 0))] := hl
  refine lv_aload_n hx hb dX5_cost_0 rfl (lv_at hl 0 rfl) ?_
  refine va_get (D := k.1) (ci := 5) (v := .int (M_hasChoice M)) (C := RX5) (T := TX5) (N := 27) hx hb hU inlX5 hown hK.1 hP 0 rfl rfl 16 (by decide) (hU _ uF_X5_121) (fun _ h9 => h9) rfl dX5_cost_1 ?_
  refine lv_if_eq (tgt := 14) hx hb dX5_cost_4 (by decide) (fun c_1 => ?_) (fun c_1 => ?_)
  · refine lv_ldc2 hx hb hown (hU _ uK_X5_161) dX5_cost_14 ?_
    exact W.lret (v := (-1)) hx hb hr (fun t ht hW => ⟨by rw [w_X5_cost, if_pos c_1], ht⟩) (fun q h => absurd h List.not_mem_nil) dX5_cost_17
  · refine lv_aload_n hx hb dX5_cost_7 rfl (lv_at hl 0 rfl) ?_
    refine va_get (D := k.1) (ci := 5) (v := .long (M_cost M)) (C := RX5) (T := TX5) (N := 27) hx hb hU inlX5 hown hK.1 hP 0 rfl rfl 19 (by decide) (hU _ uF_X5_130) (fun _ h9 => h9) rfl dX5_cost_8 ?_
    refine lv_goto (tgt := 17) hx hb dX5_cost_11 (by decide) ?_
    exact W.lret (v := (M_cost M)) hx hb hr (fun t ht hW => ⟨by rw [w_X5_cost, if_neg c_1], ht⟩) (fun q h => absurd h List.not_mem_nil) dX5_cost_17

def w_X5_bound (M : ModT) : Int64 := if (M_hasRun M) = 0 then (-1) else (M_bound M)
set_option maxHeartbeats 4000000 in
set_option maxRecDepth 100000 in
theorem c_X5_bound (l : Launch) (k : KT) (a : Nat → Nat) (M : ModT)  (n : Nat) (hn : n ≤ 24) (hc : M_cells M = nI n) : MR l yX5_bound cX5_bound 1 (some .long) (rz 0 0) k [.ref (a 0)] (mW k a M) (.long (w_X5_bound M)) := by
  refine Met.ofW (cc := cX5_bound) (maxL := 1) (ret := (some .long)) (by decide) rfl ?_
  intro p e s m args below meth c s₁ B hml hv
  obtain ⟨rfl, hP, hK⟩ := hv
  have hx := B.exec
  have hb := B.bytes
  have hr := B.returns
  have hU : ∀ w ∈ wsL_law, w.before [.ref (a 0)].toArray s = true := fun w h => atoms_spec (ws := Cond.code yX5_bound cX5_bound 1 (some .long) :: wsL_law) B.pre w (List.mem_cons_of_mem _ h)
  have hown : s.vm.findClass RX5 = some m.cls := findClass_of_methodNamed B.named
  have hlocks := B.notSynchronized
  have hF : CF p m c cX5_bound 1 s [.ref (a 0)].toArray RX5 := ⟨hx, hb, hml, hown, hU⟩
  have hl := lv_entry ([.ref (a 0)] : List Value) (n := 1) (Nat.le_of_ble_eq_true rfl)
  rw [lg_entry_eq]
  generalize (lg_sl ([.ref (a 0)] : List Value) ++ List.replicate (1 - (lg_sl ([.ref (a 0)] : List Value)).length) Slot.unset).toArray = ls at hl ⊢
  have hl : lv_has ls 1 [(0, .ref (a 0))] := hl
  refine lv_aload_n hx hb dX5_bound_0 rfl (lv_at hl 0 rfl) ?_
  refine va_get (D := k.1) (ci := 5) (v := .int (M_hasRun M)) (C := RX5) (T := TX5) (N := 27) hx hb hU inlX5 hown hK.1 hP 0 rfl rfl 20 (by decide) (hU _ uF_X5_133) (fun _ h9 => h9) rfl dX5_bound_1 ?_
  refine lv_if_eq (tgt := 14) hx hb dX5_bound_4 (by decide) (fun c_1 => ?_) (fun c_1 => ?_)
  · refine lv_ldc2 hx hb hown (hU _ uK_X5_161) dX5_bound_14 ?_
    exact W.lret (v := (-1)) hx hb hr (fun t ht hW => ⟨by rw [w_X5_bound, if_pos c_1], ht⟩) (fun q h => absurd h List.not_mem_nil) dX5_bound_17
  · refine lv_aload_n hx hb dX5_bound_7 rfl (lv_at hl 0 rfl) ?_
    refine va_get (D := k.1) (ci := 5) (v := .long (M_bound M)) (C := RX5) (T := TX5) (N := 27) hx hb hU inlX5 hown hK.1 hP 0 rfl rfl 22 (by decide) (hU _ uF_X5_146) (fun _ h9 => h9) rfl dX5_bound_8 ?_
    refine lv_goto (tgt := 17) hx hb dX5_bound_11 (by decide) ?_
    exact W.lret (v := (M_bound M)) hx hb hr (fun t ht hW => ⟨by rw [w_X5_bound, if_neg c_1], ht⟩) (fun q h => absurd h List.not_mem_nil) dX5_bound_17

def w_X5_proved (M : ModT) : Int32 := if (M_hasRun M) = 0 then 0 else if (M_answer M) < 2 then 1 else 0
set_option maxHeartbeats 4000000 in
set_option maxRecDepth 100000 in
theorem c_X5_proved (l : Launch) (k : KT) (a : Nat → Nat) (M : ModT)  (n : Nat) (hn : n ≤ 24) (hc : M_cells M = nI n) : MR l yX5_proved cX5_proved 1 (some .boolean) (rz 0 0) k [.ref (a 0)] (mW k a M) (.int (w_X5_proved M)) := by
  refine Met.ofW (cc := cX5_proved) (maxL := 1) (ret := (some .boolean)) (by decide) rfl ?_
  intro p e s m args below meth c s₁ B hml hv
  obtain ⟨rfl, hP, hK⟩ := hv
  have hx := B.exec
  have hb := B.bytes
  have hr := B.returns
  have hU : ∀ w ∈ wsL_law, w.before [.ref (a 0)].toArray s = true := fun w h => atoms_spec (ws := Cond.code yX5_proved cX5_proved 1 (some .boolean) :: wsL_law) B.pre w (List.mem_cons_of_mem _ h)
  have hown : s.vm.findClass RX5 = some m.cls := findClass_of_methodNamed B.named
  have hlocks := B.notSynchronized
  have hF : CF p m c cX5_proved 1 s [.ref (a 0)].toArray RX5 := ⟨hx, hb, hml, hown, hU⟩
  have hl := lv_entry ([.ref (a 0)] : List Value) (n := 1) (Nat.le_of_ble_eq_true rfl)
  rw [lg_entry_eq]
  generalize (lg_sl ([.ref (a 0)] : List Value) ++ List.replicate (1 - (lg_sl ([.ref (a 0)] : List Value)).length) Slot.unset).toArray = ls at hl ⊢
  have hl : lv_has ls 1 [(0, .ref (a 0))] := hl
  refine lv_aload_n hx hb dX5_proved_0 rfl (lv_at hl 0 rfl) ?_
  refine va_get (D := k.1) (ci := 5) (v := .int (M_hasRun M)) (C := RX5) (T := TX5) (N := 27) hx hb hU inlX5 hown hK.1 hP 0 rfl rfl 20 (by decide) (hU _ uF_X5_133) (fun _ h9 => h9) rfl dX5_proved_1 ?_
  refine lv_if_eq (tgt := 19) hx hb dX5_proved_4 (by decide) (fun c_1 => ?_) (fun c_1 => ?_)
  · refine lv_iconst (v := 0) hx hb dX5_proved_19 (by decide) ?_
    exact W.zret (v := 0) hx hb hr rfl (fun t ht hW => ⟨by rw [w_X5_proved, if_pos c_1], ht⟩) (fun q h => absurd h List.not_mem_nil) dX5_proved_20
  · refine lv_aload_n hx hb dX5_proved_7 rfl (lv_at hl 0 rfl) ?_
    refine va_get (D := k.1) (ci := 5) (v := .int (M_answer M)) (C := RX5) (T := TX5) (N := 27) hx hb hU inlX5 hown hK.1 hP 0 rfl rfl 21 (by decide) (hU _ uF_X5_149) (fun _ h9 => h9) rfl dX5_proved_8 ?_
    refine lv_iconst (v := 2) hx hb dX5_proved_11 (by decide) ?_
    refine xb_ge (tgt := 19) hx hb dX5_proved_12 (by decide) (fun c_2 => ?_) (fun c_2 => ?_)
    · refine lv_iconst (v := 0) hx hb dX5_proved_19 (by decide) ?_
      exact W.zret (v := 0) hx hb hr rfl (fun t ht hW => ⟨by rw [w_X5_proved, if_neg c_1, if_neg c_2], ht⟩) (fun q h => absurd h List.not_mem_nil) dX5_proved_20
    · refine lv_iconst (v := 1) hx hb dX5_proved_15 (by decide) ?_
      refine lv_goto (tgt := 20) hx hb dX5_proved_16 (by decide) ?_
      exact W.zret (v := 1) hx hb hr rfl (fun t ht hW => ⟨by rw [w_X5_proved, if_neg c_1, if_pos c_2], ht⟩) (fun q h => absurd h List.not_mem_nil) dX5_proved_20

def w_X5_become_M (M : ModT) (is_ : Int32) (set : Int32) (cv : Int64) : ModT := if (M_hasChoice M) = 0 then (sM_cost (sM_choice (sM_hasChoice (sM_earlier M 0) is_) set) cv) else (sM_cost (sM_choice (sM_hasChoice (sM_earlier M (M_choice M)) is_) set) cv)
set_option maxHeartbeats 4000000 in
set_option maxRecDepth 100000 in
theorem c_X5_become (l : Launch) (k : KT) (a : Nat → Nat) (M : ModT) (is_ : Int32) (set : Int32) (cv : Int64) (hz : is_ = 0 ∨ is_ = 1) : MW l yX5_become cX5_become 5 none (rz 0 0) k [.ref (a 0), .int is_, .int set, .long cv] (mW k a M) none (mW k a (w_X5_become_M M is_ set cv)) := by
  intro sz
  refine Met.ofW (cc := cX5_become) (maxL := 5) (ret := none) (by decide) rfl ?_
  intro p e s m args below meth c s₁ B hml hv
  obtain ⟨rfl, hsz, hP, hK, hD0⟩ := hv
  have hx := B.exec
  have hb := B.bytes
  have hr := B.returns
  have hU : ∀ w ∈ wsL_law, w.before [.ref (a 0), .int is_, .int set, .long cv].toArray s = true := fun w h => atoms_spec (ws := Cond.code yX5_become cX5_become 5 none :: wsL_law) B.pre w (List.mem_cons_of_mem _ h)
  have hown : s.vm.findClass RX5 = some m.cls := findClass_of_methodNamed B.named
  have hlocks := B.notSynchronized
  have hF : CF p m c cX5_become 5 s [.ref (a 0), .int is_, .int set, .long cv].toArray RX5 := ⟨hx, hb, hml, hown, hU⟩
  subst hsz
  have hD := hD0.self (sz := s.heap.size)
  generalize hAe : va_A (mW k a M) s.heap.size = A at hD ⊢
  have hA : ∀ q : Nat, s.heap.size ≤ q → A q := fun q h => by rw [← hAe]; exact Or.inr h
  have hS : va_S A s.heap s.heap [] := va_S.rf
  have hl := lv_entry ([.ref (a 0), .int is_, .int set, .long cv] : List Value) (n := 5) (Nat.le_of_ble_eq_true rfl)
  rw [lg_entry_eq]
  generalize (lg_sl ([.ref (a 0), .int is_, .int set, .long cv] : List Value) ++ List.replicate (5 - (lg_sl ([.ref (a 0), .int is_, .int set, .long cv] : List Value)).length) Slot.unset).toArray = ls at hl ⊢
  have hl : lv_has ls 5 [(0, .ref (a 0)), (1, .int is_), (2, .int set), (3, .long cv)] := hl
  refine lv_aload_n hx hb dX5_become_0 rfl (lv_at hl 0 rfl) ?_
  refine lv_aload_n hx hb dX5_become_1 rfl (lv_at hl 0 rfl) ?_
  refine va_get (D := k.1) (ci := 5) (v := .int (M_hasChoice M)) (C := RX5) (T := TX5) (N := 27) hx hb hU inlX5 hown hK.1 hP 0 rfl rfl 16 (by decide) (hU _ uF_X5_121) (fun _ h9 => h9) rfl dX5_become_2 ?_
  refine lv_if_eq (tgt := 15) hx hb dX5_become_5 (by decide) (fun c_1 => ?_) (fun c_1 => ?_)
  · refine lv_iconst (v := 0) hx hb dX5_become_15 (by decide) ?_
    refine va_put (D := k.1) (ci := 5) (v := .int 0) (ty := .int) (C := RX5) (T := TX5) (N := 27) hx hb hU inlX5 tyX5 tyX5_ok nmX5 hown hK.1 hP hD hS 0 rfl rfl 18 (by decide) (hU _ uF_X5_127) (fun _ h9 => h9) rfl (by decide +kernel) rfl rfl (Nat.le_of_ble_eq_true rfl) dX5_become_16 (fun H locs hP hD hS => ?_)
    have hP := pz_m_0_18 k a M 0 hP
    have hD := dz_m_0_18 k a M 0 hD
    refine lv_aload_n hx hb dX5_become_19 rfl (lv_at hl 0 rfl) ?_
    refine lv_iload_n hx hb dX5_become_20 rfl (lv_at hl 1 rfl) ?_
    refine va_put (D := k.1) (ci := 5) (v := .int is_) (ty := .boolean) (C := RX5) (T := TX5) (N := 27) hx hb hU inlX5 tyX5 tyX5_ok nmX5 hown hK.1 hP hD hS 0 rfl rfl 16 (by decide) (hU _ uF_X5_121) (fun _ h9 => h9) rfl (by decide +kernel) (nzb hz) (fzb hz) (Nat.le_of_ble_eq_true rfl) dX5_become_21 (fun H locs hP hD hS => ?_)
    have hP := pz_m_0_16 k a (sM_earlier M 0) is_ hP
    have hD := dz_m_0_16 k a (sM_earlier M 0) is_ hD
    refine lv_aload_n hx hb dX5_become_24 rfl (lv_at hl 0 rfl) ?_
    refine lv_iload_n hx hb dX5_become_25 rfl (lv_at hl 2 rfl) ?_
    refine va_put (D := k.1) (ci := 5) (v := .int set) (ty := .int) (C := RX5) (T := TX5) (N := 27) hx hb hU inlX5 tyX5 tyX5_ok nmX5 hown hK.1 hP hD hS 0 rfl rfl 17 (by decide) (hU _ uF_X5_124) (fun _ h9 => h9) rfl (by decide +kernel) rfl rfl (Nat.le_of_ble_eq_true rfl) dX5_become_26 (fun H locs hP hD hS => ?_)
    have hP := pz_m_0_17 k a (sM_hasChoice (sM_earlier M 0) is_) set hP
    have hD := dz_m_0_17 k a (sM_hasChoice (sM_earlier M 0) is_) set hD
    refine lv_aload_n hx hb dX5_become_29 rfl (lv_at hl 0 rfl) ?_
    refine lv_lload_n hx hb dX5_become_30 rfl (lv_at hl 3 rfl) ?_
    refine va_put (D := k.1) (ci := 5) (v := .long cv) (ty := .long) (C := RX5) (T := TX5) (N := 27) hx hb hU inlX5 tyX5 tyX5_ok nmX5 hown hK.1 hP hD hS 0 rfl rfl 19 (by decide) (hU _ uF_X5_130) (fun _ h9 => h9) rfl (by decide +kernel) rfl rfl (Nat.le_of_ble_eq_true rfl) dX5_become_31 (fun H locs hP hD hS => ?_)
    have hP := pz_m_0_19 k a (sM_choice (sM_hasChoice (sM_earlier M 0) is_) set) cv hP
    have hD := dz_m_0_19 k a (sM_choice (sM_hasChoice (sM_earlier M 0) is_) set) cv hD
    have hP9 : va_P k.1 vwCl (mW k a (w_X5_become_M M is_ set cv)) H := by rw [w_X5_become_M, if_pos c_1]; exact hP
    have hD9 : va_D A (mW k a (w_X5_become_M M is_ set cv)) := by rw [w_X5_become_M, if_pos c_1]; exact hD
    exact W.vret hx hb hr (fun t ht hW => ⟨⟨rfl, by rw [ht]; exact hP9, hD9⟩, hS.F ht⟩) hS.2.2 dX5_become_34
  · refine lv_aload_n hx hb dX5_become_8 rfl (lv_at hl 0 rfl) ?_
    refine va_get (D := k.1) (ci := 5) (v := .int (M_choice M)) (C := RX5) (T := TX5) (N := 27) hx hb hU inlX5 hown hK.1 hP 0 rfl rfl 17 (by decide) (hU _ uF_X5_124) (fun _ h9 => h9) rfl dX5_become_9 ?_
    refine lv_goto (tgt := 16) hx hb dX5_become_12 (by decide) ?_
    refine va_put (D := k.1) (ci := 5) (v := .int (M_choice M)) (ty := .int) (C := RX5) (T := TX5) (N := 27) hx hb hU inlX5 tyX5 tyX5_ok nmX5 hown hK.1 hP hD hS 0 rfl rfl 18 (by decide) (hU _ uF_X5_127) (fun _ h9 => h9) rfl (by decide +kernel) rfl rfl (Nat.le_of_ble_eq_true rfl) dX5_become_16 (fun H locs hP hD hS => ?_)
    have hP := pz_m_0_18 k a M (M_choice M) hP
    have hD := dz_m_0_18 k a M (M_choice M) hD
    refine lv_aload_n hx hb dX5_become_19 rfl (lv_at hl 0 rfl) ?_
    refine lv_iload_n hx hb dX5_become_20 rfl (lv_at hl 1 rfl) ?_
    refine va_put (D := k.1) (ci := 5) (v := .int is_) (ty := .boolean) (C := RX5) (T := TX5) (N := 27) hx hb hU inlX5 tyX5 tyX5_ok nmX5 hown hK.1 hP hD hS 0 rfl rfl 16 (by decide) (hU _ uF_X5_121) (fun _ h9 => h9) rfl (by decide +kernel) (nzb hz) (fzb hz) (Nat.le_of_ble_eq_true rfl) dX5_become_21 (fun H locs hP hD hS => ?_)
    have hP := pz_m_0_16 k a (sM_earlier M (M_choice M)) is_ hP
    have hD := dz_m_0_16 k a (sM_earlier M (M_choice M)) is_ hD
    refine lv_aload_n hx hb dX5_become_24 rfl (lv_at hl 0 rfl) ?_
    refine lv_iload_n hx hb dX5_become_25 rfl (lv_at hl 2 rfl) ?_
    refine va_put (D := k.1) (ci := 5) (v := .int set) (ty := .int) (C := RX5) (T := TX5) (N := 27) hx hb hU inlX5 tyX5 tyX5_ok nmX5 hown hK.1 hP hD hS 0 rfl rfl 17 (by decide) (hU _ uF_X5_124) (fun _ h9 => h9) rfl (by decide +kernel) rfl rfl (Nat.le_of_ble_eq_true rfl) dX5_become_26 (fun H locs hP hD hS => ?_)
    have hP := pz_m_0_17 k a (sM_hasChoice (sM_earlier M (M_choice M)) is_) set hP
    have hD := dz_m_0_17 k a (sM_hasChoice (sM_earlier M (M_choice M)) is_) set hD
    refine lv_aload_n hx hb dX5_become_29 rfl (lv_at hl 0 rfl) ?_
    refine lv_lload_n hx hb dX5_become_30 rfl (lv_at hl 3 rfl) ?_
    refine va_put (D := k.1) (ci := 5) (v := .long cv) (ty := .long) (C := RX5) (T := TX5) (N := 27) hx hb hU inlX5 tyX5 tyX5_ok nmX5 hown hK.1 hP hD hS 0 rfl rfl 19 (by decide) (hU _ uF_X5_130) (fun _ h9 => h9) rfl (by decide +kernel) rfl rfl (Nat.le_of_ble_eq_true rfl) dX5_become_31 (fun H locs hP hD hS => ?_)
    have hP := pz_m_0_19 k a (sM_choice (sM_hasChoice (sM_earlier M (M_choice M)) is_) set) cv hP
    have hD := dz_m_0_19 k a (sM_choice (sM_hasChoice (sM_earlier M (M_choice M)) is_) set) cv hD
    have hP9 : va_P k.1 vwCl (mW k a (w_X5_become_M M is_ set cv)) H := by rw [w_X5_become_M, if_neg c_1]; exact hP
    have hD9 : va_D A (mW k a (w_X5_become_M M is_ set cv)) := by rw [w_X5_become_M, if_neg c_1]; exact hD
    exact W.vret hx hb hr (fun t ht hW => ⟨⟨rfl, by rw [ht]; exact hP9, hD9⟩, hS.F ht⟩) hS.2.2 dX5_become_34
