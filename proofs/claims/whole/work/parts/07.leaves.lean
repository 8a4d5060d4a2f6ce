def w_within (value most : Int64) : Int32 := if value < 0 then 0 else if most < value then 0 else 1
def w_isShare (above below_ : Int64) : Int32 := if above < 0 then 0 else if below_ < above then 0 else if below_ < 1 then 0 else if 100 < below_ then 0 else 1
def w_isKind (kind : Int32) : Int32 := if kind < 0 then 0 else if kind < 8 then 1 else 0
def w_isPort (port : Int32) : Int32 := if port < 0 then 0 else if port < 4 then 1 else 0
def w_hasBit (set place : Int32) : Int32 := if (iu set place &&& 1) = 0 then 0 else 1
def w_hasCell (n c : Int32) : Int32 := if c < 0 then 0 else if c < n then 1 else 0
def w_bitCount (x : Int32) : Int32 :=
  let i := x - (iu x 1 &&& 1431655765)
  let i := (i &&& 858993459) + (iu i 2 &&& 858993459)
  let i := (i + iu i 4) &&& 252645135
  let i := i + iu i 8
  let i := i + iu i 16
  i &&& 63

set_option maxHeartbeats 4000000 in
set_option maxRecDepth 100000 in
theorem c_X4_within (l : Launch) (k : KT)  (value : Int64) (most : Int64)  : MR l yX4_within cX4_within 4 (some .boolean) (rz 0 0) k [.long value, .long most] [] (.int (w_within value most)) := by
  refine Met.ofW (cc := cX4_within) (maxL := 4) (ret := (some .boolean)) (by decide) rfl ?_
  intro p e s m args below meth c s₁ B hml hv
  obtain ⟨rfl, hP, hK⟩ := hv
  have hx := B.exec
  have hb := B.bytes
  have hr := B.returns
  have hU : ∀ w ∈ wsL_law, w.before [.long value, .long most].toArray s = true := fun w h => atoms_spec (ws := Cond.code yX4_within cX4_within 4 (some .boolean) :: wsL_law) B.pre w (List.mem_cons_of_mem _ h)
  have hown : s.vm.findClass RX4 = some m.cls := findClass_of_methodNamed B.named
  have hlocks := B.notSynchronized
  have hF : CF p m c cX4_within 4 s [.long value, .long most].toArray RX4 := ⟨hx, hb, hml, hown, hU⟩
  have hl := lv_entry ([.long value, .long most] : List Value) (n := 4) (Nat.le_of_ble_eq_true rfl)
  rw [lg_entry_eq]
  generalize (lg_sl ([.long value, .long most] : List Value) ++ List.replicate (4 - (lg_sl ([.long value, .long most] : List Value)).length) Slot.unset).toArray = ls at hl ⊢
  have hl : lv_has ls 4 [(0, .long value), (2, .long most)] := hl
  refine lv_lload_n hx hb dX4_within_0 rfl (lv_at hl 0 rfl) ?_
  refine lv_lconst (v := 0) hx hb dX4_within_1 (by decide) ?_
  refine xl_lt (tgt := 16) hx hb dX4_within_2 dX4_within_3 (by decide) (fun c_1 => ?_) (fun c_1 => ?_)
  · refine lv_iconst (v := 0) hx hb dX4_within_16 (by decide) ?_
    exact W.zret (v := 0) hx hb hr rfl (fun t ht hW => ⟨by rw [w_within, if_pos c_1], ht⟩) (fun q h => absurd h List.not_mem_nil) dX4_within_17
  · refine lv_lload_n hx hb dX4_within_6 rfl (lv_at hl 0 rfl) ?_
    refine lv_lload_n hx hb dX4_within_7 rfl (lv_at hl 1 rfl) ?_
    refine xl_gt (tgt := 16) hx hb dX4_within_8 dX4_within_9 (by decide) (fun c_2 => ?_) (fun c_2 => ?_)
    · refine lv_iconst (v := 0) hx hb dX4_within_16 (by decide) ?_
      exact W.zret (v := 0) hx hb hr rfl (fun t ht hW => ⟨by rw [w_within, if_neg c_1, if_pos c_2], ht⟩) (fun q h => absurd h List.not_mem_nil) dX4_within_17
    · refine lv_iconst (v := 1) hx hb dX4_within_12 (by decide) ?_
      refine lv_goto (tgt := 17) hx hb dX4_within_13 (by decide) ?_
      exact W.zret (v := 1) hx hb hr rfl (fun t ht hW => ⟨by rw [w_within, if_neg c_1, if_neg c_2], ht⟩) (fun q h => absurd h List.not_mem_nil) dX4_within_17

set_option maxHeartbeats 4000000 in
set_option maxRecDepth 100000 in
theorem c_X4_isShare (l : Launch) (k : KT)  (above : Int64) (below_ : Int64)  : MR l yX4_isShare cX4_isShare 4 (some .boolean) (rz 0 0) k [.long above, .long below_] [] (.int (w_isShare above below_)) := by
  refine Met.ofW (cc := cX4_isShare) (maxL := 4) (ret := (some .boolean)) (by decide) rfl ?_
  intro p e s m args below meth c s₁ B hml hv
  obtain ⟨rfl, hP, hK⟩ := hv
  have hx := B.exec
  have hb := B.bytes
  have hr := B.returns
  have hU : ∀ w ∈ wsL_law, w.before [.long above, .long below_].toArray s = true := fun w h => atoms_spec (ws := Cond.code yX4_isShare cX4_isShare 4 (some .boolean) :: wsL_law) B.pre w (List.mem_cons_of_mem _ h)
  have hown : s.vm.findClass RX4 = some m.cls := findClass_of_methodNamed B.named
  have hlocks := B.notSynchronized
  have hF : CF p m c cX4_isShare 4 s [.long above, .long below_].toArray RX4 := ⟨hx, hb, hml, hown, hU⟩
  have hl := lv_entry ([.long above, .long below_] : List Value) (n := 4) (Nat.le_of_ble_eq_true rfl)
  rw [lg_entry_eq]
  generalize (lg_sl ([.long above, .long below_] : List Value) ++ List.replicate (4 - (lg_sl ([.long above, .long below_] : List Value)).length) Slot.unset).toArray = ls at hl ⊢
  have hl : lv_has ls 4 [(0, .long above), (2, .long below_)] := hl
  refine lv_lload_n hx hb dX4_isShare_0 rfl (lv_at hl 0 rfl) ?_
  refine lv_lconst (v := 0) hx hb dX4_isShare_1 (by decide) ?_
  refine xl_lt (tgt := 30) hx hb dX4_isShare_2 dX4_isShare_3 (by decide) (fun c_1 => ?_) (fun c_1 => ?_)
  · refine lv_iconst (v := 0) hx hb dX4_isShare_30 (by decide) ?_
    exact W.zret (v := 0) hx hb hr rfl (fun t ht hW => ⟨by rw [w_isShare, if_pos c_1], ht⟩) (fun q h => absurd h List.not_mem_nil) dX4_isShare_31
  · refine lv_lload_n hx hb dX4_isShare_6 rfl (lv_at hl 0 rfl) ?_
    refine lv_lload_n hx hb dX4_isShare_7 rfl (lv_at hl 1 rfl) ?_
    refine xl_gt (tgt := 30) hx hb dX4_isShare_8 dX4_isShare_9 (by decide) (fun c_2 => ?_) (fun c_2 => ?_)
    · refine lv_iconst (v := 0) hx hb dX4_isShare_30 (by decide) ?_
      exact W.zret (v := 0) hx hb hr rfl (fun t ht hW => ⟨by rw [w_isShare, if_neg c_1, if_pos c_2], ht⟩) (fun q h => absurd h List.not_mem_nil) dX4_isShare_31
    · refine lv_lload_n hx hb dX4_isShare_12 rfl (lv_at hl 1 rfl) ?_
      refine lv_lconst (v := 1) hx hb dX4_isShare_13 (by decide) ?_
      refine xl_lt (tgt := 30) hx hb dX4_isShare_14 dX4_isShare_15 (by decide) (fun c_3 => ?_) (fun c_3 => ?_)
      · refine lv_iconst (v := 0) hx hb dX4_isShare_30 (by decide) ?_
        exact W.zret (v := 0) hx hb hr rfl (fun t ht hW => ⟨by rw [w_isShare, if_neg c_1, if_neg c_2, if_pos c_3], ht⟩) (fun q h => absurd h List.not_mem_nil) dX4_isShare_31
      · refine lv_lload_n hx hb dX4_isShare_18 rfl (lv_at hl 1 rfl) ?_
        refine lv_ldc2 hx hb hown (hU _ uK_X4_223) dX4_isShare_19 ?_
        refine xl_gt (tgt := 30) hx hb dX4_isShare_22 dX4_isShare_23 (by decide) (fun c_4 => ?_) (fun c_4 => ?_)
        · refine lv_iconst (v := 0) hx hb dX4_isShare_30 (by decide) ?_
          exact W.zret (v := 0) hx hb hr rfl (fun t ht hW => ⟨by rw [w_isShare, if_neg c_1, if_neg c_2, if_neg c_3, if_pos c_4], ht⟩) (fun q h => absurd h List.not_mem_nil) dX4_isShare_31
        · refine lv_iconst (v := 1) hx hb dX4_isShare_26 (by decide) ?_
          refine lv_goto (tgt := 31) hx hb dX4_isShare_27 (by decide) ?_
          exact W.zret (v := 1) hx hb hr rfl (fun t ht hW => ⟨by rw [w_isShare, if_neg c_1, if_neg c_2, if_neg c_3, if_neg c_4], ht⟩) (fun q h => absurd h List.not_mem_nil) dX4_isShare_31

set_option maxHeartbeats 4000000 in
set_option maxRecDepth 100000 in
theorem c_X4_isKind (l : Launch) (k : KT)  (kind : Int32)  : MR l yX4_isKind cX4_isKind 1 (some .boolean) (rz 0 0) k [.int kind] [] (.int (w_isKind kind)) := by
  refine Met.ofW (cc := cX4_isKind) (maxL := 1) (ret := (some .boolean)) (by decide) rfl ?_
  intro p e s m args below meth c s₁ B hml hv
  obtain ⟨rfl, hP, hK⟩ := hv
  have hx := B.exec
  have hb := B.bytes
  have hr := B.returns
  have hU : ∀ w ∈ wsL_law, w.before [.int kind].toArray s = true := fun w h => atoms_spec (ws := Cond.code yX4_isKind cX4_isKind 1 (some .boolean) :: wsL_law) B.pre w (List.mem_cons_of_mem _ h)
  have hown : s.vm.findClass RX4 = some m.cls := findClass_of_methodNamed B.named
  have hlocks := B.notSynchronized
  have hF : CF p m c cX4_isKind 1 s [.int kind].toArray RX4 := ⟨hx, hb, hml, hown, hU⟩
  have hl := lv_entry ([.int kind] : List Value) (n := 1) (Nat.le_of_ble_eq_true rfl)
  rw [lg_entry_eq]
  generalize (lg_sl ([.int kind] : List Value) ++ List.replicate (1 - (lg_sl ([.int kind] : List Value)).length) Slot.unset).toArray = ls at hl ⊢
  have hl : lv_has ls 1 [(0, .int kind)] := hl
  refine lv_iload_n hx hb dX4_isKind_0 rfl (lv_at hl 0 rfl) ?_
  refine lv_if_lt (tgt := 14) hx hb dX4_isKind_1 (by decide) (fun c_1 => ?_) (fun c_1 => ?_)
  · refine lv_iconst (v := 0) hx hb dX4_isKind_14 (by decide) ?_
    exact W.zret (v := 0) hx hb hr rfl (fun t ht hW => ⟨by rw [w_isKind, if_pos c_1], ht⟩) (fun q h => absurd h List.not_mem_nil) dX4_isKind_15
  · refine lv_iload_n hx hb dX4_isKind_4 rfl (lv_at hl 0 rfl) ?_
    refine lv_bipush (v := 8) hx hb dX4_isKind_5 (by decide) ?_
    refine xb_ge (tgt := 14) hx hb dX4_isKind_7 (by decide) (fun c_2 => ?_) (fun c_2 => ?_)
    · refine lv_iconst (v := 0) hx hb dX4_isKind_14 (by decide) ?_
      exact W.zret (v := 0) hx hb hr rfl (fun t ht hW => ⟨by rw [w_isKind, if_neg c_1, if_neg c_2], ht⟩) (fun q h => absurd h List.not_mem_nil) dX4_isKind_15
    · refine lv_iconst (v := 1) hx hb dX4_isKind_10 (by decide) ?_
      refine lv_goto (tgt := 15) hx hb dX4_isKind_11 (by decide) ?_
      exact W.zret (v := 1) hx hb hr rfl (fun t ht hW => ⟨by rw [w_isKind, if_neg c_1, if_pos c_2], ht⟩) (fun q h => absurd h List.not_mem_nil) dX4_isKind_15

set_option maxHeartbeats 4000000 in
set_option maxRecDepth 100000 in
theorem c_X4_isPort (l : Launch) (k : KT)  (port : Int32)  : MR l yX4_isPort cX4_isPort 1 (some .boolean) (rz 0 0) k [.int port] [] (.int (w_isPort port)) := by
  refine Met.ofW (cc := cX4_isPort) (maxL := 1) (ret := (some .boolean)) (by decide) rfl ?_
  intro p e s m args below meth c s₁ B hml hv
  obtain ⟨rfl, hP, hK⟩ := hv
  have hx := B.exec
  have hb := B.bytes
  have hr := B.returns
  have hU : ∀ w ∈ wsL_law, w.before [.int port].toArray s = true := fun w h => atoms_spec (ws := Cond.code yX4_isPort cX4_isPort 1 (some .boolean) :: wsL_law) B.pre w (List.mem_cons_of_mem _ h)
  have hown : s.vm.findClass RX4 = some m.cls := findClass_of_methodNamed B.named
  have hlocks := B.notSynchronized
  have hF : CF p m c cX4_isPort 1 s [.int port].toArray RX4 := ⟨hx, hb, hml, hown, hU⟩
  have hl := lv_entry ([.int port] : List Value) (n := 1) (Nat.le_of_ble_eq_true rfl)
  rw [lg_entry_eq]
  generalize (lg_sl ([.int port] : List Value) ++ List.replicate (1 - (lg_sl ([.int port] : List Value)).length) Slot.unset).toArray = ls at hl ⊢
  have hl : lv_has ls 1 [(0, .int port)] := hl
  refine lv_iload_n hx hb dX4_isPort_0 rfl (lv_at hl 0 rfl) ?_
  refine lv_if_lt (tgt := 13) hx hb dX4_isPort_1 (by decide) (fun c_1 => ?_) (fun c_1 => ?_)
  · refine lv_iconst (v := 0) hx hb dX4_isPort_13 (by decide) ?_
    exact W.zret (v := 0) hx hb hr rfl (fun t ht hW => ⟨by rw [w_isPort, if_pos c_1], ht⟩) (fun q h => absurd h List.not_mem_nil) dX4_isPort_14
  · refine lv_iload_n hx hb dX4_isPort_4 rfl (lv_at hl 0 rfl) ?_
    refine lv_iconst (v := 4) hx hb dX4_isPort_5 (by decide) ?_
    refine xb_ge (tgt := 13) hx hb dX4_isPort_6 (by decide) (fun c_2 => ?_) (fun c_2 => ?_)
    · refine lv_iconst (v := 0) hx hb dX4_isPort_13 (by decide) ?_
      exact W.zret (v := 0) hx hb hr rfl (fun t ht hW => ⟨by rw [w_isPort, if_neg c_1, if_neg c_2], ht⟩) (fun q h => absurd h List.not_mem_nil) dX4_isPort_14
    · refine lv_iconst (v := 1) hx hb dX4_isPort_9 (by decide) ?_
      refine lv_goto (tgt := 14) hx hb dX4_isPort_10 (by decide) ?_
      exact W.zret (v := 1) hx hb hr rfl (fun t ht hW => ⟨by rw [w_isPort, if_neg c_1, if_pos c_2], ht⟩) (fun q h => absurd h List.not_mem_nil) dX4_isPort_14

set_option maxHeartbeats 4000000 in
set_option maxRecDepth 100000 in
theorem c_X4_hasBit (l : Launch) (k : KT)  (set : Int32) (place : Int32)  : MR l yX4_hasBit cX4_hasBit 2 (some .boolean) (rz 0 0) k [.int set, .int place] [] (.int (w_hasBit set place)) := by
  refine Met.ofW (cc := cX4_hasBit) (maxL := 2) (ret := (some .boolean)) (by decide) rfl ?_
  intro p e s m args below meth c s₁ B hml hv
  obtain ⟨rfl, hP, hK⟩ := hv
  have hx := B.exec
  have hb := B.bytes
  have hr := B.returns
  have hU : ∀ w ∈ wsL_law, w.before [.int set, .int place].toArray s = true := fun w h => atoms_spec (ws := Cond.code yX4_hasBit cX4_hasBit 2 (some .boolean) :: wsL_law) B.pre w (List.mem_cons_of_mem _ h)
  have hown : s.vm.findClass RX4 = some m.cls := findClass_of_methodNamed B.named
  have hlocks := B.notSynchronized
  have hF : CF p m c cX4_hasBit 2 s [.int set, .int place].toArray RX4 := ⟨hx, hb, hml, hown, hU⟩
  have hl := lv_entry ([.int set, .int place] : List Value) (n := 2) (Nat.le_of_ble_eq_true rfl)
  rw [lg_entry_eq]
  generalize (lg_sl ([.int set, .int place] : List Value) ++ List.replicate (2 - (lg_sl ([.int set, .int place] : List Value)).length) Slot.unset).toArray = ls at hl ⊢
  have hl : lv_has ls 2 [(0, .int set), (1, .int place)] := hl
  refine lv_iload_n hx hb dX4_hasBit_0 rfl (lv_at hl 0 rfl) ?_
  refine lv_iload_n hx hb dX4_hasBit_1 rfl (lv_at hl 1 rfl) ?_
  refine lv_iushr (v := (iu set place)) hx hb dX4_hasBit_2 rfl ?_
  refine lv_iconst (v := 1) hx hb dX4_hasBit_3 (by decide) ?_
  refine lv_iand hx hb dX4_hasBit_4 ?_
  refine lv_if_eq (tgt := 12) hx hb dX4_hasBit_5 (by decide) (fun c_1 => ?_) (fun c_1 => ?_)
  · refine lv_iconst (v := 0) hx hb dX4_hasBit_12 (by decide) ?_
    exact W.zret (v := 0) hx hb hr rfl (fun t ht hW => ⟨by rw [w_hasBit, if_pos c_1], ht⟩) (fun q h => absurd h List.not_mem_nil) dX4_hasBit_13
  · refine lv_iconst (v := 1) hx hb dX4_hasBit_8 (by decide) ?_
    refine lv_goto (tgt := 13) hx hb dX4_hasBit_9 (by decide) ?_
    exact W.zret (v := 1) hx hb hr rfl (fun t ht hW => ⟨by rw [w_hasBit, if_neg c_1], ht⟩) (fun q h => absurd h List.not_mem_nil) dX4_hasBit_13

set_option maxHeartbeats 4000000 in
set_option maxRecDepth 100000 in
theorem c_J6_bitCount_0f7a4 (l : Launch) (k : KT)  (x : Int32)  : MR l yJ6_bitCount_0f7a4 cJ6_bitCount_0f7a4 1 (some .int) (rz 0 0) k [.int x] [] (.int (w_bitCount x)) := by
  refine va_MetF (cc := cJ6_bitCount_0f7a4) (maxL := 1) (ret := (some .int)) (by decide) rfl ?_
  intro p e s m args below meth c s₁ B hml hv
  obtain ⟨rfl, hP, hK⟩ := hv
  have hx := B.exec
  have hb := B.bytes
  have hr := B.returns
  have hU : ∀ w ∈ wsL_law, w.before [.int x].toArray s = true := fun w h => atoms_spec (ws := Cond.code yJ6_bitCount_0f7a4 cJ6_bitCount_0f7a4 1 (some .int) :: wsL_law) B.pre w (List.mem_cons_of_mem _ h)
  have hown : s.vm.findClass RJ6 = some m.cls := findClass_of_methodNamed B.named
  have hlocks := B.notSynchronized
  have hF : CF p m c cJ6_bitCount_0f7a4 1 s [.int x].toArray RJ6 := ⟨hx, hb, hml, hown, hU⟩
  have hl := lv_entry ([.int x] : List Value) (n := 1) (Nat.le_of_ble_eq_true rfl)
  rw [lg_entry_eq]
  generalize (lg_sl ([.int x] : List Value) ++ List.replicate (1 - (lg_sl ([.int x] : List Value)).length) Slot.unset).toArray = ls at hl ⊢
  have hl : lv_has ls 1 [(0, .int x)] := hl
  refine lv_iload_n hx hb dJ6_bitCount_0f7a4_0 rfl (lv_at hl 0 rfl) ?_
  refine lv_iload_n hx hb dJ6_bitCount_0f7a4_1 rfl (lv_at hl 0 rfl) ?_
  refine lv_iconst (v := 1) hx hb dJ6_bitCount_0f7a4_2 (by decide) ?_
  refine lv_iushr (v := (iu x 1)) hx hb dJ6_bitCount_0f7a4_3 rfl ?_
  refine lv_ldcw hx hb hown (hU _ uK_J6_265) dJ6_bitCount_0f7a4_4 ?_
  refine lv_iand hx hb dJ6_bitCount_0f7a4_7 ?_
  refine lv_isub hx hb dJ6_bitCount_0f7a4_8 ?_
  refine lv_istore_n (lv' := [(0, .int (x - ((iu x 1) &&& 1431655765)))]) hx hb dJ6_bitCount_0f7a4_9 rfl hl (by decide) rfl (fun ls hl => ?_)
  refine lv_iload_n hx hb dJ6_bitCount_0f7a4_10 rfl (lv_at hl 0 rfl) ?_
  refine lv_ldcw hx hb hown (hU _ uK_J6_266) dJ6_bitCount_0f7a4_11 ?_
  refine lv_iand hx hb dJ6_bitCount_0f7a4_14 ?_
  refine lv_iload_n hx hb dJ6_bitCount_0f7a4_15 rfl (lv_at hl 0 rfl) ?_
  refine lv_iconst (v := 2) hx hb dJ6_bitCount_0f7a4_16 (by decide) ?_
  refine lv_iushr (v := (iu (x - ((iu x 1) &&& 1431655765)) 2)) hx hb dJ6_bitCount_0f7a4_17 rfl ?_
  refine lv_ldcw hx hb hown (hU _ uK_J6_266) dJ6_bitCount_0f7a4_18 ?_
  refine lv_iand hx hb dJ6_bitCount_0f7a4_21 ?_
  refine lv_iadd hx hb dJ6_bitCount_0f7a4_22 ?_
  refine lv_istore_n (lv' := [(0, .int (((x - ((iu x 1) &&& 1431655765)) &&& 858993459) + ((iu (x - ((iu x 1) &&& 1431655765)) 2) &&& 858993459)))]) hx hb dJ6_bitCount_0f7a4_23 rfl hl (by decide) rfl (fun ls hl => ?_)
  refine lv_iload_n hx hb dJ6_bitCount_0f7a4_24 rfl (lv_at hl 0 rfl) ?_
  refine lv_iload_n hx hb dJ6_bitCount_0f7a4_25 rfl (lv_at hl 0 rfl) ?_
  refine lv_iconst (v := 4) hx hb dJ6_bitCount_0f7a4_26 (by decide) ?_
  refine lv_iushr (v := (iu (((x - ((iu x 1) &&& 1431655765)) &&& 858993459) + ((iu (x - ((iu x 1) &&& 1431655765)) 2) &&& 858993459)) 4)) hx hb dJ6_bitCount_0f7a4_27 rfl ?_
  refine lv_iadd hx hb dJ6_bitCount_0f7a4_28 ?_
  refine lv_ldcw hx hb hown (hU _ uK_J6_267) dJ6_bitCount_0f7a4_29 ?_
  refine lv_iand hx hb dJ6_bitCount_0f7a4_32 ?_
  refine lv_istore_n (lv' := [(0, .int (((((x - ((iu x 1) &&& 1431655765)) &&& 858993459) + ((iu (x - ((iu x 1) &&& 1431655765)) 2) &&& 858993459)) + (iu (((x - ((iu x 1) &&& 1431655765)) &&& 858993459) + ((iu (x - ((iu x 1) &&& 1431655765)) 2) &&& 858993459)) 4)) &&& 252645135))]) hx hb dJ6_bitCount_0f7a4_33 rfl hl (by decide) rfl (fun ls hl => ?_)
  refine lv_iload_n hx hb dJ6_bitCount_0f7a4_34 rfl (lv_at hl 0 rfl) ?_
  refine lv_iload_n hx hb dJ6_bitCount_0f7a4_35 rfl (lv_at hl 0 rfl) ?_
  refine lv_bipush (v := 8) hx hb dJ6_bitCount_0f7a4_36 (by decide) ?_
  refine lv_iushr (v := (iu (((((x - ((iu x 1) &&& 1431655765)) &&& 858993459) + ((iu (x - ((iu x 1) &&& 1431655765)) 2) &&& 858993459)) + (iu (((x - ((iu x 1) &&& 1431655765)) &&& 858993459) + ((iu (x - ((iu x 1) &&& 1431655765)) 2) &&& 858993459)) 4)) &&& 252645135) 8)) hx hb dJ6_bitCount_0f7a4_38 rfl ?_
  refine lv_iadd hx hb dJ6_bitCount_0f7a4_39 ?_
  refine lv_istore_n (lv' := [(0, .int ((((((x - ((iu x 1) &&& 1431655765)) &&& 858993459) + ((iu (x - ((iu x 1) &&& 1431655765)) 2) &&& 858993459)) + (iu (((x - ((iu x 1) &&& 1431655765)) &&& 858993459) + ((iu (x - ((iu x 1) &&& 1431655765)) 2) &&& 858993459)) 4)) &&& 252645135) + (iu (((((x - ((iu x 1) &&& 1431655765)) &&& 858993459) + ((iu (x - ((iu x 1) &&& 1431655765)) 2) &&& 858993459)) + (iu (((x - ((iu x 1) &&& 1431655765)) &&& 858993459) + ((iu (x - ((iu x 1) &&& 1431655765)) 2) &&& 858993459)) 4)) &&& 252645135) 8)))]) hx hb dJ6_bitCount_0f7a4_40 rfl hl (by decide) rfl (fun ls hl => ?_)
  refine lv_iload_n hx hb dJ6_bitCount_0f7a4_41 rfl (lv_at hl 0 rfl) ?_
  refine lv_iload_n hx hb dJ6_bitCount_0f7a4_42 rfl (lv_at hl 0 rfl) ?_
  refine lv_bipush (v := 16) hx hb dJ6_bitCount_0f7a4_43 (by decide) ?_
  refine lv_iushr (v := (iu ((((((x - ((iu x 1) &&& 1431655765)) &&& 858993459) + ((iu (x - ((iu x 1) &&& 1431655765)) 2) &&& 858993459)) + (iu (((x - ((iu x 1) &&& 1431655765)) &&& 858993459) + ((iu (x - ((iu x 1) &&& 1431655765)) 2) &&& 858993459)) 4)) &&& 252645135) + (iu (((((x - ((iu x 1) &&& 1431655765)) &&& 858993459) + ((iu (x - ((iu x 1) &&& 1431655765)) 2) &&& 858993459)) + (iu (((x - ((iu x 1) &&& 1431655765)) &&& 858993459) + ((iu (x - ((iu x 1) &&& 1431655765)) 2) &&& 858993459)) 4)) &&& 252645135) 8)) 16)) hx hb dJ6_bitCount_0f7a4_45 rfl ?_
  refine lv_iadd hx hb dJ6_bitCount_0f7a4_46 ?_
  refine lv_istore_n (lv' := [(0, .int (((((((x - ((iu x 1) &&& 1431655765)) &&& 858993459) + ((iu (x - ((iu x 1) &&& 1431655765)) 2) &&& 858993459)) + (iu (((x - ((iu x 1) &&& 1431655765)) &&& 858993459) + ((iu (x - ((iu x 1) &&& 1431655765)) 2) &&& 858993459)) 4)) &&& 252645135) + (iu (((((x - ((iu x 1) &&& 1431655765)) &&& 858993459) + ((iu (x - ((iu x 1) &&& 1431655765)) 2) &&& 858993459)) + (iu (((x - ((iu x 1) &&& 1431655765)) &&& 858993459) + ((iu (x - ((iu x 1) &&& 1431655765)) 2) &&& 858993459)) 4)) &&& 252645135) 8)) + (iu ((((((x - ((iu x 1) &&& 1431655765)) &&& 858993459) + ((iu (x - ((iu x 1) &&& 1431655765)) 2) &&& 858993459)) + (iu (((x - ((iu x 1) &&& 1431655765)) &&& 858993459) + ((iu (x - ((iu x 1) &&& 1431655765)) 2) &&& 858993459)) 4)) &&& 252645135) + (iu (((((x - ((iu x 1) &&& 1431655765)) &&& 858993459) + ((iu (x - ((iu x 1) &&& 1431655765)) 2) &&& 858993459)) + (iu (((x - ((iu x 1) &&& 1431655765)) &&& 858993459) + ((iu (x - ((iu x 1) &&& 1431655765)) 2) &&& 858993459)) 4)) &&& 252645135) 8)) 16)))]) hx hb dJ6_bitCount_0f7a4_47 rfl hl (by decide) rfl (fun ls hl => ?_)
  refine lv_iload_n hx hb dJ6_bitCount_0f7a4_48 rfl (lv_at hl 0 rfl) ?_
  refine lv_bipush (v := 63) hx hb dJ6_bitCount_0f7a4_49 (by decide) ?_
  refine lv_iand hx hb dJ6_bitCount_0f7a4_51 ?_
  exact W.iret (v := ((((((((x - ((iu x 1) &&& 1431655765)) &&& 858993459) + ((iu (x - ((iu x 1) &&& 1431655765)) 2) &&& 858993459)) + (iu (((x - ((iu x 1) &&& 1431655765)) &&& 858993459) + ((iu (x - ((iu x 1) &&& 1431655765)) 2) &&& 858993459)) 4)) &&& 252645135) + (iu (((((x - ((iu x 1) &&& 1431655765)) &&& 858993459) + ((iu (x - ((iu x 1) &&& 1431655765)) 2) &&& 858993459)) + (iu (((x - ((iu x 1) &&& 1431655765)) &&& 858993459) + ((iu (x - ((iu x 1) &&& 1431655765)) 2) &&& 858993459)) 4)) &&& 252645135) 8)) + (iu ((((((x - ((iu x 1) &&& 1431655765)) &&& 858993459) + ((iu (x - ((iu x 1) &&& 1431655765)) 2) &&& 858993459)) + (iu (((x - ((iu x 1) &&& 1431655765)) &&& 858993459) + ((iu (x - ((iu x 1) &&& 1431655765)) 2) &&& 858993459)) 4)) &&& 252645135) + (iu (((((x - ((iu x 1) &&& 1431655765)) &&& 858993459) + ((iu (x - ((iu x 1) &&& 1431655765)) 2) &&& 858993459)) + (iu (((x - ((iu x 1) &&& 1431655765)) &&& 858993459) + ((iu (x - ((iu x 1) &&& 1431655765)) 2) &&& 858993459)) 4)) &&& 252645135) 8)) 16)) &&& 63)) hx hb hr (fun t ht hW => ⟨by rw [w_bitCount], ht⟩) (fun q h => absurd h List.not_mem_nil) dJ6_bitCount_0f7a4_52

set_option maxHeartbeats 4000000 in
set_option maxRecDepth 100000 in
theorem c_X2_hasCell (l : Launch) (k : KT) (a : Nat → Nat) (S : SeaT) (T : TalT) (dr : Int64) (tr : Int64) (C : ChoT) (F : (Nat → Int32)) (G : GoT) (ce : Int32)  : MR l yX2_hasCell cX2_hasCell 2 (some .boolean) (rz 0 0) k [.ref (a 1), .int ce] (xW k a S T dr tr C F G) (.int (w_hasCell (S_cells S) ce)) := by
  refine Met.ofW (cc := cX2_hasCell) (maxL := 2) (ret := (some .boolean)) (by decide) rfl ?_
  intro p e s m args below meth c s₁ B hml hv
  obtain ⟨rfl, hP, hK⟩ := hv
  have hx := B.exec
  have hb := B.bytes
  have hr := B.returns
  have hU : ∀ w ∈ wsL_law, w.before [.ref (a 1), .int ce].toArray s = true := fun w h => atoms_spec (ws := Cond.code yX2_hasCell cX2_hasCell 2 (some .boolean) :: wsL_law) B.pre w (List.mem_cons_of_mem _ h)
  have hown : s.vm.findClass RX2 = some m.cls := findClass_of_methodNamed B.named
  have hlocks := B.notSynchronized
  have hF : CF p m c cX2_hasCell 2 s [.ref (a 1), .int ce].toArray RX2 := ⟨hx, hb, hml, hown, hU⟩
  have hl := lv_entry ([.ref (a 1), .int ce] : List Value) (n := 2) (Nat.le_of_ble_eq_true rfl)
  rw [lg_entry_eq]
  generalize (lg_sl ([.ref (a 1), .int ce] : List Value) ++ List.replicate (2 - (lg_sl ([.ref (a 1), .int ce] : List Value)).length) Slot.unset).toArray = ls at hl ⊢
  have hl : lv_has ls 2 [(0, .ref (a 1)), (1, .int ce)] := hl
  refine lv_iload_n hx hb dX2_hasCell_0 rfl (lv_at hl 1 rfl) ?_
  refine lv_if_lt (tgt := 16) hx hb dX2_hasCell_1 (by decide) (fun c_1 => ?_) (fun c_1 => ?_)
  · refine lv_iconst (v := 0) hx hb dX2_hasCell_16 (by decide) ?_
    exact W.zret (v := 0) hx hb hr rfl (fun t ht hW => ⟨by rw [w_hasCell, if_pos c_1], ht⟩) (fun q h => absurd h List.not_mem_nil) dX2_hasCell_17
  · refine lv_iload_n hx hb dX2_hasCell_4 rfl (lv_at hl 1 rfl) ?_
    refine lv_aload_n hx hb dX2_hasCell_5 rfl (lv_at hl 0 rfl) ?_
    refine va_get (D := k.1) (ci := 2) (v := .int (S_cells S)) (C := RX2) (T := TX2) (N := 16) hx hb hU inlX2 hown hK.1 hP 1 rfl rfl 12 (by decide) (hU _ uF_X2_47) (fun _ h9 => h9) rfl dX2_hasCell_6 ?_
    refine xb_ge (tgt := 16) hx hb dX2_hasCell_9 (by decide) (fun c_2 => ?_) (fun c_2 => ?_)
    · refine lv_iconst (v := 0) hx hb dX2_hasCell_16 (by decide) ?_
      exact W.zret (v := 0) hx hb hr rfl (fun t ht hW => ⟨by rw [w_hasCell, if_neg c_1, if_neg c_2], ht⟩) (fun q h => absurd h List.not_mem_nil) dX2_hasCell_17
    · refine lv_iconst (v := 1) hx hb dX2_hasCell_12 (by decide) ?_
      refine lv_goto (tgt := 17) hx hb dX2_hasCell_13 (by decide) ?_
      exact W.zret (v := 1) hx hb hr rfl (fun t ht hW => ⟨by rw [w_hasCell, if_neg c_1, if_pos c_2], ht⟩) (fun q h => absurd h List.not_mem_nil) dX2_hasCell_17
