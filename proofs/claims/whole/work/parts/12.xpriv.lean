def q_pob (set kk : Int32) : Nat → Bool := fun i => bt set i && decide (nI (cn set i) = kk)
def w_X4_placeOfBit (set kk : Int32) : Int32 := fnd (q_pob set kk) 24
set_option maxHeartbeats 4000000 in
set_option maxRecDepth 100000 in
theorem c_X4_placeOfBit (l : Launch) (k : KT)  (set : Int32) (kk : Int32)  : MR l yX4_placeOfBit cX4_placeOfBit 4 (some .int) (rz 1 21) k [.int set, .int kk] [] (.int (w_X4_placeOfBit set kk)) := by
  refine Met.ofW (cc := cX4_placeOfBit) (maxL := 4) (ret := (some .int)) (by decide) rfl ?_
  intro p e s m args below meth c s₁ B hml hv
  obtain ⟨rfl, hP, hK⟩ := hv
  have hx := B.exec
  have hb := B.bytes
  have hr := B.returns
  have hU : ∀ w ∈ wsL_law, w.before [.int set, .int kk].toArray s = true := fun w h => atoms_spec (ws := Cond.code yX4_placeOfBit cX4_placeOfBit 4 (some .int) :: wsL_law) B.pre w (List.mem_cons_of_mem _ h)
  have hown : s.vm.findClass RX4 = some m.cls := findClass_of_methodNamed B.named
  have hlocks := B.notSynchronized
  have hF : CF p m c cX4_placeOfBit 4 s [.int set, .int kk].toArray RX4 := ⟨hx, hb, hml, hown, hU⟩
  have hl := lv_entry ([.int set, .int kk] : List Value) (n := 4) (Nat.le_of_ble_eq_true rfl)
  rw [lg_entry_eq]
  generalize (lg_sl ([.int set, .int kk] : List Value) ++ List.replicate (4 - (lg_sl ([.int set, .int kk] : List Value)).length) Slot.unset).toArray = ls at hl ⊢
  have hl : lv_has ls 4 [(0, .int set), (1, .int kk)] := hl
  refine lv_iconst (v := 0) hx hb dX4_placeOfBit_0 (by decide) ?_
  refine lv_istore_n (lv' := [(2, .int 0), (0, .int set), (1, .int kk)]) hx hb dX4_placeOfBit_1 rfl hl (by decide) rfl (fun ls hl => ?_)
  refine lv_iconst (v := 0) hx hb dX4_placeOfBit_2 (by decide) ?_
  refine lv_istore_n (lv' := [(3, .int 0), (2, .int 0), (0, .int set), (1, .int kk)]) hx hb dX4_placeOfBit_3 rfl hl (by decide) rfl (fun ls hl => ?_)
  have loop_i : ∀ (ri i : Nat), i + ri * 1 = 24 → ∀ (ls : Array Slot) , lv_has ls 4 [(3, .int (nI i)), (2, .int (nI (cn set i))), (0, .int set), (1, .int kk)] → (∀ j, j < i → q_pob set kk j = false) → WR p l e s m below meth c yX4_placeOfBit cX4_placeOfBit 4 (some .int) (rz 1 21) [.int set, .int kk] (.int (w_X4_placeOfBit set kk)) (F0 m 4 ls []) := by
    intro ri
    induction ri with
    | zero =>
      intro i hi_i ls hl hv_i
      have he_i : 24 = i := by omega
      subst he_i
      refine lv_iload_n hx hb dX4_placeOfBit_4 rfl (lv_at hl 0 rfl) ?_
      refine lv_bipush (v := 24) hx hb dX4_placeOfBit_5 (by decide) ?_
      refine xb_ge (tgt := 34) hx hb dX4_placeOfBit_7 (by decide) (fun c_1 => ?_) (fun c9 => absurd c9 (nI_nlt (a := 24) (b := 24) (Nat.le_refl _) (by omega)))
      refine lv_iconst (v := (-1)) hx hb dX4_placeOfBit_34 (by decide) ?_
      exact W.iret (v := (-1)) hx hb hr (fun t ht hW => ⟨by rw [w_X4_placeOfBit, fnd_none hv_i], ht⟩) (fun q h => absurd h List.not_mem_nil) dX4_placeOfBit_35
    | succ ri ih_i =>
      intro i hi_i ls hl hv_i
      have ht_i : i < 24 := by omega
      refine lv_iload_n hx hb dX4_placeOfBit_4 rfl (lv_at hl 0 rfl) ?_
      refine lv_bipush (v := 24) hx hb dX4_placeOfBit_5 (by decide) ?_
      refine xb_ge (tgt := 34) hx hb dX4_placeOfBit_7 (by decide) (fun c9 => absurd (nI_lt (a := i) (b := 24) (by omega) (by omega)) c9) (fun c_2 => ?_)
      refine lv_iload_n hx hb dX4_placeOfBit_10 rfl (lv_at hl 2 rfl) ?_
      refine lv_iload_n hx hb dX4_placeOfBit_11 rfl (lv_at hl 0 rfl) ?_
      refine rcS (n := 2) (As := [.int set, .int (nI i)]) (rest := []) hF (c_X4_hasBit l k set (nI i)) (hP.sub (ws' := []) [] rfl) hK uC_X4_hasBit uN_X4 uM_X4_120 uS_X4_hasBit (by decide +kernel) rfl ⟨Nat.le_of_ble_eq_true rfl, Nat.le_of_ble_eq_true rfl⟩ ⟨Nat.zero_le _, Nat.zero_le _⟩ hl.1 rfl (Nat.le_of_ble_eq_true rfl) dX4_placeOfBit_12 ?_
      refine lv_if_eq (tgt := 28) hx hb dX4_placeOfBit_15 (by decide) (fun c_3 => ?_) (fun c_3 => ?_)
      · refine lv_iinc (v := nI (i + 1)) (lv' := [(3, .int (nI (i + 1))), (2, .int (nI (cn set i))), (0, .int set), (1, .int kk)]) hx hb dX4_placeOfBit_28 hl (k := 0) rfl (nI_add i 1) (by decide) rfl (fun ls hl => ?_)
        refine lv_goto (tgt := 4) hx hb dX4_placeOfBit_31 (by decide) ?_
        have eb : bt set i = false := (hb0 set (by omega)).mp c_3
        have hq : (nI (cn set i)) = (nI (cn set (i + 1))) := by rw [cn, if_neg (by rw [eb]; decide)]
        rw [hq] at hl
        have hv2 : ∀ j, j < i + 1 → q_pob set kk j = false := lt_s hv_i (by simp [q_pob, eb])
        exact ih_i (i + 1) (by omega) ls (lv_sub hl [0, 1, 2, 3] rfl) hv2
      · refine lv_iload_n hx hb dX4_placeOfBit_18 rfl (lv_at hl 1 rfl) ?_
        refine lv_iload_n hx hb dX4_placeOfBit_19 rfl (lv_at hl 3 rfl) ?_
        refine lv_icmp_ne (tgt := 25) hx hb dX4_placeOfBit_20 (by decide) (fun c_4 => ?_) (fun c_4 => ?_)
        · refine lv_iinc (v := nI ((cn set i) + 1)) (lv' := [(2, .int (nI ((cn set i) + 1))), (3, .int (nI i)), (0, .int set), (1, .int kk)]) hx hb dX4_placeOfBit_25 hl (k := 1) rfl (nI_add (cn set i) 1) (by decide) rfl (fun ls hl => ?_)
          refine lv_iinc (v := nI (i + 1)) (lv' := [(3, .int (nI (i + 1))), (2, .int (nI ((cn set i) + 1))), (0, .int set), (1, .int kk)]) hx hb dX4_placeOfBit_28 hl (k := 1) rfl (nI_add i 1) (by decide) rfl (fun ls hl => ?_)
          refine lv_goto (tgt := 4) hx hb dX4_placeOfBit_31 (by decide) ?_
          have eb : bt set i = true := (hb1 set (by omega)).mp c_3
          have hq : nI ((cn set i) + 1) = (nI (cn set (i + 1))) := by rw [cn, if_pos eb]
          rw [hq] at hl
          have hv2 : ∀ j, j < i + 1 → q_pob set kk j = false := lt_s hv_i (by simp [q_pob, c_4])
          exact ih_i (i + 1) (by omega) ls (lv_sub hl [0, 1, 2, 3] rfl) hv2
        · refine lv_iload_n hx hb dX4_placeOfBit_23 rfl (lv_at hl 0 rfl) ?_
          exact W.iret (v := (nI i)) hx hb hr (fun t ht hW => ⟨by rw [w_X4_placeOfBit, fnd_some (by decide) hv_i ht_i (by simp [q_pob, (hb1 set (by omega)).mp c_3, c_4])], ht⟩) (fun q h => absurd h List.not_mem_nil) dX4_placeOfBit_24
  exact loop_i 24 0 (by omega) ls (lv_sub hl [0, 1, 2, 3] rfl) (fun j h => absurd h (Nat.not_lt_zero j))

def w_X4_commonDivisor (av bv : Int64) : Int64 := if (eu av bv 100).1 = 0 then 1 else (eu av bv 100).1
theorem cd_ne0 (av bv : Int64) : ¬ w_X4_commonDivisor av bv = 0 := by
  unfold w_X4_commonDivisor
  split
  · decide
  · assumption
set_option maxHeartbeats 4000000 in
set_option maxRecDepth 100000 in
theorem c_X4_commonDivisor (l : Launch) (k : KT)  (av : Int64) (bv : Int64)  : MR l yX4_commonDivisor cX4_commonDivisor 11 (some .long) (rz 0 0) k [.long av, .long bv] [] (.long (w_X4_commonDivisor av bv)) := by
  refine Met.ofW (cc := cX4_commonDivisor) (maxL := 11) (ret := (some .long)) (by decide) rfl ?_
  intro p e s m args below meth c s₁ B hml hv
  obtain ⟨rfl, hP, hK⟩ := hv
  have hx := B.exec
  have hb := B.bytes
  have hr := B.returns
  have hU : ∀ w ∈ wsL_law, w.before [.long av, .long bv].toArray s = true := fun w h => atoms_spec (ws := Cond.code yX4_commonDivisor cX4_commonDivisor 11 (some .long) :: wsL_law) B.pre w (List.mem_cons_of_mem _ h)
  have hown : s.vm.findClass RX4 = some m.cls := findClass_of_methodNamed B.named
  have hlocks := B.notSynchronized
  have hF : CF p m c cX4_commonDivisor 11 s [.long av, .long bv].toArray RX4 := ⟨hx, hb, hml, hown, hU⟩
  have hl := lv_entry ([.long av, .long bv] : List Value) (n := 11) (Nat.le_of_ble_eq_true rfl)
  rw [lg_entry_eq]
  generalize (lg_sl ([.long av, .long bv] : List Value) ++ List.replicate (11 - (lg_sl ([.long av, .long bv] : List Value)).length) Slot.unset).toArray = ls at hl ⊢
  have hl : lv_has ls 11 [(0, .long av), (2, .long bv)] := hl
  refine lv_lload_n hx hb dX4_commonDivisor_0 rfl (lv_at hl 0 rfl) ?_
  refine lv_lstore (lv' := [(4, .long av), (0, .long av), (2, .long bv)]) hx hb dX4_commonDivisor_1 hl (by decide) rfl (fun ls hl => ?_)
  refine lv_lload_n hx hb dX4_commonDivisor_3 rfl (lv_at hl 2 rfl) ?_
  refine lv_lstore (lv' := [(6, .long bv), (4, .long av), (0, .long av), (2, .long bv)]) hx hb dX4_commonDivisor_4 hl (by decide) rfl (fun ls hl => ?_)
  refine lv_iconst (v := 0) hx hb dX4_commonDivisor_6 (by decide) ?_
  refine lv_istore (lv' := [(8, .int 0), (6, .long bv), (4, .long av), (0, .long av), (2, .long bv)]) hx hb dX4_commonDivisor_7 hl (by decide) rfl (fun ls hl => ?_)
  have loop_i : ∀ (ri i : Nat), i + ri * 1 = 100 → ∀ (ls : Array Slot) , lv_has ls 11 [(8, .int (nI i)), (6, .long ((eu av bv i).2)), (4, .long ((eu av bv i).1)), (0, .long av), (2, .long bv)] → WR p l e s m below meth c yX4_commonDivisor cX4_commonDivisor 11 (some .long) (rz 0 0) [.long av, .long bv] (.long (w_X4_commonDivisor av bv)) (F0 m 9 ls []) := by
    intro ri
    induction ri with
    | zero =>
      intro i hi_i ls hl
      have he_i : 100 = i := by omega
      subst he_i
      refine lv_iload hx hb dX4_commonDivisor_9 (lv_at hl 0 rfl) ?_
      refine lv_bipush (v := 100) hx hb dX4_commonDivisor_11 (by decide) ?_
      refine xb_ge (tgt := 44) hx hb dX4_commonDivisor_13 (by decide) (fun c_1 => ?_) (fun c9 => absurd c9 (nI_nlt (a := 100) (b := 100) (Nat.le_refl _) (by omega)))
      refine lv_lload hx hb dX4_commonDivisor_44 (lv_at hl 2 rfl) ?_
      refine lv_lconst (v := 0) hx hb dX4_commonDivisor_46 (by decide) ?_
      refine xl_ne (tgt := 55) hx hb dX4_commonDivisor_47 dX4_commonDivisor_48 (by decide) (fun c_2 => ?_) (fun c_2 => ?_)
      · refine lv_lload hx hb dX4_commonDivisor_55 (lv_at hl 2 rfl) ?_
        exact W.lret (v := ((eu av bv 100).1)) hx hb hr (fun t ht hW => ⟨by rw [w_X4_commonDivisor, if_neg c_2], ht⟩) (fun q h => absurd h List.not_mem_nil) dX4_commonDivisor_57
      · refine lv_lconst (v := 1) hx hb dX4_commonDivisor_51 (by decide) ?_
        refine lv_goto (tgt := 57) hx hb dX4_commonDivisor_52 (by decide) ?_
        exact W.lret (v := 1) hx hb hr (fun t ht hW => ⟨by rw [w_X4_commonDivisor, if_pos c_2], ht⟩) (fun q h => absurd h List.not_mem_nil) dX4_commonDivisor_57
    | succ ri ih_i =>
      intro i hi_i ls hl
      have ht_i : i < 100 := by omega
      refine lv_iload hx hb dX4_commonDivisor_9 (lv_at hl 0 rfl) ?_
      refine lv_bipush (v := 100) hx hb dX4_commonDivisor_11 (by decide) ?_
      refine xb_ge (tgt := 44) hx hb dX4_commonDivisor_13 (by decide) (fun c9 => absurd (nI_lt (a := i) (b := 100) (by omega) (by omega)) c9) (fun c_3 => ?_)
      refine lv_lload hx hb dX4_commonDivisor_16 (lv_at hl 1 rfl) ?_
      refine lv_lconst (v := 0) hx hb dX4_commonDivisor_18 (by decide) ?_
      refine xl_eq (tgt := 44) hx hb dX4_commonDivisor_19 dX4_commonDivisor_20 (by decide) (fun c_4 => ?_) (fun c_4 => ?_)
      · refine lv_lload hx hb dX4_commonDivisor_44 (lv_at hl 2 rfl) ?_
        refine lv_lconst (v := 0) hx hb dX4_commonDivisor_46 (by decide) ?_
        refine xl_ne (tgt := 55) hx hb dX4_commonDivisor_47 dX4_commonDivisor_48 (by decide) (fun c_5 => ?_) (fun c_5 => ?_)
        · refine lv_lload hx hb dX4_commonDivisor_55 (lv_at hl 2 rfl) ?_
          exact W.lret (v := ((eu av bv i).1)) hx hb hr (fun t ht hW => ⟨by rw [w_X4_commonDivisor, eu_stop c_4 (by omega : i ≤ 100), if_neg c_5], ht⟩) (fun q h => absurd h List.not_mem_nil) dX4_commonDivisor_57
        · refine lv_lconst (v := 1) hx hb dX4_commonDivisor_51 (by decide) ?_
          refine lv_goto (tgt := 57) hx hb dX4_commonDivisor_52 (by decide) ?_
          exact W.lret (v := 1) hx hb hr (fun t ht hW => ⟨by rw [w_X4_commonDivisor, eu_stop c_4 (by omega : i ≤ 100), if_pos c_5], ht⟩) (fun q h => absurd h List.not_mem_nil) dX4_commonDivisor_57
      · refine lv_lload hx hb dX4_commonDivisor_23 (lv_at hl 2 rfl) ?_
        refine lv_lload hx hb dX4_commonDivisor_25 (lv_at hl 1 rfl) ?_
        refine lv_lrem hx hb dX4_commonDivisor_27 c_4 ?_
        refine lv_lstore (lv' := [(9, .long (((eu av bv i).1) - ((eu av bv i).1) / ((eu av bv i).2) * ((eu av bv i).2))), (8, .int (nI i)), (6, .long ((eu av bv i).2)), (4, .long ((eu av bv i).1)), (0, .long av), (2, .long bv)]) hx hb dX4_commonDivisor_28 hl (by decide) rfl (fun ls hl => ?_)
        refine lv_lload hx hb dX4_commonDivisor_30 (lv_at hl 2 rfl) ?_
        refine lv_lstore (lv' := [(4, .long ((eu av bv i).2)), (9, .long (((eu av bv i).1) - ((eu av bv i).1) / ((eu av bv i).2) * ((eu av bv i).2))), (8, .int (nI i)), (6, .long ((eu av bv i).2)), (0, .long av), (2, .long bv)]) hx hb dX4_commonDivisor_32 hl (by decide) rfl (fun ls hl => ?_)
        refine lv_lload hx hb dX4_commonDivisor_34 (lv_at hl 1 rfl) ?_
        refine lv_lstore (lv' := [(6, .long (((eu av bv i).1) - ((eu av bv i).1) / ((eu av bv i).2) * ((eu av bv i).2))), (4, .long ((eu av bv i).2)), (9, .long (((eu av bv i).1) - ((eu av bv i).1) / ((eu av bv i).2) * ((eu av bv i).2))), (8, .int (nI i)), (0, .long av), (2, .long bv)]) hx hb dX4_commonDivisor_36 hl (by decide) rfl (fun ls hl => ?_)
        refine lv_iinc (v := nI (i + 1)) (lv' := [(8, .int (nI (i + 1))), (6, .long (((eu av bv i).1) - ((eu av bv i).1) / ((eu av bv i).2) * ((eu av bv i).2))), (4, .long ((eu av bv i).2)), (9, .long (((eu av bv i).1) - ((eu av bv i).1) / ((eu av bv i).2) * ((eu av bv i).2))), (0, .long av), (2, .long bv)]) hx hb dX4_commonDivisor_38 hl (k := 3) rfl (nI_add i 1) (by decide) rfl (fun ls hl => ?_)
        refine lv_goto (tgt := 9) hx hb dX4_commonDivisor_41 (by decide) ?_
        have hq2 : ((eu av bv i).1 - (eu av bv i).1 / (eu av bv i).2 * (eu av bv i).2) = (eu av bv (i + 1)).2 := by rw [eu, if_neg c_4]
        rw [hq2] at hl
        have hq1 : (eu av bv i).2 = (eu av bv (i + 1)).1 := by rw [eu, if_neg c_4]
        rw [hq1] at hl
        exact ih_i (i + 1) (by omega) ls (lv_sub hl [0, 1, 2, 4, 5] rfl)
  exact loop_i 100 0 (by omega) ls (lv_sub hl [0, 1, 2, 3, 4] rfl)

def w_X4_partOf (some_ : Int64) (all_ : Int64) (part : Int32) : Int64 := if part = 0 then if some_ = 0 then (Int32.toInt64 part) else if all_ = 0 then (Int32.toInt64 part) else if part = 0 then (some_ / (w_X4_commonDivisor some_ all_)) else (all_ / (w_X4_commonDivisor some_ all_)) else if part = 1 then if some_ = 0 then (Int32.toInt64 part) else if all_ = 0 then (Int32.toInt64 part) else if part = 0 then (some_ / (w_X4_commonDivisor some_ all_)) else (all_ / (w_X4_commonDivisor some_ all_)) else (-1)
set_option maxHeartbeats 4000000 in
set_option maxRecDepth 100000 in
theorem c_X4_partOf (l : Launch) (k : KT)  (some_ : Int64) (all_ : Int64) (part : Int32)  : MR l yX4_partOf cX4_partOf 7 (some .long) (rz 1 30) k [.long some_, .long all_, .int part] [] (.long (w_X4_partOf some_ all_ part)) := by
  refine Met.ofW (cc := cX4_partOf) (maxL := 7) (ret := (some .long)) (by decide) rfl ?_
  intro p e s m args below meth c s₁ B hml hv
  obtain ⟨rfl, hP, hK⟩ := hv
  have hx := B.exec
  have hb := B.bytes
  have hr := B.returns
  have hU : ∀ w ∈ wsL_law, w.before [.long some_, .long all_, .int part].toArray s = true := fun w h => atoms_spec (ws := Cond.code yX4_partOf cX4_partOf 7 (some .long) :: wsL_law) B.pre w (List.mem_cons_of_mem _ h)
  have hown : s.vm.findClass RX4 = some m.cls := findClass_of_methodNamed B.named
  have hlocks := B.notSynchronized
  have hF : CF p m c cX4_partOf 7 s [.long some_, .long all_, .int part].toArray RX4 := ⟨hx, hb, hml, hown, hU⟩
  have hl := lv_entry ([.long some_, .long all_, .int part] : List Value) (n := 7) (Nat.le_of_ble_eq_true rfl)
  rw [lg_entry_eq]
  generalize (lg_sl ([.long some_, .long all_, .int part] : List Value) ++ List.replicate (7 - (lg_sl ([.long some_, .long all_, .int part] : List Value)).length) Slot.unset).toArray = ls at hl ⊢
  have hl : lv_has ls 7 [(0, .long some_), (2, .long all_), (4, .int part)] := hl
  refine lv_iload hx hb dX4_partOf_0 (lv_at hl 2 rfl) ?_
  refine lv_if_eq (tgt := 15) hx hb dX4_partOf_2 (by decide) (fun c_1 => ?_) (fun c_1 => ?_)
  · refine lv_lload_n hx hb dX4_partOf_15 rfl (lv_at hl 0 rfl) ?_
    refine lv_lconst (v := 0) hx hb dX4_partOf_16 (by decide) ?_
    refine xl_eq (tgt := 27) hx hb dX4_partOf_17 dX4_partOf_18 (by decide) (fun c_2 => ?_) (fun c_2 => ?_)
    · refine lv_iload hx hb dX4_partOf_27 (lv_at hl 2 rfl) ?_
      refine lv_i2l (v := (Int32.toInt64 part)) hx hb dX4_partOf_29 rfl ?_
      exact W.lret (v := (Int32.toInt64 part)) hx hb hr (fun t ht hW => ⟨by rw [w_X4_partOf, if_pos c_1, if_pos c_2], ht⟩) (fun q h => absurd h List.not_mem_nil) dX4_partOf_30
    · refine lv_lload_n hx hb dX4_partOf_21 rfl (lv_at hl 1 rfl) ?_
      refine lv_lconst (v := 0) hx hb dX4_partOf_22 (by decide) ?_
      refine xl_ne (tgt := 31) hx hb dX4_partOf_23 dX4_partOf_24 (by decide) (fun c_3 => ?_) (fun c_3 => ?_)
      · refine lv_lload_n hx hb dX4_partOf_31 rfl (lv_at hl 0 rfl) ?_
        refine lv_lload_n hx hb dX4_partOf_32 rfl (lv_at hl 1 rfl) ?_
        refine rcS (n := 2) (As := [.long some_, .long all_]) (rest := []) hF (c_X4_commonDivisor l k  some_ all_ ) (hP.sub (ws' := []) [] rfl) hK uC_X4_commonDivisor uN_X4 uM_X4_225 uS_X4_commonDivisor (by decide +kernel) rfl ⟨Nat.le_of_ble_eq_true rfl, Nat.le_of_ble_eq_true rfl⟩ ⟨Nat.zero_le _, Nat.zero_le _⟩ hl.1 rfl (Nat.le_of_ble_eq_true rfl) dX4_partOf_33 ?_
        refine lv_lstore (lv' := [(5, .long (w_X4_commonDivisor some_ all_)), (0, .long some_), (2, .long all_), (4, .int part)]) hx hb dX4_partOf_36 hl (by decide) rfl (fun ls hl => ?_)
        refine lv_iload hx hb dX4_partOf_38 (lv_at hl 3 rfl) ?_
        refine lv_if_ne (tgt := 47) hx hb dX4_partOf_40 (by decide) (fun c_4 => ?_) (fun c_4 => ?_)
        · refine lv_lload_n hx hb dX4_partOf_47 rfl (lv_at hl 2 rfl) ?_
          refine lv_lload hx hb dX4_partOf_48 (lv_at hl 0 rfl) ?_
          refine lv_ldiv hx hb dX4_partOf_50 (cd_ne0 _ _) ?_
          exact W.lret (v := (all_ / (w_X4_commonDivisor some_ all_))) hx hb hr (fun t ht hW => ⟨by rw [w_X4_partOf, if_pos c_1, if_neg c_2, if_neg c_3, if_neg c_4], ht⟩) (fun q h => absurd h List.not_mem_nil) dX4_partOf_51
        · refine lv_lload_n hx hb dX4_partOf_43 rfl (lv_at hl 1 rfl) ?_
          refine lv_goto (tgt := 48) hx hb dX4_partOf_44 (by decide) ?_
          refine lv_lload hx hb dX4_partOf_48 (lv_at hl 0 rfl) ?_
          refine lv_ldiv hx hb dX4_partOf_50 (cd_ne0 _ _) ?_
          exact W.lret (v := (some_ / (w_X4_commonDivisor some_ all_))) hx hb hr (fun t ht hW => ⟨by rw [w_X4_partOf, if_pos c_1, if_neg c_2, if_neg c_3, if_pos c_4], ht⟩) (fun q h => absurd h List.not_mem_nil) dX4_partOf_51
      · refine lv_iload hx hb dX4_partOf_27 (lv_at hl 2 rfl) ?_
        refine lv_i2l (v := (Int32.toInt64 part)) hx hb dX4_partOf_29 rfl ?_
        exact W.lret (v := (Int32.toInt64 part)) hx hb hr (fun t ht hW => ⟨by rw [w_X4_partOf, if_pos c_1, if_neg c_2, if_pos c_3], ht⟩) (fun q h => absurd h List.not_mem_nil) dX4_partOf_30
  · refine lv_iload hx hb dX4_partOf_5 (lv_at hl 2 rfl) ?_
    refine lv_iconst (v := 1) hx hb dX4_partOf_7 (by decide) ?_
    refine lv_icmp_eq (tgt := 15) hx hb dX4_partOf_8 (by decide) (fun c_5 => ?_) (fun c_5 => ?_)
    · refine lv_lload_n hx hb dX4_partOf_15 rfl (lv_at hl 0 rfl) ?_
      refine lv_lconst (v := 0) hx hb dX4_partOf_16 (by decide) ?_
      refine xl_eq (tgt := 27) hx hb dX4_partOf_17 dX4_partOf_18 (by decide) (fun c_6 => ?_) (fun c_6 => ?_)
      · refine lv_iload hx hb dX4_partOf_27 (lv_at hl 2 rfl) ?_
        refine lv_i2l (v := (Int32.toInt64 part)) hx hb dX4_partOf_29 rfl ?_
        exact W.lret (v := (Int32.toInt64 part)) hx hb hr (fun t ht hW => ⟨by rw [w_X4_partOf, if_neg c_1, if_pos c_5, if_pos c_6], ht⟩) (fun q h => absurd h List.not_mem_nil) dX4_partOf_30
      · refine lv_lload_n hx hb dX4_partOf_21 rfl (lv_at hl 1 rfl) ?_
        refine lv_lconst (v := 0) hx hb dX4_partOf_22 (by decide) ?_
        refine xl_ne (tgt := 31) hx hb dX4_partOf_23 dX4_partOf_24 (by decide) (fun c_7 => ?_) (fun c_7 => ?_)
        · refine lv_lload_n hx hb dX4_partOf_31 rfl (lv_at hl 0 rfl) ?_
          refine lv_lload_n hx hb dX4_partOf_32 rfl (lv_at hl 1 rfl) ?_
          refine rcS (n := 2) (As := [.long some_, .long all_]) (rest := []) hF (c_X4_commonDivisor l k  some_ all_ ) (hP.sub (ws' := []) [] rfl) hK uC_X4_commonDivisor uN_X4 uM_X4_225 uS_X4_commonDivisor (by decide +kernel) rfl ⟨Nat.le_of_ble_eq_true rfl, Nat.le_of_ble_eq_true rfl⟩ ⟨Nat.zero_le _, Nat.zero_le _⟩ hl.1 rfl (Nat.le_of_ble_eq_true rfl) dX4_partOf_33 ?_
          refine lv_lstore (lv' := [(5, .long (w_X4_commonDivisor some_ all_)), (0, .long some_), (2, .long all_), (4, .int part)]) hx hb dX4_partOf_36 hl (by decide) rfl (fun ls hl => ?_)
          refine lv_iload hx hb dX4_partOf_38 (lv_at hl 3 rfl) ?_
          refine lv_if_ne (tgt := 47) hx hb dX4_partOf_40 (by decide) (fun c_8 => ?_) (fun c_8 => ?_)
          · refine lv_lload_n hx hb dX4_partOf_47 rfl (lv_at hl 2 rfl) ?_
            refine lv_lload hx hb dX4_partOf_48 (lv_at hl 0 rfl) ?_
            refine lv_ldiv hx hb dX4_partOf_50 (cd_ne0 _ _) ?_
            exact W.lret (v := (all_ / (w_X4_commonDivisor some_ all_))) hx hb hr (fun t ht hW => ⟨by rw [w_X4_partOf, if_neg c_1, if_pos c_5, if_neg c_6, if_neg c_7, if_neg c_8], ht⟩) (fun q h => absurd h List.not_mem_nil) dX4_partOf_51
          · refine lv_lload_n hx hb dX4_partOf_43 rfl (lv_at hl 1 rfl) ?_
            refine lv_goto (tgt := 48) hx hb dX4_partOf_44 (by decide) ?_
            refine lv_lload hx hb dX4_partOf_48 (lv_at hl 0 rfl) ?_
            refine lv_ldiv hx hb dX4_partOf_50 (cd_ne0 _ _) ?_
            exact W.lret (v := (some_ / (w_X4_commonDivisor some_ all_))) hx hb hr (fun t ht hW => ⟨by rw [w_X4_partOf, if_neg c_1, if_pos c_5, if_neg c_6, if_neg c_7, if_pos c_8], ht⟩) (fun q h => absurd h List.not_mem_nil) dX4_partOf_51
        · refine lv_iload hx hb dX4_partOf_27 (lv_at hl 2 rfl) ?_
          refine lv_i2l (v := (Int32.toInt64 part)) hx hb dX4_partOf_29 rfl ?_
          exact W.lret (v := (Int32.toInt64 part)) hx hb hr (fun t ht hW => ⟨by rw [w_X4_partOf, if_neg c_1, if_pos c_5, if_neg c_6, if_pos c_7], ht⟩) (fun q h => absurd h List.not_mem_nil) dX4_partOf_30
    · refine lv_ldc2 hx hb hown (hU _ uK_X4_54) dX4_partOf_11 ?_
      exact W.lret (v := (-1)) hx hb hr (fun t ht hW => ⟨by rw [w_X4_partOf, if_neg c_1, if_neg c_5], ht⟩) (fun q h => absurd h List.not_mem_nil) dX4_partOf_14

def fcl (S : SeaT) (T : TalT) : Nat → Int32
  | 0 => 0
  | i + 1 => if w_X3_meetsGoal S T i = 0 then fcl S T i ||| (1 <<< (nI i &&& 31)) else fcl S T i
set_option maxHeartbeats 4000000 in
set_option maxRecDepth 100000 in
theorem c_X4_findClashes (l : Launch) (k : KT) (a : Nat → Nat) (S : SeaT) (T : TalT) (dr : Int64) (tr : Int64) (C : ChoT) (F : (Nat → Int32)) (G : GoT)  (n : Nat) (hn : n ≤ 24) (hc : S_cells S = nI n) : MW l yX4_findClashes cX4_findClashes 3 (some .int) (rz 4 94) k [.ref (a 0)] (xW k a S T dr tr C F G) (some (.int (fcl S (bgT S T n (w_X2_openSet S) n) 8))) (xW k a S (bgT S T n (w_X2_openSet S) n) dr tr C F G) := by
  intro sz
  refine Met.ofW (cc := cX4_findClashes) (maxL := 3) (ret := (some .int)) (by decide) rfl ?_
  intro p e s m args below meth c s₁ B hml hv
  obtain ⟨rfl, hsz, hP, hK, hD0⟩ := hv
  have hx := B.exec
  have hb := B.bytes
  have hr := B.returns
  have hU : ∀ w ∈ wsL_law, w.before [.ref (a 0)].toArray s = true := fun w h => atoms_spec (ws := Cond.code yX4_findClashes cX4_findClashes 3 (some .int) :: wsL_law) B.pre w (List.mem_cons_of_mem _ h)
  have hown : s.vm.findClass RX4 = some m.cls := findClass_of_methodNamed B.named
  have hlocks := B.notSynchronized
  have hF : CF p m c cX4_findClashes 3 s [.ref (a 0)].toArray RX4 := ⟨hx, hb, hml, hown, hU⟩
  subst hsz
  have hD := hD0.self (sz := s.heap.size)
  generalize hAe : va_A (xW k a S T dr tr C F G) s.heap.size = A at hD ⊢
  have hA : ∀ q : Nat, s.heap.size ≤ q → A q := fun q h => by rw [← hAe]; exact Or.inr h
  have hS : va_S A s.heap s.heap [] := va_S.rf
  have hl := lv_entry ([.ref (a 0)] : List Value) (n := 3) (Nat.le_of_ble_eq_true rfl)
  rw [lg_entry_eq]
  generalize (lg_sl ([.ref (a 0)] : List Value) ++ List.replicate (3 - (lg_sl ([.ref (a 0)] : List Value)).length) Slot.unset).toArray = ls at hl ⊢
  have hl : lv_has ls 3 [(0, .ref (a 0))] := hl
  refine lv_aload_n hx hb dX4_findClashes_0 rfl (lv_at hl 0 rfl) ?_
  refine va_get (D := k.1) (ci := 4) (v := .ref (a 11)) (C := RX4) (T := TX4) (N := 10) hx hb hU inlX4 hown hK.1 hP 0 rfl rfl 1 (by decide) (hU _ uF_X4_21) (fun _ h9 => h9) rfl dX4_findClashes_1 ?_
  refine lv_aload_n hx hb dX4_findClashes_4 rfl (lv_at hl 0 rfl) ?_
  refine va_get (D := k.1) (ci := 4) (v := .ref (a 1)) (C := RX4) (T := TX4) (N := 10) hx hb hU inlX4 hown hK.1 hP 0 rfl rfl 0 (by decide) (hU _ uF_X4_10) (fun _ h9 => h9) rfl dX4_findClashes_5 ?_
  refine rcVN (n := 0) (As := []) (rest := [.ref (a 11)]) hF (c_X2_openSet l k a S T dr tr C F G  ) (hP) hK 1 (ci := 2) rfl rfl rfl uC_X2_openSet uN_X2 nM_X4_229 uI_X2_openSet uE_X2_openSet (by decide +kernel) rfl ⟨Nat.le_of_ble_eq_true rfl, Nat.le_of_ble_eq_true rfl⟩ ⟨Nat.zero_le _, Nat.zero_le _⟩ hl.1 rfl (Nat.le_of_ble_eq_true rfl) dX4_findClashes_8 ?_
  refine wcVN (n := 1) (As := [.int (w_X2_openSet S)]) (rest := []) hF (c_X3_begin l k a S T dr tr C F G (w_X2_openSet S) n hn hc) hP hD hS hA hK 11 (ci := 3) rfl rfl rfl uC_X3_begin uN_X3 nM_X4_160 uI_X3_begin uE_X3_begin (by decide +kernel) rfl ⟨Nat.le_of_ble_eq_true rfl, Nat.le_of_ble_eq_true rfl⟩ ⟨Nat.zero_le _, Nat.zero_le _⟩ hl.1 rfl (Nat.le_of_ble_eq_true rfl) dX4_findClashes_11 (fun H locs hP hD hS => ?_)
  have hP : va_P k.1 vwCl (xW k a S (bgT S T n (w_X2_openSet S) n) dr tr C F G) H := hP
  have hD : va_D A (xW k a S (bgT S T n (w_X2_openSet S) n) dr tr C F G) := hD
  refine lv_iconst (v := 0) hx hb dX4_findClashes_14 (by decide) ?_
  refine lv_istore_n (lv' := [(1, .int 0), (0, .ref (a 0))]) hx hb dX4_findClashes_15 rfl hl (by decide) rfl (fun ls hl => ?_)
  refine lv_iconst (v := 0) hx hb dX4_findClashes_16 (by decide) ?_
  refine lv_istore_n (lv' := [(2, .int 0), (1, .int 0), (0, .ref (a 0))]) hx hb dX4_findClashes_17 rfl hl (by decide) rfl (fun ls hl => ?_)
  have loop_i : ∀ (ri i : Nat), i + ri * 1 = 8 → ∀ (ls : Array Slot) (H : Heap) (locs : List Loc) , lv_has ls 3 [(2, .int (nI i)), (1, .int (fcl S (bgT S T n (w_X2_openSet S) n) i)), (0, .ref (a 0))] → va_P k.1 vwCl (xW k a S (bgT S T n (w_X2_openSet S) n) dr tr C F G) H → va_D A (xW k a S (bgT S T n (w_X2_openSet S) n) dr tr C F G) → va_S A s.heap H locs → WW p l e s m below meth c yX4_findClashes cX4_findClashes 3 (some .int) (rz 4 94) [.ref (a 0)] (some (.int (fcl S (bgT S T n (w_X2_openSet S) n) 8))) k (xW k a S (bgT S T n (w_X2_openSet S) n) dr tr C F G) A H locs (F0 m 18 ls []) := by
    intro ri
    induction ri with
    | zero =>
      intro i hi_i ls H locs hl hP hD hS
      have he_i : 8 = i := by omega
      subst he_i
      refine lv_iload_n hx hb dX4_findClashes_18 rfl (lv_at hl 0 rfl) ?_
      refine lv_bipush (v := 8) hx hb dX4_findClashes_19 (by decide) ?_
      refine xb_ge (tgt := 47) hx hb dX4_findClashes_21 (by decide) (fun c_1 => ?_) (fun c9 => absurd c9 (nI_nlt (a := 8) (b := 8) (Nat.le_refl _) (by omega)))
      refine lv_iload_n hx hb dX4_findClashes_47 rfl (lv_at hl 1 rfl) ?_
      have hP9 : va_P k.1 vwCl (xW k a S (bgT S T n (w_X2_openSet S) n) dr tr C F G) H := hP
      have hD9 : va_D A (xW k a S (bgT S T n (w_X2_openSet S) n) dr tr C F G) := hD
      exact W.iret (v := (fcl S (bgT S T n (w_X2_openSet S) n) 8)) hx hb hr (fun t ht hW => ⟨⟨rfl, by rw [ht]; exact hP9, hD9⟩, hS.F ht⟩) hS.2.2 dX4_findClashes_48
    | succ ri ih_i =>
      intro i hi_i ls H locs hl hP hD hS
      have ht_i : i < 8 := by omega
      refine lv_iload_n hx hb dX4_findClashes_18 rfl (lv_at hl 0 rfl) ?_
      refine lv_bipush (v := 8) hx hb dX4_findClashes_19 (by decide) ?_
      refine xb_ge (tgt := 47) hx hb dX4_findClashes_21 (by decide) (fun c9 => absurd (nI_lt (a := i) (b := 8) (by omega) (by omega)) c9) (fun c_2 => ?_)
      refine lv_aload_n hx hb dX4_findClashes_24 rfl (lv_at hl 2 rfl) ?_
      refine va_get (D := k.1) (ci := 4) (v := .ref (a 11)) (C := RX4) (T := TX4) (N := 10) hx hb hU inlX4 hown hK.1 hP 0 rfl rfl 1 (by decide) (hU _ uF_X4_21) (fun _ h9 => h9) rfl dX4_findClashes_25 ?_
      refine lv_iload_n hx hb dX4_findClashes_28 rfl (lv_at hl 0 rfl) ?_
      refine rcVN (n := 1) (As := [.int (nI i)]) (rest := []) hF (c_X3_meetsGoal l k a S (bgT S T n (w_X2_openSet S) n) dr tr C F G (nI i) i (by omega) rfl) (hP) hK 11 (ci := 3) rfl rfl rfl uC_X3_meetsGoal uN_X3 nM_X4_232 uI_X3_meetsGoal uE_X3_meetsGoal (by decide +kernel) rfl ⟨Nat.le_of_ble_eq_true rfl, Nat.le_of_ble_eq_true rfl⟩ ⟨Nat.zero_le _, Nat.zero_le _⟩ hl.1 rfl (Nat.le_of_ble_eq_true rfl) dX4_findClashes_29 ?_
      refine lv_if_ne (tgt := 41) hx hb dX4_findClashes_32 (by decide) (fun c_3 => ?_) (fun c_3 => ?_)
      · refine lv_iinc (v := nI (i + 1)) (lv' := [(2, .int (nI (i + 1))), (1, .int (fcl S (bgT S T n (w_X2_openSet S) n) i)), (0, .ref (a 0))]) hx hb dX4_findClashes_41 hl (k := 0) rfl (nI_add i 1) (by decide) rfl (fun ls hl => ?_)
        refine lv_goto (tgt := 18) hx hb dX4_findClashes_44 (by decide) ?_
        have hq : (fcl S (bgT S T n (w_X2_openSet S) n) i) = fcl S (bgT S T n (w_X2_openSet S) n) (i + 1) := by rw [fcl, if_neg c_3]
        rw [hq] at hl
        exact ih_i (i + 1) (by omega) ls _ _ (lv_sub hl [0, 1, 2] rfl) hP hD hS
      · refine lv_iload_n hx hb dX4_findClashes_35 rfl (lv_at hl 1 rfl) ?_
        refine lv_iconst (v := 1) hx hb dX4_findClashes_36 (by decide) ?_
        refine lv_iload_n hx hb dX4_findClashes_37 rfl (lv_at hl 0 rfl) ?_
        refine lv_ishl hx hb dX4_findClashes_38 ?_
        refine lv_ior hx hb dX4_findClashes_39 ?_
        refine lv_istore_n (lv' := [(1, .int ((fcl S (bgT S T n (w_X2_openSet S) n) i) ||| (1 <<< ((nI i) &&& 31)))), (2, .int (nI i)), (0, .ref (a 0))]) hx hb dX4_findClashes_40 rfl hl (by decide) rfl (fun ls hl => ?_)
        refine lv_iinc (v := nI (i + 1)) (lv' := [(2, .int (nI (i + 1))), (1, .int ((fcl S (bgT S T n (w_X2_openSet S) n) i) ||| (1 <<< ((nI i) &&& 31)))), (0, .ref (a 0))]) hx hb dX4_findClashes_41 hl (k := 1) rfl (nI_add i 1) (by decide) rfl (fun ls hl => ?_)
        refine lv_goto (tgt := 18) hx hb dX4_findClashes_44 (by decide) ?_
        have hq : ((fcl S (bgT S T n (w_X2_openSet S) n) i) ||| (1 <<< ((nI i) &&& 31))) = fcl S (bgT S T n (w_X2_openSet S) n) (i + 1) := by rw [fcl, if_pos c_3]
        rw [hq] at hl
        exact ih_i (i + 1) (by omega) ls _ _ (lv_sub hl [0, 1, 2] rfl) hP hD hS
  exact loop_i 8 0 (by omega) ls _ _ (lv_sub hl [0, 1, 2] rfl) hP hD hS

set_option maxHeartbeats 4000000 in
set_option maxRecDepth 100000 in
theorem c_X4_listFreeCells (l : Launch) (k : KT) (a : Nat → Nat) (S : SeaT) (T : TalT) (dr : Int64) (tr : Int64) (C : ChoT) (F : (Nat → Int32)) (G : GoT)  (n : Nat) (hn : n ≤ 24) (hc : S_cells S = nI n) : MW l yX4_listFreeCells cX4_listFreeCells 4 (some .int) (rz 2 40) k [.ref (a 0)] (xW k a S T dr tr C F G) (some (.int (nI (cn (w_X2_freeSet S) n)))) (xW k a S T dr tr C (lfF (w_X2_freeSet S) F n) G) := by
  intro sz
  refine Met.ofW (cc := cX4_listFreeCells) (maxL := 4) (ret := (some .int)) (by decide) rfl ?_
  intro p e s m args below meth c s₁ B hml hv
  obtain ⟨rfl, hsz, hP, hK, hD0⟩ := hv
  have hx := B.exec
  have hb := B.bytes
  have hr := B.returns
  have hU : ∀ w ∈ wsL_law, w.before [.ref (a 0)].toArray s = true := fun w h => atoms_spec (ws := Cond.code yX4_listFreeCells cX4_listFreeCells 4 (some .int) :: wsL_law) B.pre w (List.mem_cons_of_mem _ h)
  have hown : s.vm.findClass RX4 = some m.cls := findClass_of_methodNamed B.named
  have hlocks := B.notSynchronized
  have hF : CF p m c cX4_listFreeCells 4 s [.ref (a 0)].toArray RX4 := ⟨hx, hb, hml, hown, hU⟩
  subst hsz
  have hD := hD0.self (sz := s.heap.size)
  generalize hAe : va_A (xW k a S T dr tr C F G) s.heap.size = A at hD ⊢
  have hA : ∀ q : Nat, s.heap.size ≤ q → A q := fun q h => by rw [← hAe]; exact Or.inr h
  have hS : va_S A s.heap s.heap [] := va_S.rf
  have hl := lv_entry ([.ref (a 0)] : List Value) (n := 4) (Nat.le_of_ble_eq_true rfl)
  rw [lg_entry_eq]
  generalize (lg_sl ([.ref (a 0)] : List Value) ++ List.replicate (4 - (lg_sl ([.ref (a 0)] : List Value)).length) Slot.unset).toArray = ls at hl ⊢
  have hl : lv_has ls 4 [(0, .ref (a 0))] := hl
  refine lv_aload_n hx hb dX4_listFreeCells_0 rfl (lv_at hl 0 rfl) ?_
  refine va_get (D := k.1) (ci := 4) (v := .ref (a 1)) (C := RX4) (T := TX4) (N := 10) hx hb hU inlX4 hown hK.1 hP 0 rfl rfl 0 (by decide) (hU _ uF_X4_10) (fun _ h9 => h9) rfl dX4_listFreeCells_1 ?_
  refine rcVN (n := 0) (As := []) (rest := []) hF (c_X2_freeSet l k a S T dr tr C F G  ) (hP) hK 1 (ci := 2) rfl rfl rfl uC_X2_freeSet uN_X2 nM_X4_139 uI_X2_freeSet uE_X2_freeSet (by decide +kernel) rfl ⟨Nat.le_of_ble_eq_true rfl, Nat.le_of_ble_eq_true rfl⟩ ⟨Nat.zero_le _, Nat.zero_le _⟩ hl.1 rfl (Nat.le_of_ble_eq_true rfl) dX4_listFreeCells_4 ?_
  refine lv_istore_n (lv' := [(1, .int (w_X2_freeSet S)), (0, .ref (a 0))]) hx hb dX4_listFreeCells_7 rfl hl (by decide) rfl (fun ls hl => ?_)
  refine lv_iconst (v := 0) hx hb dX4_listFreeCells_8 (by decide) ?_
  refine lv_istore_n (lv' := [(2, .int 0), (1, .int (w_X2_freeSet S)), (0, .ref (a 0))]) hx hb dX4_listFreeCells_9 rfl hl (by decide) rfl (fun ls hl => ?_)
  refine lv_iconst (v := 0) hx hb dX4_listFreeCells_10 (by decide) ?_
  refine lv_istore_n (lv' := [(3, .int 0), (2, .int 0), (1, .int (w_X2_freeSet S)), (0, .ref (a 0))]) hx hb dX4_listFreeCells_11 rfl hl (by decide) rfl (fun ls hl => ?_)
  have loop_i : ∀ (ri i : Nat), i + ri * 1 = n → ∀ (ls : Array Slot) (H : Heap) (locs : List Loc) , lv_has ls 4 [(3, .int (nI i)), (2, .int (nI (cn (w_X2_freeSet S) i))), (1, .int (w_X2_freeSet S)), (0, .ref (a 0))] → va_P k.1 vwCl (xW k a S T dr tr C (lfF (w_X2_freeSet S) F i) G) H → va_D A (xW k a S T dr tr C (lfF (w_X2_freeSet S) F i) G) → va_S A s.heap H locs → WW p l e s m below meth c yX4_listFreeCells cX4_listFreeCells 4 (some .int) (rz 2 40) [.ref (a 0)] (some (.int (nI (cn (w_X2_freeSet S) n)))) k (xW k a S T dr tr C (lfF (w_X2_freeSet S) F n) G) A H locs (F0 m 12 ls []) := by
    intro ri
    induction ri with
    | zero =>
      intro i hi_i ls H locs hl hP hD hS
      have he_i : n = i := by omega
      subst he_i
      refine lv_iload_n hx hb dX4_listFreeCells_12 rfl (lv_at hl 0 rfl) ?_
      refine lv_aload_n hx hb dX4_listFreeCells_13 rfl (lv_at hl 3 rfl) ?_
      refine va_get (D := k.1) (ci := 4) (v := .ref (a 1)) (C := RX4) (T := TX4) (N := 10) hx hb hU inlX4 hown hK.1 hP 0 rfl rfl 0 (by decide) (hU _ uF_X4_10) (fun _ h9 => h9) rfl dX4_listFreeCells_14 ?_
      refine va_getN (D := k.1) (ci := 2) (v := .int (S_cells S)) (C := RX2) (T := TX2) (N := 16) hx hb hU inlX2 hown hK.1 hP 1 rfl rfl 12 (by decide) (hK.nf nF_X4_60) (fun _ h9 => h9) rfl dX4_listFreeCells_17 ?_
      refine xb_ge (tgt := 47) hx hb dX4_listFreeCells_20 (by decide) (fun c_1 => ?_) (fun c9 => absurd c9 (by rw [hc]; exact nI_nlt (a := n) (b := n) (Nat.le_refl _) (by omega)))
      refine lv_iload_n hx hb dX4_listFreeCells_47 rfl (lv_at hl 1 rfl) ?_
      have hP9 : va_P k.1 vwCl (xW k a S T dr tr C (lfF (w_X2_freeSet S) F n) G) H := hP
      have hD9 : va_D A (xW k a S T dr tr C (lfF (w_X2_freeSet S) F n) G) := hD
      exact W.iret (v := (nI (cn (w_X2_freeSet S) n))) hx hb hr (fun t ht hW => ⟨⟨rfl, by rw [ht]; exact hP9, hD9⟩, hS.F ht⟩) hS.2.2 dX4_listFreeCells_48
    | succ ri ih_i =>
      intro i hi_i ls H locs hl hP hD hS
      have ht_i : i < n := by omega
      refine lv_iload_n hx hb dX4_listFreeCells_12 rfl (lv_at hl 0 rfl) ?_
      refine lv_aload_n hx hb dX4_listFreeCells_13 rfl (lv_at hl 3 rfl) ?_
      refine va_get (D := k.1) (ci := 4) (v := .ref (a 1)) (C := RX4) (T := TX4) (N := 10) hx hb hU inlX4 hown hK.1 hP 0 rfl rfl 0 (by decide) (hU _ uF_X4_10) (fun _ h9 => h9) rfl dX4_listFreeCells_14 ?_
      refine va_getN (D := k.1) (ci := 2) (v := .int (S_cells S)) (C := RX2) (T := TX2) (N := 16) hx hb hU inlX2 hown hK.1 hP 1 rfl rfl 12 (by decide) (hK.nf nF_X4_60) (fun _ h9 => h9) rfl dX4_listFreeCells_17 ?_
      refine xb_ge (tgt := 47) hx hb dX4_listFreeCells_20 (by decide) (fun c9 => absurd (by rw [hc]; exact nI_lt (a := i) (b := n) (by omega) (by omega)) c9) (fun c_2 => ?_)
      refine lv_iload_n hx hb dX4_listFreeCells_23 rfl (lv_at hl 2 rfl) ?_
      refine lv_iload_n hx hb dX4_listFreeCells_24 rfl (lv_at hl 0 rfl) ?_
      refine rcS (n := 2) (As := [.int (w_X2_freeSet S), .int (nI i)]) (rest := []) hF (c_X4_hasBit l k (w_X2_freeSet S) (nI i)) (hP.sub (ws' := []) [] rfl) hK uC_X4_hasBit uN_X4 uM_X4_120 uS_X4_hasBit (by decide +kernel) rfl ⟨Nat.le_of_ble_eq_true rfl, Nat.le_of_ble_eq_true rfl⟩ ⟨Nat.zero_le _, Nat.zero_le _⟩ hl.1 rfl (Nat.le_of_ble_eq_true rfl) dX4_listFreeCells_25 ?_
      refine lv_if_eq (tgt := 41) hx hb dX4_listFreeCells_28 (by decide) (fun c_3 => ?_) (fun c_3 => ?_)
      · refine lv_iinc (v := nI (i + 1)) (lv' := [(3, .int (nI (i + 1))), (2, .int (nI (cn (w_X2_freeSet S) i))), (1, .int (w_X2_freeSet S)), (0, .ref (a 0))]) hx hb dX4_listFreeCells_41 hl (k := 0) rfl (nI_add i 1) (by decide) rfl (fun ls hl => ?_)
        refine lv_goto (tgt := 12) hx hb dX4_listFreeCells_44 (by decide) ?_
        have eb : bt (w_X2_freeSet S) i = false := (hb0 (w_X2_freeSet S) (by omega)).mp c_3
        have hq : (nI (cn (w_X2_freeSet S) i)) = (nI (cn (w_X2_freeSet S) (i + 1))) := by rw [cn, if_neg (by rw [eb]; decide)]
        rw [hq] at hl
        have hq3 : (lfF (w_X2_freeSet S) F i) = (lfF (w_X2_freeSet S) F (i + 1)) := by rw [lfF, if_neg (by rw [eb]; decide)]
        rw [hq3] at hP hD
        exact ih_i (i + 1) (by omega) ls _ _ (lv_sub hl [0, 1, 2, 3] rfl) hP hD hS
      · refine lv_aload_n hx hb dX4_listFreeCells_31 rfl (lv_at hl 3 rfl) ?_
        refine va_get (D := k.1) (ci := 4) (v := .ref (a 17)) (C := RX4) (T := TX4) (N := 10) hx hb hU inlX4 hown hK.1 hP 0 rfl rfl 5 (by decide) (hU _ uF_X4_46) (fun _ h9 => h9) rfl dX4_listFreeCells_32 ?_
        refine lv_iload_n hx hb dX4_listFreeCells_35 rfl (lv_at hl 1 rfl) ?_
        refine lv_iload_n hx hb dX4_listFreeCells_36 rfl (lv_at hl 0 rfl) ?_
        refine xa_iast hx hb hK.1 hP hD hS 17 0 rfl rfl (j := (cn (w_X2_freeSet S) i)) rfl (Nat.lt_of_le_of_lt (cn_le (w_X2_freeSet S) i) (by omega)) (by decide) dX4_listFreeCells_37 (fun H locs hP hD hS => ?_)
        have hP := pz_x_17 k a S T dr tr C (lfF (w_X2_freeSet S) F i) G (upd (lfF (w_X2_freeSet S) F i) (cn (w_X2_freeSet S) i) (nI i)) hP
        have hD := dz_x_17 k a S T dr tr C (lfF (w_X2_freeSet S) F i) G (upd (lfF (w_X2_freeSet S) F i) (cn (w_X2_freeSet S) i) (nI i)) hD
        refine lv_iinc (v := nI ((cn (w_X2_freeSet S) i) + 1)) (lv' := [(2, .int (nI ((cn (w_X2_freeSet S) i) + 1))), (3, .int (nI i)), (1, .int (w_X2_freeSet S)), (0, .ref (a 0))]) hx hb dX4_listFreeCells_38 hl (k := 1) rfl (nI_add (cn (w_X2_freeSet S) i) 1) (by decide) rfl (fun ls hl => ?_)
        refine lv_iinc (v := nI (i + 1)) (lv' := [(3, .int (nI (i + 1))), (2, .int (nI ((cn (w_X2_freeSet S) i) + 1))), (1, .int (w_X2_freeSet S)), (0, .ref (a 0))]) hx hb dX4_listFreeCells_41 hl (k := 1) rfl (nI_add i 1) (by decide) rfl (fun ls hl => ?_)
        refine lv_goto (tgt := 12) hx hb dX4_listFreeCells_44 (by decide) ?_
        have eb : bt (w_X2_freeSet S) i = true := (hb1 (w_X2_freeSet S) (by omega)).mp c_3
        have hq : nI ((cn (w_X2_freeSet S) i) + 1) = (nI (cn (w_X2_freeSet S) (i + 1))) := by rw [cn, if_pos eb]
        rw [hq] at hl
        have hq3 : (upd (lfF (w_X2_freeSet S) F i) (cn (w_X2_freeSet S) i) (nI i)) = (lfF (w_X2_freeSet S) F (i + 1)) := by rw [lfF, if_pos eb]
        rw [hq3] at hP hD
        exact ih_i (i + 1) (by omega) ls _ _ (lv_sub hl [0, 1, 2, 3] rfl) hP hD hS
  exact loop_i n 0 (by omega) ls _ _ (lv_sub hl [0, 1, 2, 3] rfl) hP hD hS

def w_X4_considerTally_C (S : SeaT) (T : TalT) (C : ChoT) : ChoT := if (w_X0_isBeatenBy C (T_cells T) (w_X3_price S T)) = 0 then C else if (w_X3_stands S T) = 0 then C else (w_X0_take_C C (T_cells T) (w_X3_price S T))
set_option maxHeartbeats 4000000 in
set_option maxRecDepth 100000 in
theorem c_X4_considerTally (l : Launch) (k : KT) (a : Nat → Nat) (S : SeaT) (T : TalT) (dr : Int64) (tr : Int64) (C : ChoT) (F : (Nat → Int32)) (G : GoT)   : MW l yX4_considerTally cX4_considerTally 3 none (rz 3 62) k [.ref (a 0)] (xW k a S T dr tr C F G) none (xW k a S T dr tr (w_X4_considerTally_C S T C) F G) := by
  intro sz
  refine Met.ofW (cc := cX4_considerTally) (maxL := 3) (ret := none) (by decide) rfl ?_
  intro p e s m args below meth c s₁ B hml hv
  obtain ⟨rfl, hsz, hP, hK, hD0⟩ := hv
  have hx := B.exec
  have hb := B.bytes
  have hr := B.returns
  have hU : ∀ w ∈ wsL_law, w.before [.ref (a 0)].toArray s = true := fun w h => atoms_spec (ws := Cond.code yX4_considerTally cX4_considerTally 3 none :: wsL_law) B.pre w (List.mem_cons_of_mem _ h)
  have hown : s.vm.findClass RX4 = some m.cls := findClass_of_methodNamed B.named
  have hlocks := B.notSynchronized
  have hF : CF p m c cX4_considerTally 3 s [.ref (a 0)].toArray RX4 := ⟨hx, hb, hml, hown, hU⟩
  subst hsz
  have hD := hD0.self (sz := s.heap.size)
  generalize hAe : va_A (xW k a S T dr tr C F G) s.heap.size = A at hD ⊢
  have hA : ∀ q : Nat, s.heap.size ≤ q → A q := fun q h => by rw [← hAe]; exact Or.inr h
  have hS : va_S A s.heap s.heap [] := va_S.rf
  have hl := lv_entry ([.ref (a 0)] : List Value) (n := 3) (Nat.le_of_ble_eq_true rfl)
  rw [lg_entry_eq]
  generalize (lg_sl ([.ref (a 0)] : List Value) ++ List.replicate (3 - (lg_sl ([.ref (a 0)] : List Value)).length) Slot.unset).toArray = ls at hl ⊢
  have hl : lv_has ls 3 [(0, .ref (a 0))] := hl
  refine lv_aload_n hx hb dX4_considerTally_0 rfl (lv_at hl 0 rfl) ?_
  refine va_get (D := k.1) (ci := 4) (v := .ref (a 11)) (C := RX4) (T := TX4) (N := 10) hx hb hU inlX4 hown hK.1 hP 0 rfl rfl 1 (by decide) (hU _ uF_X4_21) (fun _ h9 => h9) rfl dX4_considerTally_1 ?_
  refine rcVN (n := 0) (As := []) (rest := []) hF (c_X3_price l k a S T dr tr C F G  ) (hP) hK 11 (ci := 3) rfl rfl rfl uC_X3_price uN_X3 nM_X4_181 uI_X3_price uE_X3_price (by decide +kernel) rfl ⟨Nat.le_of_ble_eq_true rfl, Nat.le_of_ble_eq_true rfl⟩ ⟨Nat.zero_le _, Nat.zero_le _⟩ hl.1 rfl (Nat.le_of_ble_eq_true rfl) dX4_considerTally_4 ?_
  refine lv_lstore_n (lv' := [(1, .long (w_X3_price S T)), (0, .ref (a 0))]) hx hb dX4_considerTally_7 rfl hl (by decide) rfl (fun ls hl => ?_)
  refine lv_aload_n hx hb dX4_considerTally_8 rfl (lv_at hl 1 rfl) ?_
  refine va_get (D := k.1) (ci := 4) (v := .ref (a 16)) (C := RX4) (T := TX4) (N := 10) hx hb hU inlX4 hown hK.1 hP 0 rfl rfl 4 (by decide) (hU _ uF_X4_42) (fun _ h9 => h9) rfl dX4_considerTally_9 ?_
  refine lv_aload_n hx hb dX4_considerTally_12 rfl (lv_at hl 1 rfl) ?_
  refine va_get (D := k.1) (ci := 4) (v := .ref (a 11)) (C := RX4) (T := TX4) (N := 10) hx hb hU inlX4 hown hK.1 hP 0 rfl rfl 1 (by decide) (hU _ uF_X4_21) (fun _ h9 => h9) rfl dX4_considerTally_13 ?_
  refine va_getN (D := k.1) (ci := 3) (v := .int (T_cells T)) (C := RX3) (T := TX3) (N := 7) hx hb hU inlX3 hown hK.1 hP 11 rfl rfl 3 (by decide) (hK.nf nF_X4_180) (fun _ h9 => h9) rfl dX4_considerTally_16 ?_
  refine lv_lload_n hx hb dX4_considerTally_19 rfl (lv_at hl 0 rfl) ?_
  refine rcVN (n := 2) (As := [.int (T_cells T), .long (w_X3_price S T)]) (rest := []) hF (c_X0_isBeatenBy l k a S T dr tr C F G (T_cells T) (w_X3_price S T) ) (hP) hK 16 (ci := 0) rfl rfl rfl uC_X0_isBeatenBy uN_X0 nM_X4_244 uI_X0_isBeatenBy uE_X0_isBeatenBy (by decide +kernel) rfl ⟨Nat.le_of_ble_eq_true rfl, Nat.le_of_ble_eq_true rfl⟩ ⟨Nat.zero_le _, Nat.zero_le _⟩ hl.1 rfl (Nat.le_of_ble_eq_true rfl) dX4_considerTally_20 ?_
  refine lv_if_eq (tgt := 51) hx hb dX4_considerTally_23 (by decide) (fun c_1 => ?_) (fun c_1 => ?_)
  · have hP9 : va_P k.1 vwCl (xW k a S T dr tr (w_X4_considerTally_C S T C) F G) s.heap := by rw [w_X4_considerTally_C, if_pos c_1]; exact hP
    have hD9 : va_D A (xW k a S T dr tr (w_X4_considerTally_C S T C) F G) := by rw [w_X4_considerTally_C, if_pos c_1]; exact hD
    exact W.vret hx hb hr (fun t ht hW => ⟨⟨rfl, by rw [ht]; exact hP9, hD9⟩, hS.F ht⟩) hS.2.2 dX4_considerTally_51
  · refine lv_aload_n hx hb dX4_considerTally_26 rfl (lv_at hl 1 rfl) ?_
    refine va_get (D := k.1) (ci := 4) (v := .ref (a 11)) (C := RX4) (T := TX4) (N := 10) hx hb hU inlX4 hown hK.1 hP 0 rfl rfl 1 (by decide) (hU _ uF_X4_21) (fun _ h9 => h9) rfl dX4_considerTally_27 ?_
    refine rcVN (n := 0) (As := []) (rest := []) hF (c_X3_stands l k a S T dr tr C F G  ) (hP) hK 11 (ci := 3) rfl rfl rfl uC_X3_stands uN_X3 nM_X4_248 uI_X3_stands uE_X3_stands (by decide +kernel) rfl ⟨Nat.le_of_ble_eq_true rfl, Nat.le_of_ble_eq_true rfl⟩ ⟨Nat.zero_le _, Nat.zero_le _⟩ hl.1 rfl (Nat.le_of_ble_eq_true rfl) dX4_considerTally_30 ?_
    refine lv_if_eq (tgt := 51) hx hb dX4_considerTally_33 (by decide) (fun c_2 => ?_) (fun c_2 => ?_)
    · have hP9 : va_P k.1 vwCl (xW k a S T dr tr (w_X4_considerTally_C S T C) F G) s.heap := by rw [w_X4_considerTally_C, if_neg c_1, if_pos c_2]; exact hP
      have hD9 : va_D A (xW k a S T dr tr (w_X4_considerTally_C S T C) F G) := by rw [w_X4_considerTally_C, if_neg c_1, if_pos c_2]; exact hD
      exact W.vret hx hb hr (fun t ht hW => ⟨⟨rfl, by rw [ht]; exact hP9, hD9⟩, hS.F ht⟩) hS.2.2 dX4_considerTally_51
    · refine lv_aload_n hx hb dX4_considerTally_36 rfl (lv_at hl 1 rfl) ?_
      refine va_get (D := k.1) (ci := 4) (v := .ref (a 16)) (C := RX4) (T := TX4) (N := 10) hx hb hU inlX4 hown hK.1 hP 0 rfl rfl 4 (by decide) (hU _ uF_X4_42) (fun _ h9 => h9) rfl dX4_considerTally_37 ?_
      refine lv_aload_n hx hb dX4_considerTally_40 rfl (lv_at hl 1 rfl) ?_
      refine va_get (D := k.1) (ci := 4) (v := .ref (a 11)) (C := RX4) (T := TX4) (N := 10) hx hb hU inlX4 hown hK.1 hP 0 rfl rfl 1 (by decide) (hU _ uF_X4_21) (fun _ h9 => h9) rfl dX4_considerTally_41 ?_
      refine va_getN (D := k.1) (ci := 3) (v := .int (T_cells T)) (C := RX3) (T := TX3) (N := 7) hx hb hU inlX3 hown hK.1 hP 11 rfl rfl 3 (by decide) (hK.nf nF_X4_180) (fun _ h9 => h9) rfl dX4_considerTally_44 ?_
      refine lv_lload_n hx hb dX4_considerTally_47 rfl (lv_at hl 0 rfl) ?_
      refine wcVN (n := 2) (As := [.int (T_cells T), .long (w_X3_price S T)]) (rest := []) hF (c_X0_take l k a S T dr tr C F G (T_cells T) (w_X3_price S T) ) hP hD hS hA hK 16 (ci := 0) rfl rfl rfl uC_X0_take uN_X0 nM_X4_184 uI_X0_take uE_X0_take (by decide +kernel) rfl ⟨Nat.le_of_ble_eq_true rfl, Nat.le_of_ble_eq_true rfl⟩ ⟨Nat.zero_le _, Nat.zero_le _⟩ hl.1 rfl (Nat.le_of_ble_eq_true rfl) dX4_considerTally_48 (fun H locs hP hD hS => ?_)
      have hP : va_P k.1 vwCl (xW k a S T dr tr (w_X0_take_C C (T_cells T) (w_X3_price S T)) F G) H := hP
      have hD : va_D A (xW k a S T dr tr (w_X0_take_C C (T_cells T) (w_X3_price S T)) F G) := hD
      have hP9 : va_P k.1 vwCl (xW k a S T dr tr (w_X4_considerTally_C S T C) F G) H := by rw [w_X4_considerTally_C, if_neg c_1, if_neg c_2]; exact hP
      have hD9 : va_D A (xW k a S T dr tr (w_X4_considerTally_C S T C) F G) := by rw [w_X4_considerTally_C, if_neg c_1, if_neg c_2]; exact hD
      exact W.vret hx hb hr (fun t ht hW => ⟨⟨rfl, by rw [ht]; exact hP9, hD9⟩, hS.F ht⟩) hS.2.2 dX4_considerTally_51
