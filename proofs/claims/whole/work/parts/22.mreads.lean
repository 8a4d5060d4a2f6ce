def w_X5_part (av bv : Int64) (part : Int32) : Int64 := if av = 0 then (Int32.toInt64 part) else if part = 0 then av / (eu av bv 100).1 else bv / (eu av bv 100).1
set_option maxHeartbeats 4000000 in
set_option maxRecDepth 100000 in
theorem c_X5_part (l : Launch) (k : KT)  (av : Int64) (bv : Int64) (part : Int32) (hE : ¬ av = 0 → (eu av bv 100).2 = 0) (hD : ¬ av = 0 → ¬ (eu av bv 100).1 = 0) : MR l yX5_part cX5_part 11 (some .long) (rz 0 0) k [.long av, .long bv, .int part] [] (.long (w_X5_part av bv part)) := by
  refine Met.ofW (cc := cX5_part) (maxL := 11) (ret := (some .long)) (by decide) rfl ?_
  intro p e s m args below meth c s₁ B hml hv
  obtain ⟨rfl, hP, hK⟩ := hv
  have hx := B.exec
  have hb := B.bytes
  have hr := B.returns
  have hU : ∀ w ∈ wsL_law, w.before [.long av, .long bv, .int part].toArray s = true := fun w h => atoms_spec (ws := Cond.code yX5_part cX5_part 11 (some .long) :: wsL_law) B.pre w (List.mem_cons_of_mem _ h)
  have hown : s.vm.findClass RX5 = some m.cls := findClass_of_methodNamed B.named
  have hlocks := B.notSynchronized
  have hF : CF p m c cX5_part 11 s [.long av, .long bv, .int part].toArray RX5 := ⟨hx, hb, hml, hown, hU⟩
  have hl := lv_entry ([.long av, .long bv, .int part] : List Value) (n := 11) (Nat.le_of_ble_eq_true rfl)
  rw [lg_entry_eq]
  generalize (lg_sl ([.long av, .long bv, .int part] : List Value) ++ List.replicate (11 - (lg_sl ([.long av, .long bv, .int part] : List Value)).length) Slot.unset).toArray = ls at hl ⊢
  have hl : lv_has ls 11 [(0, .long av), (2, .long bv), (4, .int part)] := hl
  refine lv_lload_n hx hb dX5_part_0 rfl (lv_at hl 0 rfl) ?_
  refine lv_lconst (v := 0) hx hb dX5_part_1 (by decide) ?_
  refine xl_ne (tgt := 10) hx hb dX5_part_2 dX5_part_3 (by decide) (fun c_1 => ?_) (fun c_1 => ?_)
  · refine lv_lload_n hx hb dX5_part_10 rfl (lv_at hl 0 rfl) ?_
    refine lv_lstore (lv' := [(5, .long av), (0, .long av), (2, .long bv), (4, .int part)]) hx hb dX5_part_11 hl (by decide) rfl (fun ls hl => ?_)
    refine lv_lload_n hx hb dX5_part_13 rfl (lv_at hl 2 rfl) ?_
    refine lv_lstore (lv' := [(7, .long bv), (5, .long av), (0, .long av), (2, .long bv), (4, .int part)]) hx hb dX5_part_14 hl (by decide) rfl (fun ls hl => ?_)
    have loop_i : ∀ (ri i : Nat), i + ri * 1 = 100 → ∀ (ls : Array Slot) , lv_has ls 11 [(7, .long ((eu av bv i).2)), (5, .long ((eu av bv i).1)), (0, .long av), (2, .long bv), (4, .int part)] → WR p l e s m below meth c yX5_part cX5_part 11 (some .long) (rz 0 0) [.long av, .long bv, .int part] (.long (w_X5_part av bv part)) (F0 m 16 ls []) := by
      intro ri
      induction ri with
      | zero =>
        intro i hi_i ls hl
        have he_i : 100 = i := by omega
        subst he_i
        refine lv_lload hx hb dX5_part_16 (lv_at hl 0 rfl) ?_
        refine lv_lconst (v := 0) hx hb dX5_part_18 (by decide) ?_
        refine xl_eq (tgt := 41) hx hb dX5_part_19 dX5_part_20 (by decide) (fun c_2 => ?_) (fun c9 => absurd (hE c_1) c9)
        refine lv_iload hx hb dX5_part_41 (lv_at hl 4 rfl) ?_
        refine lv_if_ne (tgt := 53) hx hb dX5_part_43 (by decide) (fun c_3 => ?_) (fun c_3 => ?_)
        · refine lv_lload_n hx hb dX5_part_53 rfl (lv_at hl 3 rfl) ?_
          refine lv_lload hx hb dX5_part_54 (lv_at hl 1 rfl) ?_
          refine lv_ldiv hx hb dX5_part_56 (hD c_1) ?_
          exact W.lret (v := (bv / ((eu av bv 100).1))) hx hb hr (fun t ht hW => ⟨by rw [w_X5_part, if_neg c_1, if_neg c_3], ht⟩) (fun q h => absurd h List.not_mem_nil) dX5_part_57
        · refine lv_lload_n hx hb dX5_part_46 rfl (lv_at hl 2 rfl) ?_
          refine lv_lload hx hb dX5_part_47 (lv_at hl 1 rfl) ?_
          refine lv_ldiv hx hb dX5_part_49 (hD c_1) ?_
          refine lv_goto (tgt := 57) hx hb dX5_part_50 (by decide) ?_
          exact W.lret (v := (av / ((eu av bv 100).1))) hx hb hr (fun t ht hW => ⟨by rw [w_X5_part, if_neg c_1, if_pos c_3], ht⟩) (fun q h => absurd h List.not_mem_nil) dX5_part_57
      | succ ri ih_i =>
        intro i hi_i ls hl
        have ht_i : i < 100 := by omega
        refine lv_lload hx hb dX5_part_16 (lv_at hl 0 rfl) ?_
        refine lv_lconst (v := 0) hx hb dX5_part_18 (by decide) ?_
        refine xl_eq (tgt := 41) hx hb dX5_part_19 dX5_part_20 (by decide) (fun c_4 => ?_) (fun c_4 => ?_)
        · refine lv_iload hx hb dX5_part_41 (lv_at hl 4 rfl) ?_
          refine lv_if_ne (tgt := 53) hx hb dX5_part_43 (by decide) (fun c_5 => ?_) (fun c_5 => ?_)
          · refine lv_lload_n hx hb dX5_part_53 rfl (lv_at hl 3 rfl) ?_
            refine lv_lload hx hb dX5_part_54 (lv_at hl 1 rfl) ?_
            refine lv_ldiv hx hb dX5_part_56 (by rw [← eu_stop c_4 (by omega : i ≤ 100)]; exact hD c_1) ?_
            exact W.lret (v := (bv / ((eu av bv i).1))) hx hb hr (fun t ht hW => ⟨by rw [w_X5_part, if_neg c_1, if_neg c_5, eu_stop c_4 (by omega : i ≤ 100)], ht⟩) (fun q h => absurd h List.not_mem_nil) dX5_part_57
          · refine lv_lload_n hx hb dX5_part_46 rfl (lv_at hl 2 rfl) ?_
            refine lv_lload hx hb dX5_part_47 (lv_at hl 1 rfl) ?_
            refine lv_ldiv hx hb dX5_part_49 (by rw [← eu_stop c_4 (by omega : i ≤ 100)]; exact hD c_1) ?_
            refine lv_goto (tgt := 57) hx hb dX5_part_50 (by decide) ?_
            exact W.lret (v := (av / ((eu av bv i).1))) hx hb hr (fun t ht hW => ⟨by rw [w_X5_part, if_neg c_1, if_pos c_5, eu_stop c_4 (by omega : i ≤ 100)], ht⟩) (fun q h => absurd h List.not_mem_nil) dX5_part_57
        · refine lv_lload hx hb dX5_part_23 (lv_at hl 1 rfl) ?_
          refine lv_lload hx hb dX5_part_25 (lv_at hl 0 rfl) ?_
          refine lv_lrem hx hb dX5_part_27 c_4 ?_
          refine lv_lstore (lv' := [(9, .long (((eu av bv i).1) - ((eu av bv i).1) / ((eu av bv i).2) * ((eu av bv i).2))), (7, .long ((eu av bv i).2)), (5, .long ((eu av bv i).1)), (0, .long av), (2, .long bv), (4, .int part)]) hx hb dX5_part_28 hl (by decide) rfl (fun ls hl => ?_)
          refine lv_lload hx hb dX5_part_30 (lv_at hl 1 rfl) ?_
          refine lv_lstore (lv' := [(5, .long ((eu av bv i).2)), (9, .long (((eu av bv i).1) - ((eu av bv i).1) / ((eu av bv i).2) * ((eu av bv i).2))), (7, .long ((eu av bv i).2)), (0, .long av), (2, .long bv), (4, .int part)]) hx hb dX5_part_32 hl (by decide) rfl (fun ls hl => ?_)
          refine lv_lload hx hb dX5_part_34 (lv_at hl 1 rfl) ?_
          refine lv_lstore (lv' := [(7, .long (((eu av bv i).1) - ((eu av bv i).1) / ((eu av bv i).2) * ((eu av bv i).2))), (5, .long ((eu av bv i).2)), (9, .long (((eu av bv i).1) - ((eu av bv i).1) / ((eu av bv i).2) * ((eu av bv i).2))), (0, .long av), (2, .long bv), (4, .int part)]) hx hb dX5_part_36 hl (by decide) rfl (fun ls hl => ?_)
          refine lv_goto (tgt := 16) hx hb dX5_part_38 (by decide) ?_
          have hq2 : ((eu av bv i).1 - (eu av bv i).1 / (eu av bv i).2 * (eu av bv i).2) = (eu av bv (i + 1)).2 := by rw [eu, if_neg c_4]
          rw [hq2] at hl
          have hq1 : (eu av bv i).2 = (eu av bv (i + 1)).1 := by rw [eu, if_neg c_4]
          rw [hq1] at hl
          exact ih_i (i + 1) (by omega) ls (lv_sub hl [0, 1, 3, 4, 5] rfl)
    exact loop_i 100 0 (by omega) ls (lv_sub hl [0, 1, 2, 3, 4] rfl)
  · refine lv_iload hx hb dX5_part_6 (lv_at hl 2 rfl) ?_
    refine lv_i2l (v := (Int32.toInt64 part)) hx hb dX5_part_8 rfl ?_
    exact W.lret (v := (Int32.toInt64 part)) hx hb hr (fun t ht hW => ⟨by rw [w_X5_part, if_pos c_1], ht⟩) (fun q h => absurd h List.not_mem_nil) dX5_part_9

def w_X5_met (M : ModT) (ki : Int32) (part : Int32) (n : Nat) : Int64 := if (w_X5_isKind ki) = 0 then (-1) else if (M_hasChoice M) = 0 then (-1) else if part < 0 then (-1) else if 1 < part then (-1) else (w_X5_part (sm (f_am M (tn ki) (M_choice M)) n) (sm (f_am M (tn ki) (w_X5_all M)) n) part)
set_option maxHeartbeats 4000000 in
set_option maxRecDepth 100000 in
theorem c_X5_met (l : Launch) (k : KT) (a : Nat → Nat) (M : ModT) (ki : Int32) (part : Int32) (n : Nat) (hn : n ≤ 24) (hc : M_cells M = nI n) (hE : ¬ w_X5_isKind ki = 0 → ¬ sm (f_am M (tn ki) (M_choice M)) n = 0 → (eu (sm (f_am M (tn ki) (M_choice M)) n) (sm (f_am M (tn ki) (w_X5_all M)) n) 100).2 = 0 ∧ ¬ (eu (sm (f_am M (tn ki) (M_choice M)) n) (sm (f_am M (tn ki) (w_X5_all M)) n) 100).1 = 0) : MR l yX5_met cX5_met 3 (some .long) (rz 2 46) k [.ref (a 0), .int ki, .int part] (mW k a M) (.long (w_X5_met M ki part n)) := by
  refine Met.ofW (cc := cX5_met) (maxL := 3) (ret := (some .long)) (by decide) rfl ?_
  intro p e s m args below meth c s₁ B hml hv
  obtain ⟨rfl, hP, hK⟩ := hv
  have hx := B.exec
  have hb := B.bytes
  have hr := B.returns
  have hU : ∀ w ∈ wsL_law, w.before [.ref (a 0), .int ki, .int part].toArray s = true := fun w h => atoms_spec (ws := Cond.code yX5_met cX5_met 3 (some .long) :: wsL_law) B.pre w (List.mem_cons_of_mem _ h)
  have hown : s.vm.findClass RX5 = some m.cls := findClass_of_methodNamed B.named
  have hlocks := B.notSynchronized
  have hF : CF p m c cX5_met 3 s [.ref (a 0), .int ki, .int part].toArray RX5 := ⟨hx, hb, hml, hown, hU⟩
  have hl := lv_entry ([.ref (a 0), .int ki, .int part] : List Value) (n := 3) (Nat.le_of_ble_eq_true rfl)
  rw [lg_entry_eq]
  generalize (lg_sl ([.ref (a 0), .int ki, .int part] : List Value) ++ List.replicate (3 - (lg_sl ([.ref (a 0), .int ki, .int part] : List Value)).length) Slot.unset).toArray = ls at hl ⊢
  have hl : lv_has ls 3 [(0, .ref (a 0)), (1, .int ki), (2, .int part)] := hl
  refine lv_iload_n hx hb dX5_met_0 rfl (lv_at hl 1 rfl) ?_
  refine rcS (n := 1) (As := [.int ki]) (rest := []) hF (c_X5_isKind l k  ki ) (hP.sub (ws' := []) [] rfl) hK uC_X5_isKind uN_X5 uM_X5_61 uS_X5_isKind (by decide +kernel) rfl ⟨Nat.le_of_ble_eq_true rfl, Nat.le_of_ble_eq_true rfl⟩ ⟨Nat.zero_le _, Nat.zero_le _⟩ hl.1 rfl (Nat.le_of_ble_eq_true rfl) dX5_met_1 ?_
  refine lv_if_eq (tgt := 23) hx hb dX5_met_4 (by decide) (fun c_1 => ?_) (fun c_1 => ?_)
  · refine lv_ldc2 hx hb hown (hU _ uK_X5_161) dX5_met_23 ?_
    refine lv_goto (tgt := 51) hx hb dX5_met_26 (by decide) ?_
    exact W.lret (v := (-1)) hx hb hr (fun t ht hW => ⟨by rw [w_X5_met, if_pos c_1], ht⟩) (fun q h => absurd h List.not_mem_nil) dX5_met_51
  · refine lv_aload_n hx hb dX5_met_7 rfl (lv_at hl 0 rfl) ?_
    refine va_get (D := k.1) (ci := 5) (v := .int (M_hasChoice M)) (C := RX5) (T := TX5) (N := 27) hx hb hU inlX5 hown hK.1 hP 0 rfl rfl 16 (by decide) (hU _ uF_X5_121) (fun _ h9 => h9) rfl dX5_met_8 ?_
    refine lv_if_eq (tgt := 23) hx hb dX5_met_11 (by decide) (fun c_2 => ?_) (fun c_2 => ?_)
    · refine lv_ldc2 hx hb hown (hU _ uK_X5_161) dX5_met_23 ?_
      refine lv_goto (tgt := 51) hx hb dX5_met_26 (by decide) ?_
      exact W.lret (v := (-1)) hx hb hr (fun t ht hW => ⟨by rw [w_X5_met, if_neg c_1, if_pos c_2], ht⟩) (fun q h => absurd h List.not_mem_nil) dX5_met_51
    · refine lv_iload_n hx hb dX5_met_14 rfl (lv_at hl 2 rfl) ?_
      refine lv_if_lt (tgt := 23) hx hb dX5_met_15 (by decide) (fun c_3 => ?_) (fun c_3 => ?_)
      · refine lv_ldc2 hx hb hown (hU _ uK_X5_161) dX5_met_23 ?_
        refine lv_goto (tgt := 51) hx hb dX5_met_26 (by decide) ?_
        exact W.lret (v := (-1)) hx hb hr (fun t ht hW => ⟨by rw [w_X5_met, if_neg c_1, if_neg c_2, if_pos c_3], ht⟩) (fun q h => absurd h List.not_mem_nil) dX5_met_51
      · refine lv_iload_n hx hb dX5_met_18 rfl (lv_at hl 2 rfl) ?_
        refine lv_iconst (v := 1) hx hb dX5_met_19 (by decide) ?_
        refine xb_le (tgt := 29) hx hb dX5_met_20 (by decide) (fun c_4 => ?_) (fun c_4 => ?_)
        · refine lv_aload_n hx hb dX5_met_29 rfl (lv_at hl 0 rfl) ?_
          refine lv_iload_n hx hb dX5_met_30 rfl (lv_at hl 1 rfl) ?_
          refine lv_aload_n hx hb dX5_met_31 rfl (lv_at hl 0 rfl) ?_
          refine va_get (D := k.1) (ci := 5) (v := .int (M_choice M)) (C := RX5) (T := TX5) (N := 27) hx hb hU inlX5 hown hK.1 hP 0 rfl rfl 17 (by decide) (hU _ uF_X5_124) (fun _ h9 => h9) rfl dX5_met_32 ?_
          refine rcV (n := 2) (As := [.int ki, .int (M_choice M)]) (rest := []) hF (c_X5_amount l k a M ki (M_choice M) n hn hc (tn ki) (mkJ c_1).1 (mkJ c_1).2) (hP) hK 0 (ci := 5) rfl rfl rfl uC_X5_amount uN_X5 uM_X5_99 uI_X5_amount uE_X5_amount (by decide +kernel) rfl ⟨Nat.le_of_ble_eq_true rfl, Nat.le_of_ble_eq_true rfl⟩ ⟨Nat.zero_le _, Nat.zero_le _⟩ hl.1 rfl (Nat.le_of_ble_eq_true rfl) dX5_met_35 ?_
          refine lv_aload_n hx hb dX5_met_38 rfl (lv_at hl 0 rfl) ?_
          refine lv_iload_n hx hb dX5_met_39 rfl (lv_at hl 1 rfl) ?_
          refine lv_aload_n hx hb dX5_met_40 rfl (lv_at hl 0 rfl) ?_
          refine rcV (n := 0) (As := []) (rest := [.int ki, .ref (a 0), .long (sm (f_am M (tn ki) (M_choice M)) n)]) hF (c_X5_all l k a M  ) (hP) hK 0 (ci := 5) rfl rfl rfl uC_X5_all uN_X5 uM_X5_103 uI_X5_all uE_X5_all (by decide +kernel) rfl ⟨Nat.le_of_ble_eq_true rfl, Nat.le_of_ble_eq_true rfl⟩ ⟨Nat.zero_le _, Nat.zero_le _⟩ hl.1 rfl (Nat.le_of_ble_eq_true rfl) dX5_met_41 ?_
          refine rcV (n := 2) (As := [.int ki, .int (w_X5_all M)]) (rest := [.long (sm (f_am M (tn ki) (M_choice M)) n)]) hF (c_X5_amount l k a M ki (w_X5_all M) n hn hc (tn ki) (mkJ c_1).1 (mkJ c_1).2) (hP) hK 0 (ci := 5) rfl rfl rfl uC_X5_amount uN_X5 uM_X5_99 uI_X5_amount uE_X5_amount (by decide +kernel) rfl ⟨Nat.le_of_ble_eq_true rfl, Nat.le_of_ble_eq_true rfl⟩ ⟨Nat.zero_le _, Nat.zero_le _⟩ hl.1 rfl (Nat.le_of_ble_eq_true rfl) dX5_met_44 ?_
          refine lv_iload_n hx hb dX5_met_47 rfl (lv_at hl 2 rfl) ?_
          refine rcS (n := 3) (As := [.long (sm (f_am M (tn ki) (M_choice M)) n), .long (sm (f_am M (tn ki) (w_X5_all M)) n), .int part]) (rest := []) hF (c_X5_part l k  (sm (f_am M (tn ki) (M_choice M)) n) (sm (f_am M (tn ki) (w_X5_all M)) n) part (fun h => (hE c_1 h).1) (fun h => (hE c_1 h).2)) (hP.sub (ws' := []) [] rfl) hK uC_X5_part uN_X5 uM_X5_179 uS_X5_part (by decide +kernel) rfl ⟨Nat.le_of_ble_eq_true rfl, Nat.le_of_ble_eq_true rfl⟩ ⟨Nat.zero_le _, Nat.zero_le _⟩ hl.1 rfl (Nat.le_of_ble_eq_true rfl) dX5_met_48 ?_
          exact W.lret (v := (w_X5_part (sm (f_am M (tn ki) (M_choice M)) n) (sm (f_am M (tn ki) (w_X5_all M)) n) part)) hx hb hr (fun t ht hW => ⟨by rw [w_X5_met, if_neg c_1, if_neg c_2, if_neg c_3, if_neg c_4], ht⟩) (fun q h => absurd h List.not_mem_nil) dX5_met_51
        · refine lv_ldc2 hx hb hown (hU _ uK_X5_161) dX5_met_23 ?_
          refine lv_goto (tgt := 51) hx hb dX5_met_26 (by decide) ?_
          exact W.lret (v := (-1)) hx hb hr (fun t ht hW => ⟨by rw [w_X5_met, if_neg c_1, if_neg c_2, if_neg c_3, if_pos c_4], ht⟩) (fun q h => absurd h List.not_mem_nil) dX5_met_51

def w_X5_loss (M : ModT) (ki : Int32) (part : Int32) (n : Nat) : Int64 := if (w_X5_isPort ki) = 0 then (-1) else if (M_hasChoice M) = 0 then (-1) else if part < 0 then (-1) else if 1 < part then (-1) else (w_X5_part (sm (f_ho M (tn ki) (M_choice M)) n) (sm (f_ho M (tn ki) (w_X5_all M)) n) part)
set_option maxHeartbeats 4000000 in
set_option maxRecDepth 100000 in
theorem c_X5_loss (l : Launch) (k : KT) (a : Nat → Nat) (M : ModT) (ki : Int32) (part : Int32) (n : Nat) (hn : n ≤ 24) (hc : M_cells M = nI n) (hE : ¬ w_X5_isPort ki = 0 → ¬ sm (f_ho M (tn ki) (M_choice M)) n = 0 → (eu (sm (f_ho M (tn ki) (M_choice M)) n) (sm (f_ho M (tn ki) (w_X5_all M)) n) 100).2 = 0 ∧ ¬ (eu (sm (f_ho M (tn ki) (M_choice M)) n) (sm (f_ho M (tn ki) (w_X5_all M)) n) 100).1 = 0) : MR l yX5_loss cX5_loss 3 (some .long) (rz 2 46) k [.ref (a 0), .int ki, .int part] (mW k a M) (.long (w_X5_loss M ki part n)) := by
  refine Met.ofW (cc := cX5_loss) (maxL := 3) (ret := (some .long)) (by decide) rfl ?_
  intro p e s m args below meth c s₁ B hml hv
  obtain ⟨rfl, hP, hK⟩ := hv
  have hx := B.exec
  have hb := B.bytes
  have hr := B.returns
  have hU : ∀ w ∈ wsL_law, w.before [.ref (a 0), .int ki, .int part].toArray s = true := fun w h => atoms_spec (ws := Cond.code yX5_loss cX5_loss 3 (some .long) :: wsL_law) B.pre w (List.mem_cons_of_mem _ h)
  have hown : s.vm.findClass RX5 = some m.cls := findClass_of_methodNamed B.named
  have hlocks := B.notSynchronized
  have hF : CF p m c cX5_loss 3 s [.ref (a 0), .int ki, .int part].toArray RX5 := ⟨hx, hb, hml, hown, hU⟩
  have hl := lv_entry ([.ref (a 0), .int ki, .int part] : List Value) (n := 3) (Nat.le_of_ble_eq_true rfl)
  rw [lg_entry_eq]
  generalize (lg_sl ([.ref (a 0), .int ki, .int part] : List Value) ++ List.replicate (3 - (lg_sl ([.ref (a 0), .int ki, .int part] : List Value)).length) Slot.unset).toArray = ls at hl ⊢
  have hl : lv_has ls 3 [(0, .ref (a 0)), (1, .int ki), (2, .int part)] := hl
  refine lv_iload_n hx hb dX5_loss_0 rfl (lv_at hl 1 rfl) ?_
  refine rcS (n := 1) (As := [.int ki]) (rest := []) hF (c_X5_isPort l k  ki ) (hP.sub (ws' := []) [] rfl) hK uC_X5_isPort uN_X5 uM_X5_77 uS_X5_isPort (by decide +kernel) rfl ⟨Nat.le_of_ble_eq_true rfl, Nat.le_of_ble_eq_true rfl⟩ ⟨Nat.zero_le _, Nat.zero_le _⟩ hl.1 rfl (Nat.le_of_ble_eq_true rfl) dX5_loss_1 ?_
  refine lv_if_eq (tgt := 23) hx hb dX5_loss_4 (by decide) (fun c_1 => ?_) (fun c_1 => ?_)
  · refine lv_ldc2 hx hb hown (hU _ uK_X5_161) dX5_loss_23 ?_
    refine lv_goto (tgt := 51) hx hb dX5_loss_26 (by decide) ?_
    exact W.lret (v := (-1)) hx hb hr (fun t ht hW => ⟨by rw [w_X5_loss, if_pos c_1], ht⟩) (fun q h => absurd h List.not_mem_nil) dX5_loss_51
  · refine lv_aload_n hx hb dX5_loss_7 rfl (lv_at hl 0 rfl) ?_
    refine va_get (D := k.1) (ci := 5) (v := .int (M_hasChoice M)) (C := RX5) (T := TX5) (N := 27) hx hb hU inlX5 hown hK.1 hP 0 rfl rfl 16 (by decide) (hU _ uF_X5_121) (fun _ h9 => h9) rfl dX5_loss_8 ?_
    refine lv_if_eq (tgt := 23) hx hb dX5_loss_11 (by decide) (fun c_2 => ?_) (fun c_2 => ?_)
    · refine lv_ldc2 hx hb hown (hU _ uK_X5_161) dX5_loss_23 ?_
      refine lv_goto (tgt := 51) hx hb dX5_loss_26 (by decide) ?_
      exact W.lret (v := (-1)) hx hb hr (fun t ht hW => ⟨by rw [w_X5_loss, if_neg c_1, if_pos c_2], ht⟩) (fun q h => absurd h List.not_mem_nil) dX5_loss_51
    · refine lv_iload_n hx hb dX5_loss_14 rfl (lv_at hl 2 rfl) ?_
      refine lv_if_lt (tgt := 23) hx hb dX5_loss_15 (by decide) (fun c_3 => ?_) (fun c_3 => ?_)
      · refine lv_ldc2 hx hb hown (hU _ uK_X5_161) dX5_loss_23 ?_
        refine lv_goto (tgt := 51) hx hb dX5_loss_26 (by decide) ?_
        exact W.lret (v := (-1)) hx hb hr (fun t ht hW => ⟨by rw [w_X5_loss, if_neg c_1, if_neg c_2, if_pos c_3], ht⟩) (fun q h => absurd h List.not_mem_nil) dX5_loss_51
      · refine lv_iload_n hx hb dX5_loss_18 rfl (lv_at hl 2 rfl) ?_
        refine lv_iconst (v := 1) hx hb dX5_loss_19 (by decide) ?_
        refine xb_le (tgt := 29) hx hb dX5_loss_20 (by decide) (fun c_4 => ?_) (fun c_4 => ?_)
        · refine lv_aload_n hx hb dX5_loss_29 rfl (lv_at hl 0 rfl) ?_
          refine lv_iload_n hx hb dX5_loss_30 rfl (lv_at hl 1 rfl) ?_
          refine lv_aload_n hx hb dX5_loss_31 rfl (lv_at hl 0 rfl) ?_
          refine va_get (D := k.1) (ci := 5) (v := .int (M_choice M)) (C := RX5) (T := TX5) (N := 27) hx hb hU inlX5 hown hK.1 hP 0 rfl rfl 17 (by decide) (hU _ uF_X5_124) (fun _ h9 => h9) rfl dX5_loss_32 ?_
          refine rcV (n := 2) (As := [.int ki, .int (M_choice M)]) (rest := []) hF (c_X5_hoursIn l k a M ki (M_choice M) n hn hc (tn ki) (mpJ c_1).1 (mpJ c_1).2) (hP) hK 0 (ci := 5) rfl rfl rfl uC_X5_hoursIn uN_X5 uM_X5_114 uI_X5_hoursIn uE_X5_hoursIn (by decide +kernel) rfl ⟨Nat.le_of_ble_eq_true rfl, Nat.le_of_ble_eq_true rfl⟩ ⟨Nat.zero_le _, Nat.zero_le _⟩ hl.1 rfl (Nat.le_of_ble_eq_true rfl) dX5_loss_35 ?_
          refine lv_aload_n hx hb dX5_loss_38 rfl (lv_at hl 0 rfl) ?_
          refine lv_iload_n hx hb dX5_loss_39 rfl (lv_at hl 1 rfl) ?_
          refine lv_aload_n hx hb dX5_loss_40 rfl (lv_at hl 0 rfl) ?_
          refine rcV (n := 0) (As := []) (rest := [.int ki, .ref (a 0), .long (sm (f_ho M (tn ki) (M_choice M)) n)]) hF (c_X5_all l k a M  ) (hP) hK 0 (ci := 5) rfl rfl rfl uC_X5_all uN_X5 uM_X5_103 uI_X5_all uE_X5_all (by decide +kernel) rfl ⟨Nat.le_of_ble_eq_true rfl, Nat.le_of_ble_eq_true rfl⟩ ⟨Nat.zero_le _, Nat.zero_le _⟩ hl.1 rfl (Nat.le_of_ble_eq_true rfl) dX5_loss_41 ?_
          refine rcV (n := 2) (As := [.int ki, .int (w_X5_all M)]) (rest := [.long (sm (f_ho M (tn ki) (M_choice M)) n)]) hF (c_X5_hoursIn l k a M ki (w_X5_all M) n hn hc (tn ki) (mpJ c_1).1 (mpJ c_1).2) (hP) hK 0 (ci := 5) rfl rfl rfl uC_X5_hoursIn uN_X5 uM_X5_114 uI_X5_hoursIn uE_X5_hoursIn (by decide +kernel) rfl ⟨Nat.le_of_ble_eq_true rfl, Nat.le_of_ble_eq_true rfl⟩ ⟨Nat.zero_le _, Nat.zero_le _⟩ hl.1 rfl (Nat.le_of_ble_eq_true rfl) dX5_loss_44 ?_
          refine lv_iload_n hx hb dX5_loss_47 rfl (lv_at hl 2 rfl) ?_
          refine rcS (n := 3) (As := [.long (sm (f_ho M (tn ki) (M_choice M)) n), .long (sm (f_ho M (tn ki) (w_X5_all M)) n), .int part]) (rest := []) hF (c_X5_part l k  (sm (f_ho M (tn ki) (M_choice M)) n) (sm (f_ho M (tn ki) (w_X5_all M)) n) part (fun h => (hE c_1 h).1) (fun h => (hE c_1 h).2)) (hP.sub (ws' := []) [] rfl) hK uC_X5_part uN_X5 uM_X5_179 uS_X5_part (by decide +kernel) rfl ⟨Nat.le_of_ble_eq_true rfl, Nat.le_of_ble_eq_true rfl⟩ ⟨Nat.zero_le _, Nat.zero_le _⟩ hl.1 rfl (Nat.le_of_ble_eq_true rfl) dX5_loss_48 ?_
          exact W.lret (v := (w_X5_part (sm (f_ho M (tn ki) (M_choice M)) n) (sm (f_ho M (tn ki) (w_X5_all M)) n) part)) hx hb hr (fun t ht hW => ⟨by rw [w_X5_loss, if_neg c_1, if_neg c_2, if_neg c_3, if_neg c_4], ht⟩) (fun q h => absurd h List.not_mem_nil) dX5_loss_51
        · refine lv_ldc2 hx hb hown (hU _ uK_X5_161) dX5_loss_23 ?_
          refine lv_goto (tgt := 51) hx hb dX5_loss_26 (by decide) ?_
          exact W.lret (v := (-1)) hx hb hr (fun t ht hW => ⟨by rw [w_X5_loss, if_neg c_1, if_neg c_2, if_neg c_3, if_pos c_4], ht⟩) (fun q h => absurd h List.not_mem_nil) dX5_loss_51

def w_X5_clash (M : ModT) (kk : Int32) : Int32 := if kk < 0 then (-1) else fnd (q_pob (M_clashes M) kk) 8
theorem sub_eq0 {x y : Int32} : x - y = 0 ↔ y = x := by
  constructor
  · intro h
    have := congrArg (· + y) h
    simpa using this.symm
  · intro h
    rw [h]; exact Int32.sub_self x
theorem sub_step (x : Int32) (c : Nat) : (x - nI c) + (-1) = x - nI (c + 1) := by
  rw [← nI_1]
  apply Int32.toBitVec_inj.mp
  simp only [Int32.toBitVec_add, Int32.toBitVec_sub, Int32.toBitVec_neg, Int32.toBitVec_one]
  rw [BitVec.sub_eq_add_neg, BitVec.sub_eq_add_neg, BitVec.neg_add, BitVec.sub_eq_add_neg, BitVec.add_assoc]
set_option maxHeartbeats 4000000 in
set_option maxRecDepth 100000 in
theorem c_X5_clash (l : Launch) (k : KT) (a : Nat → Nat) (M : ModT) (kk : Int32)  : MR l yX5_clash cX5_clash 4 (some .int) (rz 1 21) k [.ref (a 0), .int kk] (mW k a M) (.int (w_X5_clash M kk)) := by
  refine Met.ofW (cc := cX5_clash) (maxL := 4) (ret := (some .int)) (by decide) rfl ?_
  intro p e s m args below meth c s₁ B hml hv
  obtain ⟨rfl, hP, hK⟩ := hv
  have hx := B.exec
  have hb := B.bytes
  have hr := B.returns
  have hU : ∀ w ∈ wsL_law, w.before [.ref (a 0), .int kk].toArray s = true := fun w h => atoms_spec (ws := Cond.code yX5_clash cX5_clash 4 (some .int) :: wsL_law) B.pre w (List.mem_cons_of_mem _ h)
  have hown : s.vm.findClass RX5 = some m.cls := findClass_of_methodNamed B.named
  have hlocks := B.notSynchronized
  have hF : CF p m c cX5_clash 4 s [.ref (a 0), .int kk].toArray RX5 := ⟨hx, hb, hml, hown, hU⟩
  have hl := lv_entry ([.ref (a 0), .int kk] : List Value) (n := 4) (Nat.le_of_ble_eq_true rfl)
  rw [lg_entry_eq]
  generalize (lg_sl ([.ref (a 0), .int kk] : List Value) ++ List.replicate (4 - (lg_sl ([.ref (a 0), .int kk] : List Value)).length) Slot.unset).toArray = ls at hl ⊢
  have hl : lv_has ls 4 [(0, .ref (a 0)), (1, .int kk)] := hl
  refine lv_iload_n hx hb dX5_clash_0 rfl (lv_at hl 1 rfl) ?_
  refine W.eq (g2 := F0 m 1 ls [.int (kk - nI (cn (M_clashes M) 0))]) (by rw [cn, show nI 0 = 0 from rfl, Int32.sub_zero]; try rfl) ?_
  refine lv_istore_n (lv' := [(2, .int (kk - nI (cn (M_clashes M) 0))), (0, .ref (a 0)), (1, .int kk)]) hx hb dX5_clash_1 rfl hl (by decide) rfl (fun ls hl => ?_)
  refine lv_iconst (v := 0) hx hb dX5_clash_2 (by decide) ?_
  refine lv_istore_n (lv' := [(3, .int 0), (2, .int (kk - nI (cn (M_clashes M) 0))), (0, .ref (a 0)), (1, .int kk)]) hx hb dX5_clash_3 rfl hl (by decide) rfl (fun ls hl => ?_)
  have loop_i : ∀ (ri i : Nat), i + ri * 1 = 8 → ∀ (ls : Array Slot) , lv_has ls 4 [(3, .int (nI i)), (2, .int (kk - nI (cn (M_clashes M) i))), (0, .ref (a 0)), (1, .int kk)] → (∀ j, j < i → q_pob (M_clashes M) kk j = false) → WR p l e s m below meth c yX5_clash cX5_clash 4 (some .int) (rz 1 21) [.ref (a 0), .int kk] (.int (w_X5_clash M kk)) (F0 m 4 ls []) := by
    intro ri
    induction ri with
    | zero =>
      intro i hi_i ls hl hv_i
      have he_i : 8 = i := by omega
      subst he_i
      refine lv_iload_n hx hb dX5_clash_4 rfl (lv_at hl 0 rfl) ?_
      refine lv_bipush (v := 8) hx hb dX5_clash_5 (by decide) ?_
      refine xb_ge (tgt := 40) hx hb dX5_clash_7 (by decide) (fun c_1 => ?_) (fun c9 => absurd c9 (nI_nlt (a := 8) (b := 8) (Nat.le_refl _) (by omega)))
      refine lv_iconst (v := (-1)) hx hb dX5_clash_40 (by decide) ?_
      exact W.iret (v := (-1)) hx hb hr (fun t ht hW => ⟨by rw [w_X5_clash]; by_cases h9 : kk < 0; rw [if_pos h9]; rw [if_neg h9, fnd_none hv_i], ht⟩) (fun q h => absurd h List.not_mem_nil) dX5_clash_41
    | succ ri ih_i =>
      intro i hi_i ls hl hv_i
      have ht_i : i < 8 := by omega
      refine lv_iload_n hx hb dX5_clash_4 rfl (lv_at hl 0 rfl) ?_
      refine lv_bipush (v := 8) hx hb dX5_clash_5 (by decide) ?_
      refine xb_ge (tgt := 40) hx hb dX5_clash_7 (by decide) (fun c9 => absurd (nI_lt (a := i) (b := 8) (by omega) (by omega)) c9) (fun c_2 => ?_)
      refine lv_iload_n hx hb dX5_clash_10 rfl (lv_at hl 3 rfl) ?_
      refine lv_if_lt (tgt := 40) hx hb dX5_clash_11 (by decide) (fun c_3 => ?_) (fun c_3 => ?_)
      · refine lv_iconst (v := (-1)) hx hb dX5_clash_40 (by decide) ?_
        exact W.iret (v := (-1)) hx hb hr (fun t ht hW => ⟨by rw [w_X5_clash, if_pos c_3], ht⟩) (fun q h => absurd h List.not_mem_nil) dX5_clash_41
      · refine lv_aload_n hx hb dX5_clash_14 rfl (lv_at hl 2 rfl) ?_
        refine va_get (D := k.1) (ci := 5) (v := .int (M_clashes M)) (C := RX5) (T := TX5) (N := 27) hx hb hU inlX5 hown hK.1 hP 0 rfl rfl 23 (by decide) (hU _ uF_X5_136) (fun _ h9 => h9) rfl dX5_clash_15 ?_
        refine lv_iload_n hx hb dX5_clash_18 rfl (lv_at hl 0 rfl) ?_
        refine rcS (n := 2) (As := [.int (M_clashes M), .int (nI i)]) (rest := []) hF (c_X5_has l k  (M_clashes M) (nI i) ) (hP.sub (ws' := []) [] rfl) hK uC_X5_has uN_X5 uM_X5_95 uS_X5_has (by decide +kernel) rfl ⟨Nat.le_of_ble_eq_true rfl, Nat.le_of_ble_eq_true rfl⟩ ⟨Nat.zero_le _, Nat.zero_le _⟩ hl.1 rfl (Nat.le_of_ble_eq_true rfl) dX5_clash_19 ?_
        refine lv_if_eq (tgt := 34) hx hb dX5_clash_22 (by decide) (fun c_4 => ?_) (fun c_4 => ?_)
        · refine lv_iinc (v := nI (i + 1)) (lv' := [(3, .int (nI (i + 1))), (2, .int (kk - nI (cn (M_clashes M) i))), (0, .ref (a 0)), (1, .int kk)]) hx hb dX5_clash_34 hl (k := 0) rfl (nI_add i 1) (by decide) rfl (fun ls hl => ?_)
          refine lv_goto (tgt := 4) hx hb dX5_clash_37 (by decide) ?_
          have eb : bt (M_clashes M) i = false := (mb0 (M_clashes M) (by omega)).mp c_4
          have hq : (kk - nI (cn (M_clashes M) i)) = (kk - nI (cn (M_clashes M) (i + 1))) := by rw [cn, if_neg (by rw [eb]; decide)]
          rw [hq] at hl
          have hv2 : ∀ j, j < i + 1 → q_pob (M_clashes M) kk j = false := lt_s hv_i (by simp [q_pob, eb])
          exact ih_i (i + 1) (by omega) ls (lv_sub hl [0, 1, 2, 3] rfl) hv2
        · refine lv_iload_n hx hb dX5_clash_25 rfl (lv_at hl 1 rfl) ?_
          refine lv_if_ne (tgt := 31) hx hb dX5_clash_26 (by decide) (fun c_5 => ?_) (fun c_5 => ?_)
          · refine lv_iinc (v := (kk - nI (cn (M_clashes M) i)) + (-1)) (lv' := [(2, .int ((kk - nI (cn (M_clashes M) i)) + (-1))), (3, .int (nI i)), (0, .ref (a 0)), (1, .int kk)]) hx hb dX5_clash_31 hl (k := 1) rfl rfl (by decide) rfl (fun ls hl => ?_)
            refine lv_iinc (v := nI (i + 1)) (lv' := [(3, .int (nI (i + 1))), (2, .int ((kk - nI (cn (M_clashes M) i)) + (-1))), (0, .ref (a 0)), (1, .int kk)]) hx hb dX5_clash_34 hl (k := 1) rfl (nI_add i 1) (by decide) rfl (fun ls hl => ?_)
            refine lv_goto (tgt := 4) hx hb dX5_clash_37 (by decide) ?_
            have eb : bt (M_clashes M) i = true := (mb1 (M_clashes M) (by omega)).mp c_4
            have hq : (kk - nI (cn (M_clashes M) i)) + (-1) = (kk - nI (cn (M_clashes M) (i + 1))) := by rw [cn, if_pos eb]; exact sub_step _ _
            rw [hq] at hl
            have hv2 : ∀ j, j < i + 1 → q_pob (M_clashes M) kk j = false := lt_s hv_i (by simp [q_pob]; exact fun _ h9 => c_5 (sub_eq0.mpr h9))
            exact ih_i (i + 1) (by omega) ls (lv_sub hl [0, 1, 2, 3] rfl) hv2
          · refine lv_iload_n hx hb dX5_clash_29 rfl (lv_at hl 0 rfl) ?_
            exact W.iret (v := (nI i)) hx hb hr (fun t ht hW => ⟨by rw [w_X5_clash, if_neg c_3, fnd_some (by decide) hv_i ht_i (by simp [q_pob, (mb1 (M_clashes M) (by omega)).mp c_4, sub_eq0.mp c_5])], ht⟩) (fun q h => absurd h List.not_mem_nil) dX5_clash_30
  exact loop_i 8 0 (by omega) ls (lv_sub hl [0, 1, 2, 3] rfl) (fun j h => absurd h (Nat.not_lt_zero j))

def q_tie (M : ModT) (n : Nat) : Nat → Bool := fun c => decide (M_states M c = 0) && decide (w_X5_costOf M (M_choice M ^^^ (1 <<< (nI c &&& 31))) n = w_X5_costOf M (M_choice M) n) && decide (¬ w_X5_stands M (M_choice M ^^^ (1 <<< (nI c &&& 31))) n = 0)
def q_tik (M : ModT) (n : Nat) (kk : Int32) : Nat → Bool := fun c => q_tie M n c && decide (nI (cq (q_tie M n) c) = kk)
def w_X5_tie (M : ModT) (kk : Int32) (n : Nat) : Int32 := if M_hasChoice M = 0 then (-1) else if kk < 0 then (-1) else fnd (q_tik M n kk) n
set_option maxHeartbeats 4000000 in
set_option maxRecDepth 100000 in
theorem c_X5_tie (l : Launch) (k : KT) (a : Nat → Nat) (M : ModT) (kk : Int32) (n : Nat) (hn : n ≤ 24) (hc : M_cells M = nI n) : MR l yX5_tie cX5_tie 5 (some .int) (rz 4 91) k [.ref (a 0), .int kk] (mW k a M) (.int (w_X5_tie M kk n)) := by
  refine Met.ofW (cc := cX5_tie) (maxL := 5) (ret := (some .int)) (by decide) rfl ?_
  intro p e s m args below meth c s₁ B hml hv
  obtain ⟨rfl, hP, hK⟩ := hv
  have hx := B.exec
  have hb := B.bytes
  have hr := B.returns
  have hU : ∀ w ∈ wsL_law, w.before [.ref (a 0), .int kk].toArray s = true := fun w h => atoms_spec (ws := Cond.code yX5_tie cX5_tie 5 (some .int) :: wsL_law) B.pre w (List.mem_cons_of_mem _ h)
  have hown : s.vm.findClass RX5 = some m.cls := findClass_of_methodNamed B.named
  have hlocks := B.notSynchronized
  have hF : CF p m c cX5_tie 5 s [.ref (a 0), .int kk].toArray RX5 := ⟨hx, hb, hml, hown, hU⟩
  have hl := lv_entry ([.ref (a 0), .int kk] : List Value) (n := 5) (Nat.le_of_ble_eq_true rfl)
  rw [lg_entry_eq]
  generalize (lg_sl ([.ref (a 0), .int kk] : List Value) ++ List.replicate (5 - (lg_sl ([.ref (a 0), .int kk] : List Value)).length) Slot.unset).toArray = ls at hl ⊢
  have hl : lv_has ls 5 [(0, .ref (a 0)), (1, .int kk)] := hl
  refine lv_aload_n hx hb dX5_tie_0 rfl (lv_at hl 0 rfl) ?_
  refine va_get (D := k.1) (ci := 5) (v := .int (M_hasChoice M)) (C := RX5) (T := TX5) (N := 27) hx hb hU inlX5 hown hK.1 hP 0 rfl rfl 16 (by decide) (hU _ uF_X5_121) (fun _ h9 => h9) rfl dX5_tie_1 ?_
  refine lv_if_eq (tgt := 11) hx hb dX5_tie_4 (by decide) (fun c_1 => ?_) (fun c_1 => ?_)
  · refine lv_iconst (v := (-1)) hx hb dX5_tie_11 (by decide) ?_
    exact W.iret (v := (-1)) hx hb hr (fun t ht hW => ⟨by rw [w_X5_tie, if_pos c_1], ht⟩) (fun q h => absurd h List.not_mem_nil) dX5_tie_12
  · refine lv_iload_n hx hb dX5_tie_7 rfl (lv_at hl 1 rfl) ?_
    refine xz_ge (tgt := 13) hx hb dX5_tie_8 (by decide) (fun c_2 => ?_) (fun c_2 => ?_)
    · refine lv_iload_n hx hb dX5_tie_13 rfl (lv_at hl 1 rfl) ?_
      refine W.eq (g2 := F0 m 14 ls [.int (kk - nI (cq (q_tie M n) 0))]) (by rw [cq, show nI 0 = 0 from rfl, Int32.sub_zero]; try rfl) ?_
      refine lv_istore_n (lv' := [(2, .int (kk - nI (cq (q_tie M n) 0))), (0, .ref (a 0)), (1, .int kk)]) hx hb dX5_tie_14 rfl hl (by decide) rfl (fun ls hl => ?_)
      refine lv_iconst (v := 0) hx hb dX5_tie_15 (by decide) ?_
      refine lv_istore_n (lv' := [(3, .int 0), (2, .int (kk - nI (cq (q_tie M n) 0))), (0, .ref (a 0)), (1, .int kk)]) hx hb dX5_tie_16 rfl hl (by decide) rfl (fun ls hl => ?_)
      have loop_i : ∀ (ri i : Nat), i + ri * 1 = n → ∀ (ls : Array Slot) , lv_has ls 5 [(3, .int (nI i)), (2, .int (kk - nI (cq (q_tie M n) i))), (0, .ref (a 0)), (1, .int kk)] → (∀ j, j < i → q_tik M n kk j = false) → WR p l e s m below meth c yX5_tie cX5_tie 5 (some .int) (rz 4 91) [.ref (a 0), .int kk] (.int (w_X5_tie M kk n)) (F0 m 17 ls []) := by
        intro ri
        induction ri with
        | zero =>
          intro i hi_i ls hl hv_i
          have he_i : n = i := by omega
          subst he_i
          refine lv_iload_n hx hb dX5_tie_17 rfl (lv_at hl 0 rfl) ?_
          refine lv_aload_n hx hb dX5_tie_18 rfl (lv_at hl 2 rfl) ?_
          refine va_get (D := k.1) (ci := 5) (v := .int (M_cells M)) (C := RX5) (T := TX5) (N := 27) hx hb hU inlX5 hown hK.1 hP 0 rfl rfl 0 (by decide) (hU _ uF_X5_49) (fun _ h9 => h9) rfl dX5_tie_19 ?_
          refine xb_ge (tgt := 86) hx hb dX5_tie_22 (by decide) (fun c_3 => ?_) (fun c9 => absurd c9 (by rw [hc]; exact nI_nlt (a := n) (b := n) (Nat.le_refl _) (by omega)))
          refine lv_iconst (v := (-1)) hx hb dX5_tie_86 (by decide) ?_
          exact W.iret (v := (-1)) hx hb hr (fun t ht hW => ⟨by rw [w_X5_tie, if_neg c_1, if_neg c_2, fnd_none hv_i], ht⟩) (fun q h => absurd h List.not_mem_nil) dX5_tie_87
        | succ ri ih_i =>
          intro i hi_i ls hl hv_i
          have ht_i : i < n := by omega
          refine lv_iload_n hx hb dX5_tie_17 rfl (lv_at hl 0 rfl) ?_
          refine lv_aload_n hx hb dX5_tie_18 rfl (lv_at hl 2 rfl) ?_
          refine va_get (D := k.1) (ci := 5) (v := .int (M_cells M)) (C := RX5) (T := TX5) (N := 27) hx hb hU inlX5 hown hK.1 hP 0 rfl rfl 0 (by decide) (hU _ uF_X5_49) (fun _ h9 => h9) rfl dX5_tie_19 ?_
          refine xb_ge (tgt := 86) hx hb dX5_tie_22 (by decide) (fun c9 => absurd (by rw [hc]; exact nI_lt (a := i) (b := n) (by omega) (by omega)) c9) (fun c_4 => ?_)
          refine lv_aload_n hx hb dX5_tie_25 rfl (lv_at hl 2 rfl) ?_
          refine va_get (D := k.1) (ci := 5) (v := .int (M_choice M)) (C := RX5) (T := TX5) (N := 27) hx hb hU inlX5 hown hK.1 hP 0 rfl rfl 17 (by decide) (hU _ uF_X5_124) (fun _ h9 => h9) rfl dX5_tie_26 ?_
          refine lv_iconst (v := 1) hx hb dX5_tie_29 (by decide) ?_
          refine lv_iload_n hx hb dX5_tie_30 rfl (lv_at hl 0 rfl) ?_
          refine lv_ishl hx hb dX5_tie_31 ?_
          refine lv_ixor hx hb dX5_tie_32 ?_
          refine lv_istore (lv' := [(4, .int ((M_choice M) ^^^ (1 <<< ((nI i) &&& 31)))), (3, .int (nI i)), (2, .int (kk - nI (cq (q_tie M n) i))), (0, .ref (a 0)), (1, .int kk)]) hx hb dX5_tie_33 hl (by decide) rfl (fun ls hl => ?_)
          refine lv_aload_n hx hb dX5_tie_35 rfl (lv_at hl 3 rfl) ?_
          refine va_get (D := k.1) (ci := 5) (v := .ref (a 2)) (C := RX5) (T := TX5) (N := 27) hx hb hU inlX5 hown hK.1 hP 0 rfl rfl 2 (by decide) (hU _ uF_X5_13) (fun _ h9 => h9) rfl dX5_tie_36 ?_
          refine lv_iload_n hx hb dX5_tie_39 rfl (lv_at hl 1 rfl) ?_
          refine xa_iald hx hb hK.1 hP 2 0 rfl rfl (j := i) rfl (by omega) (by decide) dX5_tie_40 ?_
          refine lv_if_ne (tgt := 80) hx hb dX5_tie_41 (by decide) (fun c_5 => ?_) (fun c_5 => ?_)
          · refine lv_iinc (v := nI (i + 1)) (lv' := [(3, .int (nI (i + 1))), (4, .int ((M_choice M) ^^^ (1 <<< ((nI i) &&& 31)))), (2, .int (kk - nI (cq (q_tie M n) i))), (0, .ref (a 0)), (1, .int kk)]) hx hb dX5_tie_80 hl (k := 1) rfl (nI_add i 1) (by decide) rfl (fun ls hl => ?_)
            refine lv_goto (tgt := 17) hx hb dX5_tie_83 (by decide) ?_
            have eb : (q_tie M n) i = false := by simp [q_tie, c_5]
            have hq : (kk - nI (cq (q_tie M n) i)) = (kk - nI (cq (q_tie M n) (i + 1))) := by rw [cq, if_neg (by rw [eb]; decide)]
            rw [hq] at hl
            have hv2 : ∀ j, j < i + 1 → q_tik M n kk j = false := lt_s hv_i (by simp [q_tik, eb])
            exact ih_i (i + 1) (by omega) ls (lv_sub hl [0, 2, 3, 4] rfl) hv2
          · refine lv_aload_n hx hb dX5_tie_44 rfl (lv_at hl 3 rfl) ?_
            refine lv_iload hx hb dX5_tie_45 (lv_at hl 0 rfl) ?_
            refine rcV (n := 1) (As := [.int ((M_choice M) ^^^ (1 <<< ((nI i) &&& 31)))]) (rest := []) hF (c_X5_costOf l k a M ((M_choice M) ^^^ (1 <<< ((nI i) &&& 31))) n hn hc) (hP) hK 0 (ci := 5) rfl rfl rfl uC_X5_costOf uN_X5 uM_X5_152 uI_X5_costOf uE_X5_costOf (by decide +kernel) rfl ⟨Nat.le_of_ble_eq_true rfl, Nat.le_of_ble_eq_true rfl⟩ ⟨Nat.zero_le _, Nat.zero_le _⟩ hl.1 rfl (Nat.le_of_ble_eq_true rfl) dX5_tie_47 ?_
            refine lv_aload_n hx hb dX5_tie_50 rfl (lv_at hl 3 rfl) ?_
            refine lv_aload_n hx hb dX5_tie_51 rfl (lv_at hl 3 rfl) ?_
            refine va_get (D := k.1) (ci := 5) (v := .int (M_choice M)) (C := RX5) (T := TX5) (N := 27) hx hb hU inlX5 hown hK.1 hP 0 rfl rfl 17 (by decide) (hU _ uF_X5_124) (fun _ h9 => h9) rfl dX5_tie_52 ?_
            refine rcV (n := 1) (As := [.int (M_choice M)]) (rest := [.long (w_X5_costOf M ((M_choice M) ^^^ (1 <<< ((nI i) &&& 31))) n)]) hF (c_X5_costOf l k a M (M_choice M) n hn hc) (hP) hK 0 (ci := 5) rfl rfl rfl uC_X5_costOf uN_X5 uM_X5_152 uI_X5_costOf uE_X5_costOf (by decide +kernel) rfl ⟨Nat.le_of_ble_eq_true rfl, Nat.le_of_ble_eq_true rfl⟩ ⟨Nat.zero_le _, Nat.zero_le _⟩ hl.1 rfl (Nat.le_of_ble_eq_true rfl) dX5_tie_55 ?_
            refine xl_ne (tgt := 80) hx hb dX5_tie_58 dX5_tie_59 (by decide) (fun c_6 => ?_) (fun c_6 => ?_)
            · refine lv_iinc (v := nI (i + 1)) (lv' := [(3, .int (nI (i + 1))), (4, .int ((M_choice M) ^^^ (1 <<< ((nI i) &&& 31)))), (2, .int (kk - nI (cq (q_tie M n) i))), (0, .ref (a 0)), (1, .int kk)]) hx hb dX5_tie_80 hl (k := 1) rfl (nI_add i 1) (by decide) rfl (fun ls hl => ?_)
              refine lv_goto (tgt := 17) hx hb dX5_tie_83 (by decide) ?_
              have eb : (q_tie M n) i = false := by simp [q_tie, c_5, c_6]
              have hq : (kk - nI (cq (q_tie M n) i)) = (kk - nI (cq (q_tie M n) (i + 1))) := by rw [cq, if_neg (by rw [eb]; decide)]
              rw [hq] at hl
              have hv2 : ∀ j, j < i + 1 → q_tik M n kk j = false := lt_s hv_i (by simp [q_tik, eb])
              exact ih_i (i + 1) (by omega) ls (lv_sub hl [0, 2, 3, 4] rfl) hv2
            · refine lv_aload_n hx hb dX5_tie_62 rfl (lv_at hl 3 rfl) ?_
              refine lv_iload hx hb dX5_tie_63 (lv_at hl 0 rfl) ?_
              refine rcV (n := 1) (As := [.int ((M_choice M) ^^^ (1 <<< ((nI i) &&& 31)))]) (rest := []) hF (c_X5_stands l k a M ((M_choice M) ^^^ (1 <<< ((nI i) &&& 31))) n hn hc) (hP) hK 0 (ci := 5) rfl rfl rfl uC_X5_stands uN_X5 uM_X5_158 uI_X5_stands uE_X5_stands (by decide +kernel) rfl ⟨Nat.le_of_ble_eq_true rfl, Nat.le_of_ble_eq_true rfl⟩ ⟨Nat.zero_le _, Nat.zero_le _⟩ hl.1 rfl (Nat.le_of_ble_eq_true rfl) dX5_tie_65 ?_
              refine lv_if_eq (tgt := 80) hx hb dX5_tie_68 (by decide) (fun c_7 => ?_) (fun c_7 => ?_)
              · refine lv_iinc (v := nI (i + 1)) (lv' := [(3, .int (nI (i + 1))), (4, .int ((M_choice M) ^^^ (1 <<< ((nI i) &&& 31)))), (2, .int (kk - nI (cq (q_tie M n) i))), (0, .ref (a 0)), (1, .int kk)]) hx hb dX5_tie_80 hl (k := 1) rfl (nI_add i 1) (by decide) rfl (fun ls hl => ?_)
                refine lv_goto (tgt := 17) hx hb dX5_tie_83 (by decide) ?_
                have eb : (q_tie M n) i = false := by simp [q_tie, c_5, c_6, c_7]
                have hq : (kk - nI (cq (q_tie M n) i)) = (kk - nI (cq (q_tie M n) (i + 1))) := by rw [cq, if_neg (by rw [eb]; decide)]
                rw [hq] at hl
                have hv2 : ∀ j, j < i + 1 → q_tik M n kk j = false := lt_s hv_i (by simp [q_tik, eb])
                exact ih_i (i + 1) (by omega) ls (lv_sub hl [0, 2, 3, 4] rfl) hv2
              · refine lv_iload_n hx hb dX5_tie_71 rfl (lv_at hl 2 rfl) ?_
                refine lv_if_ne (tgt := 77) hx hb dX5_tie_72 (by decide) (fun c_8 => ?_) (fun c_8 => ?_)
                · refine lv_iinc (v := (kk - nI (cq (q_tie M n) i)) + (-1)) (lv' := [(2, .int ((kk - nI (cq (q_tie M n) i)) + (-1))), (4, .int ((M_choice M) ^^^ (1 <<< ((nI i) &&& 31)))), (3, .int (nI i)), (0, .ref (a 0)), (1, .int kk)]) hx hb dX5_tie_77 hl (k := 2) rfl rfl (by decide) rfl (fun ls hl => ?_)
                  refine lv_iinc (v := nI (i + 1)) (lv' := [(3, .int (nI (i + 1))), (2, .int ((kk - nI (cq (q_tie M n) i)) + (-1))), (4, .int ((M_choice M) ^^^ (1 <<< ((nI i) &&& 31)))), (0, .ref (a 0)), (1, .int kk)]) hx hb dX5_tie_80 hl (k := 2) rfl (nI_add i 1) (by decide) rfl (fun ls hl => ?_)
                  refine lv_goto (tgt := 17) hx hb dX5_tie_83 (by decide) ?_
                  have eb : (q_tie M n) i = true := by simp [q_tie, c_5, c_6, c_7]
                  have hq : (kk - nI (cq (q_tie M n) i)) + (-1) = (kk - nI (cq (q_tie M n) (i + 1))) := by rw [cq, if_pos eb]; exact sub_step _ _
                  rw [hq] at hl
                  have hv2 : ∀ j, j < i + 1 → q_tik M n kk j = false := lt_s hv_i (by simp [q_tik]; exact fun _ h9 => c_8 (sub_eq0.mpr h9))
                  exact ih_i (i + 1) (by omega) ls (lv_sub hl [0, 1, 3, 4] rfl) hv2
                · refine lv_iload_n hx hb dX5_tie_75 rfl (lv_at hl 1 rfl) ?_
                  exact W.iret (v := (nI i)) hx hb hr (fun t ht hW => ⟨by rw [w_X5_tie, if_neg c_1, if_neg c_2, fnd_some (by omega) hv_i ht_i (by simp [q_tik, sub_eq0.mp c_8]; simp [q_tie, c_5, c_6, c_7])], ht⟩) (fun q h => absurd h List.not_mem_nil) dX5_tie_76
      exact loop_i n 0 (by omega) ls (lv_sub hl [0, 1, 2, 3] rfl) (fun j h => absurd h (Nat.not_lt_zero j))
    · refine lv_iconst (v := (-1)) hx hb dX5_tie_11 (by decide) ?_
      exact W.iret (v := (-1)) hx hb hr (fun t ht hW => ⟨by rw [w_X5_tie, if_neg c_1, if_pos c_2], ht⟩) (fun q h => absurd h List.not_mem_nil) dX5_tie_12

def q_zm (M : ModT) (zv : Int32) (q : Nat) : Nat → Bool := fun c => bt (M_choice M) c && decide (nI (c % 4) = zv) && decide (0 < M_amounts M (24 * q + c))
def w_X5_zone (M : ModT) (zv ki : Int32) (n : Nat) : Int32 := if zv < 0 then (-1) else if 3 < zv then (-1) else if (w_X5_isKind ki) = 0 then (-1) else if M_hasChoice M = 0 then (-1) else nI (cq (q_zm M zv (tn ki)) n)
set_option maxHeartbeats 4000000 in
set_option maxRecDepth 100000 in
theorem c_X5_zone (l : Launch) (k : KT) (a : Nat → Nat) (M : ModT) (zv : Int32) (ki : Int32) (n : Nat) (hn : n ≤ 24) (hc : M_cells M = nI n) : MR l yX5_zone cX5_zone 5 (some .int) (rz 1 21) k [.ref (a 0), .int zv, .int ki] (mW k a M) (.int (w_X5_zone M zv ki n)) := by
  refine Met.ofW (cc := cX5_zone) (maxL := 5) (ret := (some .int)) (by decide) rfl ?_
  intro p e s m args below meth c s₁ B hml hv
  obtain ⟨rfl, hP, hK⟩ := hv
  have hx := B.exec
  have hb := B.bytes
  have hr := B.returns
  have hU : ∀ w ∈ wsL_law, w.before [.ref (a 0), .int zv, .int ki].toArray s = true := fun w h => atoms_spec (ws := Cond.code yX5_zone cX5_zone 5 (some .int) :: wsL_law) B.pre w (List.mem_cons_of_mem _ h)
  have hown : s.vm.findClass RX5 = some m.cls := findClass_of_methodNamed B.named
  have hlocks := B.notSynchronized
  have hF : CF p m c cX5_zone 5 s [.ref (a 0), .int zv, .int ki].toArray RX5 := ⟨hx, hb, hml, hown, hU⟩
  have hl := lv_entry ([.ref (a 0), .int zv, .int ki] : List Value) (n := 5) (Nat.le_of_ble_eq_true rfl)
  rw [lg_entry_eq]
  generalize (lg_sl ([.ref (a 0), .int zv, .int ki] : List Value) ++ List.replicate (5 - (lg_sl ([.ref (a 0), .int zv, .int ki] : List Value)).length) Slot.unset).toArray = ls at hl ⊢
  have hl : lv_has ls 5 [(0, .ref (a 0)), (1, .int zv), (2, .int ki)] := hl
  refine lv_iload_n hx hb dX5_zone_0 rfl (lv_at hl 1 rfl) ?_
  refine lv_if_lt (tgt := 23) hx hb dX5_zone_1 (by decide) (fun c_1 => ?_) (fun c_1 => ?_)
  · refine lv_iconst (v := (-1)) hx hb dX5_zone_23 (by decide) ?_
    exact W.iret (v := (-1)) hx hb hr (fun t ht hW => ⟨by rw [w_X5_zone, if_pos c_1], ht⟩) (fun q h => absurd h List.not_mem_nil) dX5_zone_24
  · refine lv_iload_n hx hb dX5_zone_4 rfl (lv_at hl 1 rfl) ?_
    refine lv_iconst (v := 3) hx hb dX5_zone_5 (by decide) ?_
    refine xb_gt (tgt := 23) hx hb dX5_zone_6 (by decide) (fun c_2 => ?_) (fun c_2 => ?_)
    · refine lv_iconst (v := (-1)) hx hb dX5_zone_23 (by decide) ?_
      exact W.iret (v := (-1)) hx hb hr (fun t ht hW => ⟨by rw [w_X5_zone, if_neg c_1, if_pos c_2], ht⟩) (fun q h => absurd h List.not_mem_nil) dX5_zone_24
    · refine lv_iload_n hx hb dX5_zone_9 rfl (lv_at hl 2 rfl) ?_
      refine rcS (n := 1) (As := [.int ki]) (rest := []) hF (c_X5_isKind l k  ki ) (hP.sub (ws' := []) [] rfl) hK uC_X5_isKind uN_X5 uM_X5_61 uS_X5_isKind (by decide +kernel) rfl ⟨Nat.le_of_ble_eq_true rfl, Nat.le_of_ble_eq_true rfl⟩ ⟨Nat.zero_le _, Nat.zero_le _⟩ hl.1 rfl (Nat.le_of_ble_eq_true rfl) dX5_zone_10 ?_
      refine lv_if_eq (tgt := 23) hx hb dX5_zone_13 (by decide) (fun c_3 => ?_) (fun c_3 => ?_)
      · refine lv_iconst (v := (-1)) hx hb dX5_zone_23 (by decide) ?_
        exact W.iret (v := (-1)) hx hb hr (fun t ht hW => ⟨by rw [w_X5_zone, if_neg c_1, if_neg c_2, if_pos c_3], ht⟩) (fun q h => absurd h List.not_mem_nil) dX5_zone_24
      · refine lv_aload_n hx hb dX5_zone_16 rfl (lv_at hl 0 rfl) ?_
        refine va_get (D := k.1) (ci := 5) (v := .int (M_hasChoice M)) (C := RX5) (T := TX5) (N := 27) hx hb hU inlX5 hown hK.1 hP 0 rfl rfl 16 (by decide) (hU _ uF_X5_121) (fun _ h9 => h9) rfl dX5_zone_17 ?_
        refine lv_if_ne (tgt := 25) hx hb dX5_zone_20 (by decide) (fun c_4 => ?_) (fun c_4 => ?_)
        · refine lv_iconst (v := 0) hx hb dX5_zone_25 (by decide) ?_
          refine lv_istore_n (lv' := [(3, .int 0), (0, .ref (a 0)), (1, .int zv), (2, .int ki)]) hx hb dX5_zone_26 rfl hl (by decide) rfl (fun ls hl => ?_)
          refine lv_iconst (v := 0) hx hb dX5_zone_27 (by decide) ?_
          refine lv_istore (lv' := [(4, .int 0), (3, .int 0), (0, .ref (a 0)), (1, .int zv), (2, .int ki)]) hx hb dX5_zone_28 hl (by decide) rfl (fun ls hl => ?_)
          have loop_i : ∀ (ri i : Nat), i + ri * 1 = n → ∀ (ls : Array Slot) , lv_has ls 5 [(4, .int (nI i)), (3, .int (nI (cq (q_zm M zv (tn ki)) i))), (0, .ref (a 0)), (1, .int zv), (2, .int ki)] → WR p l e s m below meth c yX5_zone cX5_zone 5 (some .int) (rz 1 21) [.ref (a 0), .int zv, .int ki] (.int (w_X5_zone M zv ki n)) (F0 m 30 ls []) := by
            intro ri
            induction ri with
            | zero =>
              intro i hi_i ls hl
              have he_i : n = i := by omega
              subst he_i
              refine lv_iload hx hb dX5_zone_30 (lv_at hl 0 rfl) ?_
              refine lv_aload_n hx hb dX5_zone_32 rfl (lv_at hl 2 rfl) ?_
              refine va_get (D := k.1) (ci := 5) (v := .int (M_cells M)) (C := RX5) (T := TX5) (N := 27) hx hb hU inlX5 hown hK.1 hP 0 rfl rfl 0 (by decide) (hU _ uF_X5_49) (fun _ h9 => h9) rfl dX5_zone_33 ?_
              refine xb_ge (tgt := 90) hx hb dX5_zone_36 (by decide) (fun c_5 => ?_) (fun c9 => absurd c9 (by rw [hc]; exact nI_nlt (a := n) (b := n) (Nat.le_refl _) (by omega)))
              refine lv_iload_n hx hb dX5_zone_90 rfl (lv_at hl 1 rfl) ?_
              exact W.iret (v := (nI (cq (q_zm M zv (tn ki)) n))) hx hb hr (fun t ht hW => ⟨by rw [w_X5_zone, if_neg c_1, if_neg c_2, if_neg c_3, if_neg c_4], ht⟩) (fun q h => absurd h List.not_mem_nil) dX5_zone_91
            | succ ri ih_i =>
              intro i hi_i ls hl
              have ht_i : i < n := by omega
              refine lv_iload hx hb dX5_zone_30 (lv_at hl 0 rfl) ?_
              refine lv_aload_n hx hb dX5_zone_32 rfl (lv_at hl 2 rfl) ?_
              refine va_get (D := k.1) (ci := 5) (v := .int (M_cells M)) (C := RX5) (T := TX5) (N := 27) hx hb hU inlX5 hown hK.1 hP 0 rfl rfl 0 (by decide) (hU _ uF_X5_49) (fun _ h9 => h9) rfl dX5_zone_33 ?_
              refine xb_ge (tgt := 90) hx hb dX5_zone_36 (by decide) (fun c9 => absurd (by rw [hc]; exact nI_lt (a := i) (b := n) (by omega) (by omega)) c9) (fun c_6 => ?_)
              refine lv_iload_n hx hb dX5_zone_39 rfl (lv_at hl 1 rfl) ?_
              refine lv_aload_n hx hb dX5_zone_40 rfl (lv_at hl 2 rfl) ?_
              refine va_get (D := k.1) (ci := 5) (v := .int (M_choice M)) (C := RX5) (T := TX5) (N := 27) hx hb hU inlX5 hown hK.1 hP 0 rfl rfl 17 (by decide) (hU _ uF_X5_124) (fun _ h9 => h9) rfl dX5_zone_41 ?_
              refine lv_iload hx hb dX5_zone_44 (lv_at hl 0 rfl) ?_
              refine rcS (n := 2) (As := [.int (M_choice M), .int (nI i)]) (rest := [.int (nI (cq (q_zm M zv (tn ki)) i))]) hF (c_X5_has l k  (M_choice M) (nI i) ) (hP.sub (ws' := []) [] rfl) hK uC_X5_has uN_X5 uM_X5_95 uS_X5_has (by decide +kernel) rfl ⟨Nat.le_of_ble_eq_true rfl, Nat.le_of_ble_eq_true rfl⟩ ⟨Nat.zero_le _, Nat.zero_le _⟩ hl.1 rfl (Nat.le_of_ble_eq_true rfl) dX5_zone_46 ?_
              refine lv_if_eq (tgt := 81) hx hb dX5_zone_49 (by decide) (fun c_7 => ?_) (fun c_7 => ?_)
              · refine lv_iconst (v := 0) hx hb dX5_zone_81 (by decide) ?_
                refine lv_iadd hx hb dX5_zone_82 ?_
                refine lv_istore_n (lv' := [(3, .int ((nI (cq (q_zm M zv (tn ki)) i)) + 0)), (4, .int (nI i)), (0, .ref (a 0)), (1, .int zv), (2, .int ki)]) hx hb dX5_zone_83 rfl hl (by decide) rfl (fun ls hl => ?_)
                refine lv_iinc (v := nI (i + 1)) (lv' := [(4, .int (nI (i + 1))), (3, .int ((nI (cq (q_zm M zv (tn ki)) i)) + 0)), (0, .ref (a 0)), (1, .int zv), (2, .int ki)]) hx hb dX5_zone_84 hl (k := 1) rfl (nI_add i 1) (by decide) rfl (fun ls hl => ?_)
                refine lv_goto (tgt := 30) hx hb dX5_zone_87 (by decide) ?_
                have eb : bt (M_choice M) i = false := (mb0 (M_choice M) (by omega)).mp c_7
                have hq : ((nI (cq (q_zm M zv (tn ki)) i)) + 0) = (nI (cq (q_zm M zv (tn ki)) (i + 1))) := by rw [cq, if_neg (by simp [q_zm, eb])]; exact Int32.add_zero _
                rw [hq] at hl
                exact ih_i (i + 1) (by omega) ls (lv_sub hl [0, 1, 2, 3, 4] rfl)
              · refine lv_iload hx hb dX5_zone_52 (lv_at hl 0 rfl) ?_
                refine lv_iconst (v := 4) hx hb dX5_zone_54 (by decide) ?_
                refine lv_irem hx hb dX5_zone_55 (by decide) ?_
                refine W.eq (g2 := F0 m 56 ls [.int (nI (i % 4)), .int (nI (cq (q_zm M zv (tn ki)) i))]) (by rw [show (nI i - nI i / 4 * 4) = nI (i % 4) from pk_rem (a := i) (d := 4) (by omega) (by omega) (by omega)]; try rfl) ?_
                refine lv_iload_n hx hb dX5_zone_56 rfl (lv_at hl 3 rfl) ?_
                refine lv_icmp_ne (tgt := 81) hx hb dX5_zone_57 (by decide) (fun c_8 => ?_) (fun c_8 => ?_)
                · refine lv_iconst (v := 0) hx hb dX5_zone_81 (by decide) ?_
                  refine lv_iadd hx hb dX5_zone_82 ?_
                  refine lv_istore_n (lv' := [(3, .int ((nI (cq (q_zm M zv (tn ki)) i)) + 0)), (4, .int (nI i)), (0, .ref (a 0)), (1, .int zv), (2, .int ki)]) hx hb dX5_zone_83 rfl hl (by decide) rfl (fun ls hl => ?_)
                  refine lv_iinc (v := nI (i + 1)) (lv' := [(4, .int (nI (i + 1))), (3, .int ((nI (cq (q_zm M zv (tn ki)) i)) + 0)), (0, .ref (a 0)), (1, .int zv), (2, .int ki)]) hx hb dX5_zone_84 hl (k := 1) rfl (nI_add i 1) (by decide) rfl (fun ls hl => ?_)
                  refine lv_goto (tgt := 30) hx hb dX5_zone_87 (by decide) ?_
                  have eb : bt (M_choice M) i = true := (mb1 (M_choice M) (by omega)).mp c_7
                  have hq : ((nI (cq (q_zm M zv (tn ki)) i)) + 0) = (nI (cq (q_zm M zv (tn ki)) (i + 1))) := by rw [cq, if_neg (by simp [q_zm, eb, c_8])]; exact Int32.add_zero _
                  rw [hq] at hl
                  exact ih_i (i + 1) (by omega) ls (lv_sub hl [0, 1, 2, 3, 4] rfl)
                · refine lv_aload_n hx hb dX5_zone_60 rfl (lv_at hl 2 rfl) ?_
                  refine va_get (D := k.1) (ci := 5) (v := .ref (a 3)) (C := RX5) (T := TX5) (N := 27) hx hb hU inlX5 hown hK.1 hP 0 rfl rfl 3 (by decide) (hU _ uF_X5_17) (fun _ h9 => h9) rfl dX5_zone_61 ?_
                  refine lv_bipush (v := 24) hx hb dX5_zone_64 (by decide) ?_
                  refine lv_iload_n hx hb dX5_zone_66 rfl (lv_at hl 4 rfl) ?_
                  refine lv_imul hx hb dX5_zone_67 ?_
                  refine lv_iload hx hb dX5_zone_68 (lv_at hl 0 rfl) ?_
                  refine lv_iadd hx hb dX5_zone_70 ?_
                  refine xa_lald hx hb hK.1 hP 3 1 rfl rfl (j := (24 * (tn ki) + i)) (by rw [← ix24r, ← (mkJ c_3).2]) (by have := (mkJ c_3).1; omega) (by decide) dX5_zone_71 ?_
                  refine lv_lconst (v := 0) hx hb dX5_zone_72 (by decide) ?_
                  refine xl_le (tgt := 81) hx hb dX5_zone_73 dX5_zone_74 (by decide) (fun c_9 => ?_) (fun c_9 => ?_)
                  · refine lv_iconst (v := 0) hx hb dX5_zone_81 (by decide) ?_
                    refine lv_iadd hx hb dX5_zone_82 ?_
                    refine lv_istore_n (lv' := [(3, .int ((nI (cq (q_zm M zv (tn ki)) i)) + 0)), (4, .int (nI i)), (0, .ref (a 0)), (1, .int zv), (2, .int ki)]) hx hb dX5_zone_83 rfl hl (by decide) rfl (fun ls hl => ?_)
                    refine lv_iinc (v := nI (i + 1)) (lv' := [(4, .int (nI (i + 1))), (3, .int ((nI (cq (q_zm M zv (tn ki)) i)) + 0)), (0, .ref (a 0)), (1, .int zv), (2, .int ki)]) hx hb dX5_zone_84 hl (k := 1) rfl (nI_add i 1) (by decide) rfl (fun ls hl => ?_)
                    refine lv_goto (tgt := 30) hx hb dX5_zone_87 (by decide) ?_
                    have eb : bt (M_choice M) i = true := (mb1 (M_choice M) (by omega)).mp c_7
                    have hq : ((nI (cq (q_zm M zv (tn ki)) i)) + 0) = (nI (cq (q_zm M zv (tn ki)) (i + 1))) := by rw [cq, if_neg (by simp [q_zm, eb, c_8, c_9])]; exact Int32.add_zero _
                    rw [hq] at hl
                    exact ih_i (i + 1) (by omega) ls (lv_sub hl [0, 1, 2, 3, 4] rfl)
                  · refine lv_iconst (v := 1) hx hb dX5_zone_77 (by decide) ?_
                    refine lv_goto (tgt := 82) hx hb dX5_zone_78 (by decide) ?_
                    refine lv_iadd hx hb dX5_zone_82 ?_
                    refine lv_istore_n (lv' := [(3, .int ((nI (cq (q_zm M zv (tn ki)) i)) + 1)), (4, .int (nI i)), (0, .ref (a 0)), (1, .int zv), (2, .int ki)]) hx hb dX5_zone_83 rfl hl (by decide) rfl (fun ls hl => ?_)
                    refine lv_iinc (v := nI (i + 1)) (lv' := [(4, .int (nI (i + 1))), (3, .int ((nI (cq (q_zm M zv (tn ki)) i)) + 1)), (0, .ref (a 0)), (1, .int zv), (2, .int ki)]) hx hb dX5_zone_84 hl (k := 1) rfl (nI_add i 1) (by decide) rfl (fun ls hl => ?_)
                    refine lv_goto (tgt := 30) hx hb dX5_zone_87 (by decide) ?_
                    have eb : bt (M_choice M) i = true := (mb1 (M_choice M) (by omega)).mp c_7
                    have hq : ((nI (cq (q_zm M zv (tn ki)) i)) + 1) = (nI (cq (q_zm M zv (tn ki)) (i + 1))) := by rw [cq, if_pos (by simp [q_zm, eb, c_8, c_9])]; exact nI_1 _
                    rw [hq] at hl
                    exact ih_i (i + 1) (by omega) ls (lv_sub hl [0, 1, 2, 3, 4] rfl)
          exact loop_i n 0 (by omega) ls (lv_sub hl [0, 1, 2, 3, 4] rfl)
        · refine lv_iconst (v := (-1)) hx hb dX5_zone_23 (by decide) ?_
          exact W.iret (v := (-1)) hx hb hr (fun t ht hW => ⟨by rw [w_X5_zone, if_neg c_1, if_neg c_2, if_neg c_3, if_pos c_4], ht⟩) (fun q h => absurd h List.not_mem_nil) dX5_zone_24

def q_yr (M : ModT) (ce : Int32) : Nat → Bool := fun c => bt (M_choice M) c && (decide (M_costs M c < M_costs M (tn ce)) || (decide (M_costs M c = M_costs M (tn ce)) && decide (nI c < ce)))
def w_X5_year (M : ModT) (ce : Int32) (n : Nat) : Int32 := if (w_X5_chosen M ce) = 0 then (-1) else nI (cq (q_yr M ce) n) / 2
theorem mchJ {M : ModT} {ce : Int32} (h : ¬ w_X5_chosen M ce = 0) : ¬ w_X5_isCell M ce = 0 := by
  intro h1
  apply h
  unfold w_X5_chosen
  split
  · rfl
  · simp [h1]
set_option maxHeartbeats 4000000 in
set_option maxRecDepth 100000 in
theorem c_X5_year (l : Launch) (k : KT) (a : Nat → Nat) (M : ModT) (ce : Int32) (n : Nat) (hn : n ≤ 24) (hc : M_cells M = nI n) : MR l yX5_year cX5_year 4 (some .int) (rz 2 42) k [.ref (a 0), .int ce] (mW k a M) (.int (w_X5_year M ce n)) := by
  refine Met.ofW (cc := cX5_year) (maxL := 4) (ret := (some .int)) (by decide) rfl ?_
  intro p e s m args below meth c s₁ B hml hv
  obtain ⟨rfl, hP, hK⟩ := hv
  have hx := B.exec
  have hb := B.bytes
  have hr := B.returns
  have hU : ∀ w ∈ wsL_law, w.before [.ref (a 0), .int ce].toArray s = true := fun w h => atoms_spec (ws := Cond.code yX5_year cX5_year 4 (some .int) :: wsL_law) B.pre w (List.mem_cons_of_mem _ h)
  have hown : s.vm.findClass RX5 = some m.cls := findClass_of_methodNamed B.named
  have hlocks := B.notSynchronized
  have hF : CF p m c cX5_year 4 s [.ref (a 0), .int ce].toArray RX5 := ⟨hx, hb, hml, hown, hU⟩
  have hl := lv_entry ([.ref (a 0), .int ce] : List Value) (n := 4) (Nat.le_of_ble_eq_true rfl)
  rw [lg_entry_eq]
  generalize (lg_sl ([.ref (a 0), .int ce] : List Value) ++ List.replicate (4 - (lg_sl ([.ref (a 0), .int ce] : List Value)).length) Slot.unset).toArray = ls at hl ⊢
  have hl : lv_has ls 4 [(0, .ref (a 0)), (1, .int ce)] := hl
  refine lv_aload_n hx hb dX5_year_0 rfl (lv_at hl 0 rfl) ?_
  refine lv_iload_n hx hb dX5_year_1 rfl (lv_at hl 1 rfl) ?_
  refine rcV (n := 1) (As := [.int ce]) (rest := []) hF (c_X5_chosen l k a M ce ) (hP) hK 0 (ci := 5) rfl rfl rfl uC_X5_chosen uN_X5 uM_X5_183 uI_X5_chosen uE_X5_chosen (by decide +kernel) rfl ⟨Nat.le_of_ble_eq_true rfl, Nat.le_of_ble_eq_true rfl⟩ ⟨Nat.zero_le _, Nat.zero_le _⟩ hl.1 rfl (Nat.le_of_ble_eq_true rfl) dX5_year_2 ?_
  refine lv_if_ne (tgt := 10) hx hb dX5_year_5 (by decide) (fun c_1 => ?_) (fun c_1 => ?_)
  · refine lv_iconst (v := 0) hx hb dX5_year_10 (by decide) ?_
    refine lv_istore_n (lv' := [(2, .int 0), (0, .ref (a 0)), (1, .int ce)]) hx hb dX5_year_11 rfl hl (by decide) rfl (fun ls hl => ?_)
    refine lv_iconst (v := 0) hx hb dX5_year_12 (by decide) ?_
    refine lv_istore_n (lv' := [(3, .int 0), (2, .int 0), (0, .ref (a 0)), (1, .int ce)]) hx hb dX5_year_13 rfl hl (by decide) rfl (fun ls hl => ?_)
    have loop_i : ∀ (ri i : Nat), i + ri * 1 = n → ∀ (ls : Array Slot) , lv_has ls 4 [(3, .int (nI i)), (2, .int (nI (cq (q_yr M ce) i))), (0, .ref (a 0)), (1, .int ce)] → WR p l e s m below meth c yX5_year cX5_year 4 (some .int) (rz 2 42) [.ref (a 0), .int ce] (.int (w_X5_year M ce n)) (F0 m 14 ls []) := by
      intro ri
      induction ri with
      | zero =>
        intro i hi_i ls hl
        have he_i : n = i := by omega
        subst he_i
        refine lv_iload_n hx hb dX5_year_14 rfl (lv_at hl 0 rfl) ?_
        refine lv_aload_n hx hb dX5_year_15 rfl (lv_at hl 2 rfl) ?_
        refine va_get (D := k.1) (ci := 5) (v := .int (M_cells M)) (C := RX5) (T := TX5) (N := 27) hx hb hU inlX5 hown hK.1 hP 0 rfl rfl 0 (by decide) (hU _ uF_X5_49) (fun _ h9 => h9) rfl dX5_year_16 ?_
        refine xb_ge (tgt := 84) hx hb dX5_year_19 (by decide) (fun c_2 => ?_) (fun c9 => absurd c9 (by rw [hc]; exact nI_nlt (a := n) (b := n) (Nat.le_refl _) (by omega)))
        refine lv_iload_n hx hb dX5_year_84 rfl (lv_at hl 1 rfl) ?_
        refine lv_iconst (v := 2) hx hb dX5_year_85 (by decide) ?_
        refine lv_idiv hx hb dX5_year_86 (by decide) ?_
        exact W.iret (v := ((nI (cq (q_yr M ce) n)) / 2)) hx hb hr (fun t ht hW => ⟨by rw [w_X5_year, if_neg c_1], ht⟩) (fun q h => absurd h List.not_mem_nil) dX5_year_87
      | succ ri ih_i =>
        intro i hi_i ls hl
        have ht_i : i < n := by omega
        refine lv_iload_n hx hb dX5_year_14 rfl (lv_at hl 0 rfl) ?_
        refine lv_aload_n hx hb dX5_year_15 rfl (lv_at hl 2 rfl) ?_
        refine va_get (D := k.1) (ci := 5) (v := .int (M_cells M)) (C := RX5) (T := TX5) (N := 27) hx hb hU inlX5 hown hK.1 hP 0 rfl rfl 0 (by decide) (hU _ uF_X5_49) (fun _ h9 => h9) rfl dX5_year_16 ?_
        refine xb_ge (tgt := 84) hx hb dX5_year_19 (by decide) (fun c9 => absurd (by rw [hc]; exact nI_lt (a := i) (b := n) (by omega) (by omega)) c9) (fun c_3 => ?_)
        refine lv_iload_n hx hb dX5_year_22 rfl (lv_at hl 1 rfl) ?_
        refine lv_aload_n hx hb dX5_year_23 rfl (lv_at hl 2 rfl) ?_
        refine va_get (D := k.1) (ci := 5) (v := .int (M_choice M)) (C := RX5) (T := TX5) (N := 27) hx hb hU inlX5 hown hK.1 hP 0 rfl rfl 17 (by decide) (hU _ uF_X5_124) (fun _ h9 => h9) rfl dX5_year_24 ?_
        refine lv_iload_n hx hb dX5_year_27 rfl (lv_at hl 0 rfl) ?_
        refine rcS (n := 2) (As := [.int (M_choice M), .int (nI i)]) (rest := [.int (nI (cq (q_yr M ce) i))]) hF (c_X5_has l k  (M_choice M) (nI i) ) (hP.sub (ws' := []) [] rfl) hK uC_X5_has uN_X5 uM_X5_95 uS_X5_has (by decide +kernel) rfl ⟨Nat.le_of_ble_eq_true rfl, Nat.le_of_ble_eq_true rfl⟩ ⟨Nat.zero_le _, Nat.zero_le _⟩ hl.1 rfl (Nat.le_of_ble_eq_true rfl) dX5_year_28 ?_
        refine lv_if_eq (tgt := 75) hx hb dX5_year_31 (by decide) (fun c_4 => ?_) (fun c_4 => ?_)
        · refine lv_iconst (v := 0) hx hb dX5_year_75 (by decide) ?_
          refine lv_iadd hx hb dX5_year_76 ?_
          refine lv_istore_n (lv' := [(2, .int ((nI (cq (q_yr M ce) i)) + 0)), (3, .int (nI i)), (0, .ref (a 0)), (1, .int ce)]) hx hb dX5_year_77 rfl hl (by decide) rfl (fun ls hl => ?_)
          refine lv_iinc (v := nI (i + 1)) (lv' := [(3, .int (nI (i + 1))), (2, .int ((nI (cq (q_yr M ce) i)) + 0)), (0, .ref (a 0)), (1, .int ce)]) hx hb dX5_year_78 hl (k := 1) rfl (nI_add i 1) (by decide) rfl (fun ls hl => ?_)
          refine lv_goto (tgt := 14) hx hb dX5_year_81 (by decide) ?_
          have eb : bt (M_choice M) i = false := (mb0 (M_choice M) (by omega)).mp c_4
          have hq : ((nI (cq (q_yr M ce) i)) + 0) = (nI (cq (q_yr M ce) (i + 1))) := by rw [cq, if_neg (by simp [q_yr, eb])]; exact Int32.add_zero _
          rw [hq] at hl
          exact ih_i (i + 1) (by omega) ls (lv_sub hl [0, 1, 2, 3] rfl)
        · refine lv_aload_n hx hb dX5_year_34 rfl (lv_at hl 2 rfl) ?_
          refine va_get (D := k.1) (ci := 5) (v := .ref (a 1)) (C := RX5) (T := TX5) (N := 27) hx hb hU inlX5 hown hK.1 hP 0 rfl rfl 1 (by decide) (hU _ uF_X5_7) (fun _ h9 => h9) rfl dX5_year_35 ?_
          refine lv_iload_n hx hb dX5_year_38 rfl (lv_at hl 0 rfl) ?_
          refine xa_lald hx hb hK.1 hP 1 1 rfl rfl (j := i) rfl (by omega) (by decide) dX5_year_39 ?_
          refine lv_aload_n hx hb dX5_year_40 rfl (lv_at hl 2 rfl) ?_
          refine va_get (D := k.1) (ci := 5) (v := .ref (a 1)) (C := RX5) (T := TX5) (N := 27) hx hb hU inlX5 hown hK.1 hP 0 rfl rfl 1 (by decide) (hU _ uF_X5_7) (fun _ h9 => h9) rfl dX5_year_41 ?_
          refine lv_iload_n hx hb dX5_year_44 rfl (lv_at hl 3 rfl) ?_
          refine xa_lald hx hb hK.1 hP 1 1 rfl rfl (j := (tn ce)) (mcJ hn hc (mchJ c_1)).2 (by have := (mcJ hn hc (mchJ c_1)).1; omega) (by decide) dX5_year_45 ?_
          refine xl_lt (tgt := 71) hx hb dX5_year_46 dX5_year_47 (by decide) (fun c_5 => ?_) (fun c_5 => ?_)
          · refine lv_iconst (v := 1) hx hb dX5_year_71 (by decide) ?_
            refine lv_goto (tgt := 76) hx hb dX5_year_72 (by decide) ?_
            refine lv_iadd hx hb dX5_year_76 ?_
            refine lv_istore_n (lv' := [(2, .int ((nI (cq (q_yr M ce) i)) + 1)), (3, .int (nI i)), (0, .ref (a 0)), (1, .int ce)]) hx hb dX5_year_77 rfl hl (by decide) rfl (fun ls hl => ?_)
            refine lv_iinc (v := nI (i + 1)) (lv' := [(3, .int (nI (i + 1))), (2, .int ((nI (cq (q_yr M ce) i)) + 1)), (0, .ref (a 0)), (1, .int ce)]) hx hb dX5_year_78 hl (k := 1) rfl (nI_add i 1) (by decide) rfl (fun ls hl => ?_)
            refine lv_goto (tgt := 14) hx hb dX5_year_81 (by decide) ?_
            have eb : bt (M_choice M) i = true := (mb1 (M_choice M) (by omega)).mp c_4
            have hq : ((nI (cq (q_yr M ce) i)) + 1) = (nI (cq (q_yr M ce) (i + 1))) := by rw [cq, if_pos (by simp [q_yr, eb, c_5])]; exact nI_1 _
            rw [hq] at hl
            exact ih_i (i + 1) (by omega) ls (lv_sub hl [0, 1, 2, 3] rfl)
          · refine lv_aload_n hx hb dX5_year_50 rfl (lv_at hl 2 rfl) ?_
            refine va_get (D := k.1) (ci := 5) (v := .ref (a 1)) (C := RX5) (T := TX5) (N := 27) hx hb hU inlX5 hown hK.1 hP 0 rfl rfl 1 (by decide) (hU _ uF_X5_7) (fun _ h9 => h9) rfl dX5_year_51 ?_
            refine lv_iload_n hx hb dX5_year_54 rfl (lv_at hl 0 rfl) ?_
            refine xa_lald hx hb hK.1 hP 1 1 rfl rfl (j := i) rfl (by omega) (by decide) dX5_year_55 ?_
            refine lv_aload_n hx hb dX5_year_56 rfl (lv_at hl 2 rfl) ?_
            refine va_get (D := k.1) (ci := 5) (v := .ref (a 1)) (C := RX5) (T := TX5) (N := 27) hx hb hU inlX5 hown hK.1 hP 0 rfl rfl 1 (by decide) (hU _ uF_X5_7) (fun _ h9 => h9) rfl dX5_year_57 ?_
            refine lv_iload_n hx hb dX5_year_60 rfl (lv_at hl 3 rfl) ?_
            refine xa_lald hx hb hK.1 hP 1 1 rfl rfl (j := (tn ce)) (mcJ hn hc (mchJ c_1)).2 (by have := (mcJ hn hc (mchJ c_1)).1; omega) (by decide) dX5_year_61 ?_
            refine xl_ne (tgt := 75) hx hb dX5_year_62 dX5_year_63 (by decide) (fun c_6 => ?_) (fun c_6 => ?_)
            · refine lv_iconst (v := 0) hx hb dX5_year_75 (by decide) ?_
              refine lv_iadd hx hb dX5_year_76 ?_
              refine lv_istore_n (lv' := [(2, .int ((nI (cq (q_yr M ce) i)) + 0)), (3, .int (nI i)), (0, .ref (a 0)), (1, .int ce)]) hx hb dX5_year_77 rfl hl (by decide) rfl (fun ls hl => ?_)
              refine lv_iinc (v := nI (i + 1)) (lv' := [(3, .int (nI (i + 1))), (2, .int ((nI (cq (q_yr M ce) i)) + 0)), (0, .ref (a 0)), (1, .int ce)]) hx hb dX5_year_78 hl (k := 1) rfl (nI_add i 1) (by decide) rfl (fun ls hl => ?_)
              refine lv_goto (tgt := 14) hx hb dX5_year_81 (by decide) ?_
              have eb : bt (M_choice M) i = true := (mb1 (M_choice M) (by omega)).mp c_4
              have hq : ((nI (cq (q_yr M ce) i)) + 0) = (nI (cq (q_yr M ce) (i + 1))) := by rw [cq, if_neg (by simp [q_yr, eb, c_5, c_6])]; exact Int32.add_zero _
              rw [hq] at hl
              exact ih_i (i + 1) (by omega) ls (lv_sub hl [0, 1, 2, 3] rfl)
            · refine lv_iload_n hx hb dX5_year_66 rfl (lv_at hl 0 rfl) ?_
              refine lv_iload_n hx hb dX5_year_67 rfl (lv_at hl 3 rfl) ?_
              refine xb_ge (tgt := 75) hx hb dX5_year_68 (by decide) (fun c_7 => ?_) (fun c_7 => ?_)
              · refine lv_iconst (v := 0) hx hb dX5_year_75 (by decide) ?_
                refine lv_iadd hx hb dX5_year_76 ?_
                refine lv_istore_n (lv' := [(2, .int ((nI (cq (q_yr M ce) i)) + 0)), (3, .int (nI i)), (0, .ref (a 0)), (1, .int ce)]) hx hb dX5_year_77 rfl hl (by decide) rfl (fun ls hl => ?_)
                refine lv_iinc (v := nI (i + 1)) (lv' := [(3, .int (nI (i + 1))), (2, .int ((nI (cq (q_yr M ce) i)) + 0)), (0, .ref (a 0)), (1, .int ce)]) hx hb dX5_year_78 hl (k := 1) rfl (nI_add i 1) (by decide) rfl (fun ls hl => ?_)
                refine lv_goto (tgt := 14) hx hb dX5_year_81 (by decide) ?_
                have eb : bt (M_choice M) i = true := (mb1 (M_choice M) (by omega)).mp c_4
                have hq : ((nI (cq (q_yr M ce) i)) + 0) = (nI (cq (q_yr M ce) (i + 1))) := by rw [cq, if_neg (by simp [q_yr, eb, c_5, c_6, c_7])]; exact Int32.add_zero _
                rw [hq] at hl
                exact ih_i (i + 1) (by omega) ls (lv_sub hl [0, 1, 2, 3] rfl)
              · refine lv_iconst (v := 1) hx hb dX5_year_71 (by decide) ?_
                refine lv_goto (tgt := 76) hx hb dX5_year_72 (by decide) ?_
                refine lv_iadd hx hb dX5_year_76 ?_
                refine lv_istore_n (lv' := [(2, .int ((nI (cq (q_yr M ce) i)) + 1)), (3, .int (nI i)), (0, .ref (a 0)), (1, .int ce)]) hx hb dX5_year_77 rfl hl (by decide) rfl (fun ls hl => ?_)
                refine lv_iinc (v := nI (i + 1)) (lv' := [(3, .int (nI (i + 1))), (2, .int ((nI (cq (q_yr M ce) i)) + 1)), (0, .ref (a 0)), (1, .int ce)]) hx hb dX5_year_78 hl (k := 1) rfl (nI_add i 1) (by decide) rfl (fun ls hl => ?_)
                refine lv_goto (tgt := 14) hx hb dX5_year_81 (by decide) ?_
                have eb : bt (M_choice M) i = true := (mb1 (M_choice M) (by omega)).mp c_4
                have hq : ((nI (cq (q_yr M ce) i)) + 1) = (nI (cq (q_yr M ce) (i + 1))) := by rw [cq, if_pos (by simp [q_yr, eb, c_5, c_6, c_7])]; exact nI_1 _
                rw [hq] at hl
                exact ih_i (i + 1) (by omega) ls (lv_sub hl [0, 1, 2, 3] rfl)
    exact loop_i n 0 (by omega) ls (lv_sub hl [0, 1, 2, 3] rfl)
  · refine lv_iconst (v := (-1)) hx hb dX5_year_8 (by decide) ?_
    exact W.iret (v := (-1)) hx hb hr (fun t ht hW => ⟨by rw [w_X5_year, if_pos c_1], ht⟩) (fun q h => absurd h List.not_mem_nil) dX5_year_9

def uA (M : ModT) : Int32 := if M_hasChoice M = 0 then 0 else M_choice M
def q_un (M : ModT) : Nat → Bool := fun c => decide (¬ w_X5_has (uA M) (nI c) = w_X5_has (M_earlier M) (nI c))
def w_X5_unlike (M : ModT) (cv : Int32) : Int32 := if cv < 0 then (-1) else if 24 < cv then (-1) else nI (cq (q_un M) (tn cv))
set_option maxHeartbeats 4000000 in
set_option maxRecDepth 100000 in
theorem c_X5_unlike (l : Launch) (k : KT) (a : Nat → Nat) (M : ModT) (cv : Int32)  : MR l yX5_unlike cX5_unlike 4 (some .int) (rz 1 21) k [.ref (a 0), .int cv] (mW k a M) (.int (w_X5_unlike M cv)) := by
  refine Met.ofW (cc := cX5_unlike) (maxL := 4) (ret := (some .int)) (by decide) rfl ?_
  intro p e s m args below meth c s₁ B hml hv
  obtain ⟨rfl, hP, hK⟩ := hv
  have hx := B.exec
  have hb := B.bytes
  have hr := B.returns
  have hU : ∀ w ∈ wsL_law, w.before [.ref (a 0), .int cv].toArray s = true := fun w h => atoms_spec (ws := Cond.code yX5_unlike cX5_unlike 4 (some .int) :: wsL_law) B.pre w (List.mem_cons_of_mem _ h)
  have hown : s.vm.findClass RX5 = some m.cls := findClass_of_methodNamed B.named
  have hlocks := B.notSynchronized
  have hF : CF p m c cX5_unlike 4 s [.ref (a 0), .int cv].toArray RX5 := ⟨hx, hb, hml, hown, hU⟩
  have hl := lv_entry ([.ref (a 0), .int cv] : List Value) (n := 4) (Nat.le_of_ble_eq_true rfl)
  rw [lg_entry_eq]
  generalize (lg_sl ([.ref (a 0), .int cv] : List Value) ++ List.replicate (4 - (lg_sl ([.ref (a 0), .int cv] : List Value)).length) Slot.unset).toArray = ls at hl ⊢
  have hl : lv_has ls 4 [(0, .ref (a 0)), (1, .int cv)] := hl
  refine lv_iload_n hx hb dX5_unlike_0 rfl (lv_at hl 1 rfl) ?_
  refine lv_if_lt (tgt := 10) hx hb dX5_unlike_1 (by decide) (fun c_1 => ?_) (fun c_1 => ?_)
  · refine lv_iconst (v := (-1)) hx hb dX5_unlike_10 (by decide) ?_
    exact W.iret (v := (-1)) hx hb hr (fun t ht hW => ⟨by rw [w_X5_unlike, if_pos c_1], ht⟩) (fun q h => absurd h List.not_mem_nil) dX5_unlike_11
  · refine lv_iload_n hx hb dX5_unlike_4 rfl (lv_at hl 1 rfl) ?_
    refine lv_bipush (v := 24) hx hb dX5_unlike_5 (by decide) ?_
    refine xb_le (tgt := 12) hx hb dX5_unlike_7 (by decide) (fun c_2 => ?_) (fun c_2 => ?_)
    · have hcv := tn_of (x := cv) (n := 25) (by omega) c_1 (fun q => c_2 (Int32.lt_of_lt_of_le (by decide) q))
      obtain ⟨N, hN⟩ : ∃ N : Nat, N = tn cv := ⟨_, rfl⟩
      have hN24 : N ≤ 24 := by rw [hN]; exact Nat.le_of_lt_succ hcv.1
      have hNs : cv = nI N := by rw [hN]; exact hcv.2
      refine lv_iconst (v := 0) hx hb dX5_unlike_12 (by decide) ?_
      refine lv_istore_n (lv' := [(2, .int 0), (0, .ref (a 0)), (1, .int cv)]) hx hb dX5_unlike_13 rfl hl (by decide) rfl (fun ls hl => ?_)
      refine lv_iconst (v := 0) hx hb dX5_unlike_14 (by decide) ?_
      refine lv_istore_n (lv' := [(3, .int 0), (2, .int 0), (0, .ref (a 0)), (1, .int cv)]) hx hb dX5_unlike_15 rfl hl (by decide) rfl (fun ls hl => ?_)
      have loop_i : ∀ (ri i : Nat), i + ri * 1 = N → ∀ (ls : Array Slot) , lv_has ls 4 [(3, .int (nI i)), (2, .int (nI (cq (q_un M) i))), (0, .ref (a 0)), (1, .int cv)] → WR p l e s m below meth c yX5_unlike cX5_unlike 4 (some .int) (rz 1 21) [.ref (a 0), .int cv] (.int (w_X5_unlike M cv)) (F0 m 16 ls []) := by
        intro ri
        induction ri with
        | zero =>
          intro i hi_i ls hl
          have he_i : N = i := by omega
          subst he_i
          refine lv_iload_n hx hb dX5_unlike_16 rfl (lv_at hl 0 rfl) ?_
          refine lv_iload_n hx hb dX5_unlike_17 rfl (lv_at hl 3 rfl) ?_
          refine xb_ge (tgt := 65) hx hb dX5_unlike_18 (by decide) (fun c_3 => ?_) (fun c9 => absurd c9 (by rw [hNs]; exact nI_nlt (a := N) (b := N) (Nat.le_refl _) (by omega)))
          refine lv_iload_n hx hb dX5_unlike_65 rfl (lv_at hl 1 rfl) ?_
          exact W.iret (v := (nI (cq (q_un M) N))) hx hb hr (fun t ht hW => ⟨by rw [w_X5_unlike, if_neg c_1, if_neg c_2, ← hN], ht⟩) (fun q h => absurd h List.not_mem_nil) dX5_unlike_66
        | succ ri ih_i =>
          intro i hi_i ls hl
          have ht_i : i < N := by omega
          refine lv_iload_n hx hb dX5_unlike_16 rfl (lv_at hl 0 rfl) ?_
          refine lv_iload_n hx hb dX5_unlike_17 rfl (lv_at hl 3 rfl) ?_
          refine xb_ge (tgt := 65) hx hb dX5_unlike_18 (by decide) (fun c9 => absurd (by rw [hNs]; exact nI_lt (a := i) (b := N) (by omega) (by omega)) c9) (fun c_4 => ?_)
          refine lv_iload_n hx hb dX5_unlike_21 rfl (lv_at hl 1 rfl) ?_
          refine lv_aload_n hx hb dX5_unlike_22 rfl (lv_at hl 2 rfl) ?_
          refine va_get (D := k.1) (ci := 5) (v := .int (M_hasChoice M)) (C := RX5) (T := TX5) (N := 27) hx hb hU inlX5 hown hK.1 hP 0 rfl rfl 16 (by decide) (hU _ uF_X5_121) (fun _ h9 => h9) rfl dX5_unlike_23 ?_
          refine lv_if_eq (tgt := 36) hx hb dX5_unlike_26 (by decide) (fun c_5 => ?_) (fun c_5 => ?_)
          · refine lv_iconst (v := 0) hx hb dX5_unlike_36 (by decide) ?_
            refine lv_iload_n hx hb dX5_unlike_37 rfl (lv_at hl 0 rfl) ?_
            refine rcS (n := 2) (As := [.int 0, .int (nI i)]) (rest := [.int (nI (cq (q_un M) i))]) hF (c_X5_has l k  0 (nI i) ) (hP.sub (ws' := []) [] rfl) hK uC_X5_has uN_X5 uM_X5_95 uS_X5_has (by decide +kernel) rfl ⟨Nat.le_of_ble_eq_true rfl, Nat.le_of_ble_eq_true rfl⟩ ⟨Nat.zero_le _, Nat.zero_le _⟩ hl.1 rfl (Nat.le_of_ble_eq_true rfl) dX5_unlike_38 ?_
            refine lv_aload_n hx hb dX5_unlike_41 rfl (lv_at hl 2 rfl) ?_
            refine va_get (D := k.1) (ci := 5) (v := .int (M_earlier M)) (C := RX5) (T := TX5) (N := 27) hx hb hU inlX5 hown hK.1 hP 0 rfl rfl 18 (by decide) (hU _ uF_X5_127) (fun _ h9 => h9) rfl dX5_unlike_42 ?_
            refine lv_iload_n hx hb dX5_unlike_45 rfl (lv_at hl 0 rfl) ?_
            refine rcS (n := 2) (As := [.int (M_earlier M), .int (nI i)]) (rest := [.int (w_X5_has 0 (nI i)), .int (nI (cq (q_un M) i))]) hF (c_X5_has l k  (M_earlier M) (nI i) ) (hP.sub (ws' := []) [] rfl) hK uC_X5_has uN_X5 uM_X5_95 uS_X5_has (by decide +kernel) rfl ⟨Nat.le_of_ble_eq_true rfl, Nat.le_of_ble_eq_true rfl⟩ ⟨Nat.zero_le _, Nat.zero_le _⟩ hl.1 rfl (Nat.le_of_ble_eq_true rfl) dX5_unlike_46 ?_
            refine lv_icmp_eq (tgt := 56) hx hb dX5_unlike_49 (by decide) (fun c_6 => ?_) (fun c_6 => ?_)
            · refine lv_iconst (v := 0) hx hb dX5_unlike_56 (by decide) ?_
              refine lv_iadd hx hb dX5_unlike_57 ?_
              refine lv_istore_n (lv' := [(2, .int ((nI (cq (q_un M) i)) + 0)), (3, .int (nI i)), (0, .ref (a 0)), (1, .int cv)]) hx hb dX5_unlike_58 rfl hl (by decide) rfl (fun ls hl => ?_)
              refine lv_iinc (v := nI (i + 1)) (lv' := [(3, .int (nI (i + 1))), (2, .int ((nI (cq (q_un M) i)) + 0)), (0, .ref (a 0)), (1, .int cv)]) hx hb dX5_unlike_59 hl (k := 1) rfl (nI_add i 1) (by decide) rfl (fun ls hl => ?_)
              refine lv_goto (tgt := 16) hx hb dX5_unlike_62 (by decide) ?_
              have hu : uA M = 0 := by rw [uA, if_pos c_5]
              have hq : ((nI (cq (q_un M) i)) + 0) = (nI (cq (q_un M) (i + 1))) := by rw [cq, if_neg (by simp [q_un, hu, c_6])]; exact Int32.add_zero _
              rw [hq] at hl
              exact ih_i (i + 1) (by omega) ls (lv_sub hl [0, 1, 2, 3] rfl)
            · refine lv_iconst (v := 1) hx hb dX5_unlike_52 (by decide) ?_
              refine lv_goto (tgt := 57) hx hb dX5_unlike_53 (by decide) ?_
              refine lv_iadd hx hb dX5_unlike_57 ?_
              refine lv_istore_n (lv' := [(2, .int ((nI (cq (q_un M) i)) + 1)), (3, .int (nI i)), (0, .ref (a 0)), (1, .int cv)]) hx hb dX5_unlike_58 rfl hl (by decide) rfl (fun ls hl => ?_)
              refine lv_iinc (v := nI (i + 1)) (lv' := [(3, .int (nI (i + 1))), (2, .int ((nI (cq (q_un M) i)) + 1)), (0, .ref (a 0)), (1, .int cv)]) hx hb dX5_unlike_59 hl (k := 1) rfl (nI_add i 1) (by decide) rfl (fun ls hl => ?_)
              refine lv_goto (tgt := 16) hx hb dX5_unlike_62 (by decide) ?_
              have hu : uA M = 0 := by rw [uA, if_pos c_5]
              have hq : ((nI (cq (q_un M) i)) + 1) = (nI (cq (q_un M) (i + 1))) := by rw [cq, if_pos (by simp [q_un, hu, c_6])]; exact nI_1 _
              rw [hq] at hl
              exact ih_i (i + 1) (by omega) ls (lv_sub hl [0, 1, 2, 3] rfl)
          · refine lv_aload_n hx hb dX5_unlike_29 rfl (lv_at hl 2 rfl) ?_
            refine va_get (D := k.1) (ci := 5) (v := .int (M_choice M)) (C := RX5) (T := TX5) (N := 27) hx hb hU inlX5 hown hK.1 hP 0 rfl rfl 17 (by decide) (hU _ uF_X5_124) (fun _ h9 => h9) rfl dX5_unlike_30 ?_
            refine lv_goto (tgt := 37) hx hb dX5_unlike_33 (by decide) ?_
            refine lv_iload_n hx hb dX5_unlike_37 rfl (lv_at hl 0 rfl) ?_
            refine rcS (n := 2) (As := [.int (M_choice M), .int (nI i)]) (rest := [.int (nI (cq (q_un M) i))]) hF (c_X5_has l k  (M_choice M) (nI i) ) (hP.sub (ws' := []) [] rfl) hK uC_X5_has uN_X5 uM_X5_95 uS_X5_has (by decide +kernel) rfl ⟨Nat.le_of_ble_eq_true rfl, Nat.le_of_ble_eq_true rfl⟩ ⟨Nat.zero_le _, Nat.zero_le _⟩ hl.1 rfl (Nat.le_of_ble_eq_true rfl) dX5_unlike_38 ?_
            refine lv_aload_n hx hb dX5_unlike_41 rfl (lv_at hl 2 rfl) ?_
            refine va_get (D := k.1) (ci := 5) (v := .int (M_earlier M)) (C := RX5) (T := TX5) (N := 27) hx hb hU inlX5 hown hK.1 hP 0 rfl rfl 18 (by decide) (hU _ uF_X5_127) (fun _ h9 => h9) rfl dX5_unlike_42 ?_
            refine lv_iload_n hx hb dX5_unlike_45 rfl (lv_at hl 0 rfl) ?_
            refine rcS (n := 2) (As := [.int (M_earlier M), .int (nI i)]) (rest := [.int (w_X5_has (M_choice M) (nI i)), .int (nI (cq (q_un M) i))]) hF (c_X5_has l k  (M_earlier M) (nI i) ) (hP.sub (ws' := []) [] rfl) hK uC_X5_has uN_X5 uM_X5_95 uS_X5_has (by decide +kernel) rfl ⟨Nat.le_of_ble_eq_true rfl, Nat.le_of_ble_eq_true rfl⟩ ⟨Nat.zero_le _, Nat.zero_le _⟩ hl.1 rfl (Nat.le_of_ble_eq_true rfl) dX5_unlike_46 ?_
            refine lv_icmp_eq (tgt := 56) hx hb dX5_unlike_49 (by decide) (fun c_7 => ?_) (fun c_7 => ?_)
            · refine lv_iconst (v := 0) hx hb dX5_unlike_56 (by decide) ?_
              refine lv_iadd hx hb dX5_unlike_57 ?_
              refine lv_istore_n (lv' := [(2, .int ((nI (cq (q_un M) i)) + 0)), (3, .int (nI i)), (0, .ref (a 0)), (1, .int cv)]) hx hb dX5_unlike_58 rfl hl (by decide) rfl (fun ls hl => ?_)
              refine lv_iinc (v := nI (i + 1)) (lv' := [(3, .int (nI (i + 1))), (2, .int ((nI (cq (q_un M) i)) + 0)), (0, .ref (a 0)), (1, .int cv)]) hx hb dX5_unlike_59 hl (k := 1) rfl (nI_add i 1) (by decide) rfl (fun ls hl => ?_)
              refine lv_goto (tgt := 16) hx hb dX5_unlike_62 (by decide) ?_
              have hu : uA M = M_choice M := by rw [uA, if_neg c_5]
              have hq : ((nI (cq (q_un M) i)) + 0) = (nI (cq (q_un M) (i + 1))) := by rw [cq, if_neg (by simp [q_un, hu, c_7])]; exact Int32.add_zero _
              rw [hq] at hl
              exact ih_i (i + 1) (by omega) ls (lv_sub hl [0, 1, 2, 3] rfl)
            · refine lv_iconst (v := 1) hx hb dX5_unlike_52 (by decide) ?_
              refine lv_goto (tgt := 57) hx hb dX5_unlike_53 (by decide) ?_
              refine lv_iadd hx hb dX5_unlike_57 ?_
              refine lv_istore_n (lv' := [(2, .int ((nI (cq (q_un M) i)) + 1)), (3, .int (nI i)), (0, .ref (a 0)), (1, .int cv)]) hx hb dX5_unlike_58 rfl hl (by decide) rfl (fun ls hl => ?_)
              refine lv_iinc (v := nI (i + 1)) (lv' := [(3, .int (nI (i + 1))), (2, .int ((nI (cq (q_un M) i)) + 1)), (0, .ref (a 0)), (1, .int cv)]) hx hb dX5_unlike_59 hl (k := 1) rfl (nI_add i 1) (by decide) rfl (fun ls hl => ?_)
              refine lv_goto (tgt := 16) hx hb dX5_unlike_62 (by decide) ?_
              have hu : uA M = M_choice M := by rw [uA, if_neg c_5]
              have hq : ((nI (cq (q_un M) i)) + 1) = (nI (cq (q_un M) (i + 1))) := by rw [cq, if_pos (by simp [q_un, hu, c_7])]; exact nI_1 _
              rw [hq] at hl
              exact ih_i (i + 1) (by omega) ls (lv_sub hl [0, 1, 2, 3] rfl)
      exact loop_i N 0 (by omega) ls (lv_sub hl [0, 1, 2, 3] rfl)
    · refine lv_iconst (v := (-1)) hx hb dX5_unlike_10 (by decide) ?_
      exact W.iret (v := (-1)) hx hb hr (fun t ht hW => ⟨by rw [w_X5_unlike, if_neg c_1, if_pos c_2], ht⟩) (fun q h => absurd h List.not_mem_nil) dX5_unlike_11
