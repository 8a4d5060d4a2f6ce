/-- the sign of an exchange of cell j, and the others -/
def sgI (T : TalT) (j : Nat) : Int32 := if bt (T_cells T) j then (-1) else 1
def othT (T : TalT) (j : Nat) : Int32 := T_cells T &&& ((1 <<< (nI j &&& 31)) ^^^ (-1))
def ex1 (S : SeaT) (T : TalT) (n j : Nat) : TalT :=
  sT_borderLength (sT_cellCosts (sT_farPairs T (T_farPairs T + (sgI T j * w_bitCount (S_tooFar S j &&& othT T j)))) (T_cellCosts T + (Int32.toInt64 (sgI T j) * S_costs S j))) (T_borderLength T + (Int32.toInt64 (sgI T j) * sm (f_bg S j (othT T j)) n))
def exA (S : SeaT) (T : TalT) (j : Nat) : Nat → Nat → Int64
  | 0 => T_amounts T
  | i + 1 => vp_updL (exA S T j i) i (exA S T j i i + (Int32.toInt64 (sgI T j) * S_amounts S (j * 8 + i)))
def exH (S : SeaT) (T : TalT) (j : Nat) : Nat → Nat → Int64
  | 0 => T_hours T
  | i + 1 => vp_updL (exH S T j i) i (exH S T j i i + (Int32.toInt64 (sgI T j) * S_hours S (j * 4 + i)))
def ex_T (S : SeaT) (T : TalT) (n j : Nat) : TalT :=
  sT_cells (sT_hours (sT_amounts (ex1 S T n j) (exA S T j 8)) (exH S T j 4)) (T_cells T ^^^ (1 <<< (nI j &&& 31)))

set_option maxHeartbeats 4000000 in
set_option maxRecDepth 100000 in
theorem c_X3_exchange (l : Launch) (k : KT) (a : Nat → Nat) (S : SeaT) (T : TalT) (dr : Int64) (tr : Int64) (C : ChoT) (F : (Nat → Int32)) (G : GoT) (j : Nat) (n : Nat) (hn : n ≤ 24) (hc : S_cells S = nI n) (hj : j < 24) : MW l yX3_exchange cX3_exchange 5 none (rz 2 48) k [.ref (a 11), .int (nI j)] (xW k a S T dr tr C F G) none (xW k a S (ex_T S T n j) dr tr C F G) := by
  intro sz
  refine Met.ofW (cc := cX3_exchange) (maxL := 5) (ret := none) (by decide) rfl ?_
  intro p e s m args below meth c s₁ B hml hv
  obtain ⟨rfl, hsz, hP, hK, hD0⟩ := hv
  have hx := B.exec
  have hb := B.bytes
  have hr := B.returns
  have hU : ∀ w ∈ wsL_law, w.before [.ref (a 11), .int (nI j)].toArray s = true := fun w h => atoms_spec (ws := Cond.code yX3_exchange cX3_exchange 5 none :: wsL_law) B.pre w (List.mem_cons_of_mem _ h)
  have hown : s.vm.findClass RX3 = some m.cls := findClass_of_methodNamed B.named
  have hlocks := B.notSynchronized
  have hF : CF p m c cX3_exchange 5 s [.ref (a 11), .int (nI j)].toArray RX3 := ⟨hx, hb, hml, hown, hU⟩
  subst hsz
  have hD := hD0.self (sz := s.heap.size)
  generalize hAe : va_A (xW k a S T dr tr C F G) s.heap.size = A at hD ⊢
  have hA : ∀ q : Nat, s.heap.size ≤ q → A q := fun q h => by rw [← hAe]; exact Or.inr h
  have hS : va_S A s.heap s.heap [] := va_S.rf
  have hl := lv_entry ([.ref (a 11), .int (nI j)] : List Value) (n := 5) (Nat.le_of_ble_eq_true rfl)
  rw [lg_entry_eq]
  generalize (lg_sl ([.ref (a 11), .int (nI j)] : List Value) ++ List.replicate (5 - (lg_sl ([.ref (a 11), .int (nI j)] : List Value)).length) Slot.unset).toArray = ls at hl ⊢
  have hl : lv_has ls 5 [(0, .ref (a 11)), (1, .int (nI j))] := hl
  refine lv_aload_n hx hb dX3_exchange_0 rfl (lv_at hl 0 rfl) ?_
  refine va_get (D := k.1) (ci := 3) (v := .int (T_cells T)) (C := RX3) (T := TX3) (N := 7) hx hb hU inlX3 hown hK.1 hP 11 rfl rfl 3 (by decide) (hU _ uF_X3_22) (fun _ h9 => h9) rfl dX3_exchange_1 ?_
  refine lv_iload_n hx hb dX3_exchange_4 rfl (lv_at hl 1 rfl) ?_
  refine rcSN (n := 2) (As := [.int (T_cells T), .int (nI j)]) (rest := []) hF (c_X4_hasBit l k (T_cells T) (nI j)) (hP.sub (ws' := []) [] rfl) hK uC_X4_hasBit uN_X4 nM_X3_39 uS_X4_hasBit (by decide +kernel) rfl ⟨Nat.le_of_ble_eq_true rfl, Nat.le_of_ble_eq_true rfl⟩ ⟨Nat.zero_le _, Nat.zero_le _⟩ hl.1 rfl (Nat.le_of_ble_eq_true rfl) dX3_exchange_5 ?_
  refine lv_if_eq (tgt := 15) hx hb dX3_exchange_8 (by decide) (fun c_1 => ?_) (fun c_1 => ?_)
  · refine lv_iconst (v := 1) hx hb dX3_exchange_15 (by decide) ?_
    refine W.eq (g2 := F0 m 16 ls [.int (sgI T j)]) (by rw [show sgI T j = 1 from (if_neg (by rw [(hb0 (T_cells T) (by omega)).mp c_1]; decide))]) ?_
    refine lv_istore_n (lv' := [(2, .int (sgI T j)), (0, .ref (a 11)), (1, .int (nI j))]) hx hb dX3_exchange_16 rfl hl (by decide) rfl (fun ls hl => ?_)
    refine lv_aload_n hx hb dX3_exchange_17 rfl (lv_at hl 1 rfl) ?_
    refine va_get (D := k.1) (ci := 3) (v := .int (T_cells T)) (C := RX3) (T := TX3) (N := 7) hx hb hU inlX3 hown hK.1 hP 11 rfl rfl 3 (by decide) (hU _ uF_X3_22) (fun _ h9 => h9) rfl dX3_exchange_18 ?_
    refine lv_iconst (v := 1) hx hb dX3_exchange_21 (by decide) ?_
    refine lv_iload_n hx hb dX3_exchange_22 rfl (lv_at hl 2 rfl) ?_
    refine lv_ishl hx hb dX3_exchange_23 ?_
    refine lv_iconst (v := (-1)) hx hb dX3_exchange_24 (by decide) ?_
    refine lv_ixor hx hb dX3_exchange_25 ?_
    refine lv_iand hx hb dX3_exchange_26 ?_
    refine W.eq (g2 := F0 m 27 ls [.int (othT T j)]) rfl ?_
    refine lv_istore_n (lv' := [(3, .int (othT T j)), (2, .int (sgI T j)), (0, .ref (a 11)), (1, .int (nI j))]) hx hb dX3_exchange_27 rfl hl (by decide) rfl (fun ls hl => ?_)
    refine lv_aload_n hx hb dX3_exchange_28 rfl (lv_at hl 2 rfl) ?_
    refine lv_dup hx hb dX3_exchange_29 rfl ?_
    refine va_get (D := k.1) (ci := 3) (v := .int (T_farPairs T)) (C := RX3) (T := TX3) (N := 7) hx hb hU inlX3 hown hK.1 hP 11 rfl rfl 4 (by decide) (hU _ uF_X3_26) (fun _ h9 => h9) rfl dX3_exchange_30 ?_
    refine lv_iload_n hx hb dX3_exchange_33 rfl (lv_at hl 1 rfl) ?_
    refine lv_aload_n hx hb dX3_exchange_34 rfl (lv_at hl 2 rfl) ?_
    refine va_get (D := k.1) (ci := 3) (v := .ref (a 1)) (C := RX3) (T := TX3) (N := 7) hx hb hU inlX3 hown hK.1 hP 11 rfl rfl 0 (by decide) (hU _ uF_X3_9) (fun _ h9 => h9) rfl dX3_exchange_35 ?_
    refine va_getN (D := k.1) (ci := 2) (v := .ref (a 6)) (C := RX2) (T := TX2) (N := 16) hx hb hU inlX2 hown hK.1 hP 1 rfl rfl 4 (by decide) (hK.nf nF_X3_47) (fun _ h9 => h9) rfl dX3_exchange_38 ?_
    refine lv_iload_n hx hb dX3_exchange_41 rfl (lv_at hl 3 rfl) ?_
    refine xa_iald hx hb hK.1 hP 6 0 rfl rfl (j := j) rfl hj (by decide) dX3_exchange_42 ?_
    refine lv_iload_n hx hb dX3_exchange_43 rfl (lv_at hl 0 rfl) ?_
    refine lv_iand hx hb dX3_exchange_44 ?_
    refine rcS (n := 1) (As := [.int (((S_tooFar S) j) &&& (othT T j))]) (rest := [.int (sgI T j), .int (T_farPairs T), .ref (a 11)]) hF (c_J6_bitCount_0f7a4 l k (((S_tooFar S) j) &&& (othT T j))) (hP.sub (ws' := []) [] rfl) hK uC_J6_bitCount_0f7a4 uN_J6 uM_X3_51 uS_J6_bitCount_0f7a4 (by decide +kernel) rfl ⟨Nat.le_of_ble_eq_true rfl, Nat.le_of_ble_eq_true rfl⟩ ⟨Nat.zero_le _, Nat.zero_le _⟩ hl.1 rfl (Nat.le_of_ble_eq_true rfl) dX3_exchange_45 ?_
    refine lv_imul hx hb dX3_exchange_48 ?_
    refine lv_iadd hx hb dX3_exchange_49 ?_
    refine va_put (D := k.1) (ci := 3) (v := .int ((T_farPairs T) + ((sgI T j) * (w_bitCount (((S_tooFar S) j) &&& (othT T j)))))) (ty := .int) (C := RX3) (T := TX3) (N := 7) hx hb hU inlX3 tyX3 tyX3_ok nmX3 hown hK.1 hP hD hS 11 rfl rfl 4 (by decide) (hU _ uF_X3_26) (fun _ h9 => h9) rfl (by decide +kernel) rfl rfl (Nat.le_of_ble_eq_true rfl) dX3_exchange_50 (fun H locs hP hD hS => ?_)
    have hP := pz_x_11_4 k a S T dr tr C F G ((T_farPairs T) + ((sgI T j) * (w_bitCount (((S_tooFar S) j) &&& (othT T j))))) hP
    have hD := dz_x_11_4 k a S T dr tr C F G ((T_farPairs T) + ((sgI T j) * (w_bitCount (((S_tooFar S) j) &&& (othT T j))))) hD
    refine lv_aload_n hx hb dX3_exchange_53 rfl (lv_at hl 2 rfl) ?_
    refine lv_dup hx hb dX3_exchange_54 rfl ?_
    refine va_get (D := k.1) (ci := 3) (v := .long (T_cellCosts T)) (C := RX3) (T := TX3) (N := 7) hx hb hU inlX3 hown hK.1 hP 11 rfl rfl 5 (by decide) (hU _ uF_X3_29) (fun _ h9 => h9) rfl dX3_exchange_55 ?_
    refine lv_iload_n hx hb dX3_exchange_58 rfl (lv_at hl 1 rfl) ?_
    refine lv_i2l (v := (Int32.toInt64 (sgI T j))) hx hb dX3_exchange_59 rfl ?_
    refine lv_aload_n hx hb dX3_exchange_60 rfl (lv_at hl 2 rfl) ?_
    refine va_get (D := k.1) (ci := 3) (v := .ref (a 1)) (C := RX3) (T := TX3) (N := 7) hx hb hU inlX3 hown hK.1 hP 11 rfl rfl 0 (by decide) (hU _ uF_X3_9) (fun _ h9 => h9) rfl dX3_exchange_61 ?_
    refine va_getN (D := k.1) (ci := 2) (v := .ref (a 2)) (C := RX2) (T := TX2) (N := 16) hx hb hU inlX2 hown hK.1 hP 1 rfl rfl 0 (by decide) (hK.nf nF_X3_57) (fun _ h9 => h9) rfl dX3_exchange_64 ?_
    refine lv_iload_n hx hb dX3_exchange_67 rfl (lv_at hl 3 rfl) ?_
    refine xa_lald hx hb hK.1 hP 2 1 rfl rfl (j := j) rfl hj (by decide) dX3_exchange_68 ?_
    refine lv_lmul hx hb dX3_exchange_69 ?_
    refine lv_ladd hx hb dX3_exchange_70 ?_
    refine va_put (D := k.1) (ci := 3) (v := .long ((T_cellCosts T) + ((Int32.toInt64 (sgI T j)) * ((S_costs S) j)))) (ty := .long) (C := RX3) (T := TX3) (N := 7) hx hb hU inlX3 tyX3 tyX3_ok nmX3 hown hK.1 hP hD hS 11 rfl rfl 5 (by decide) (hU _ uF_X3_29) (fun _ h9 => h9) rfl (by decide +kernel) rfl rfl (Nat.le_of_ble_eq_true rfl) dX3_exchange_71 (fun H locs hP hD hS => ?_)
    have hP := pz_x_11_5 k a S (sT_farPairs T ((T_farPairs T) + ((sgI T j) * (w_bitCount (((S_tooFar S) j) &&& (othT T j)))))) dr tr C F G ((T_cellCosts T) + ((Int32.toInt64 (sgI T j)) * ((S_costs S) j))) hP
    have hD := dz_x_11_5 k a S (sT_farPairs T ((T_farPairs T) + ((sgI T j) * (w_bitCount (((S_tooFar S) j) &&& (othT T j)))))) dr tr C F G ((T_cellCosts T) + ((Int32.toInt64 (sgI T j)) * ((S_costs S) j))) hD
    refine lv_aload_n hx hb dX3_exchange_74 rfl (lv_at hl 2 rfl) ?_
    refine lv_dup hx hb dX3_exchange_75 rfl ?_
    refine va_get (D := k.1) (ci := 3) (v := .long (T_borderLength T)) (C := RX3) (T := TX3) (N := 7) hx hb hU inlX3 hown hK.1 hP 11 rfl rfl 6 (by decide) (hU _ uF_X3_33) (fun _ h9 => h9) rfl dX3_exchange_76 ?_
    refine lv_iload_n hx hb dX3_exchange_79 rfl (lv_at hl 1 rfl) ?_
    refine lv_i2l (v := (Int32.toInt64 (sgI T j))) hx hb dX3_exchange_80 rfl ?_
    refine lv_aload_n hx hb dX3_exchange_81 rfl (lv_at hl 2 rfl) ?_
    refine lv_iload_n hx hb dX3_exchange_82 rfl (lv_at hl 3 rfl) ?_
    refine lv_iload_n hx hb dX3_exchange_83 rfl (lv_at hl 0 rfl) ?_
    refine rcV (n := 2) (As := [.int (nI j), .int (othT T j)]) (rest := [.long (Int32.toInt64 (sgI T j)), .long (T_borderLength T), .ref (a 11)]) hF (c_X3_borderGainedBy l k a S (sT_cellCosts (sT_farPairs T ((T_farPairs T) + ((sgI T j) * (w_bitCount (((S_tooFar S) j) &&& (othT T j)))))) ((T_cellCosts T) + ((Int32.toInt64 (sgI T j)) * ((S_costs S) j)))) dr tr C F G (nI j) (othT T j) n hn hc j hj rfl) (hP) hK 11 (ci := 3) rfl rfl rfl uC_X3_borderGainedBy uN_X3 uM_X3_60 uI_X3_borderGainedBy uE_X3_borderGainedBy (by decide +kernel) rfl ⟨Nat.le_of_ble_eq_true rfl, Nat.le_of_ble_eq_true rfl⟩ ⟨Nat.zero_le _, Nat.zero_le _⟩ hl.1 rfl (Nat.le_of_ble_eq_true rfl) dX3_exchange_84 ?_
    refine lv_lmul hx hb dX3_exchange_87 ?_
    refine lv_ladd hx hb dX3_exchange_88 ?_
    refine va_put (D := k.1) (ci := 3) (v := .long ((T_borderLength T) + ((Int32.toInt64 (sgI T j)) * (sm (f_bg S j (othT T j)) n)))) (ty := .long) (C := RX3) (T := TX3) (N := 7) hx hb hU inlX3 tyX3 tyX3_ok nmX3 hown hK.1 hP hD hS 11 rfl rfl 6 (by decide) (hU _ uF_X3_33) (fun _ h9 => h9) rfl (by decide +kernel) rfl rfl (Nat.le_of_ble_eq_true rfl) dX3_exchange_89 (fun H locs hP hD hS => ?_)
    have hP := pz_x_11_6 k a S (sT_cellCosts (sT_farPairs T ((T_farPairs T) + ((sgI T j) * (w_bitCount (((S_tooFar S) j) &&& (othT T j)))))) ((T_cellCosts T) + ((Int32.toInt64 (sgI T j)) * ((S_costs S) j)))) dr tr C F G ((T_borderLength T) + ((Int32.toInt64 (sgI T j)) * (sm (f_bg S j (othT T j)) n))) hP
    have hD := dz_x_11_6 k a S (sT_cellCosts (sT_farPairs T ((T_farPairs T) + ((sgI T j) * (w_bitCount (((S_tooFar S) j) &&& (othT T j)))))) ((T_cellCosts T) + ((Int32.toInt64 (sgI T j)) * ((S_costs S) j)))) dr tr C F G ((T_borderLength T) + ((Int32.toInt64 (sgI T j)) * (sm (f_bg S j (othT T j)) n))) hD
    have hP : va_P k.1 vwCl (xW k a S (ex1 S T n j) dr tr C F G) H := hP
    have hD : va_D A (xW k a S (ex1 S T n j) dr tr C F G) := hD
    refine lv_iconst (v := 0) hx hb dX3_exchange_92 (by decide) ?_
    refine lv_istore (lv' := [(4, .int 0), (3, .int (othT T j)), (2, .int (sgI T j)), (0, .ref (a 11)), (1, .int (nI j))]) hx hb dX3_exchange_93 hl (by decide) rfl (fun ls hl => ?_)
    have loop_i : ∀ (ri i : Nat), i + ri * 1 = 8 → ∀ (ls : Array Slot) (H : Heap) (locs : List Loc) , lv_has ls 5 [(4, .int (nI i)), (3, .int (othT T j)), (2, .int (sgI T j)), (0, .ref (a 11)), (1, .int (nI j))] → va_P k.1 vwCl (xW k a S (sT_amounts (ex1 S T n j) (exA S T j i)) dr tr C F G) H → va_D A (xW k a S (sT_amounts (ex1 S T n j) (exA S T j i)) dr tr C F G) → va_S A s.heap H locs → WW p l e s m below meth c yX3_exchange cX3_exchange 5 none (rz 2 48) [.ref (a 11), .int (nI j)] none k (xW k a S (ex_T S T n j) dr tr C F G) A H locs (F0 m 95 ls []) := by
      intro ri
      induction ri with
      | zero =>
        intro i hi_i ls H locs hl hP hD hS
        have he_i : 8 = i := by omega
        subst he_i
        refine lv_iload hx hb dX3_exchange_95 (lv_at hl 0 rfl) ?_
        refine lv_bipush (v := 8) hx hb dX3_exchange_97 (by decide) ?_
        refine xb_ge (tgt := 136) hx hb dX3_exchange_99 (by decide) (fun c_2 => ?_) (fun c9 => absurd c9 (nI_nlt (a := 8) (b := 8) (Nat.le_refl _) (by omega)))
        refine lv_iconst (v := 0) hx hb dX3_exchange_136 (by decide) ?_
        refine lv_istore (lv' := [(4, .int 0), (3, .int (othT T j)), (2, .int (sgI T j)), (0, .ref (a 11)), (1, .int (nI j))]) hx hb dX3_exchange_137 hl (by decide) rfl (fun ls hl => ?_)
        have loop_h : ∀ (rh h : Nat), h + rh * 1 = 4 → ∀ (ls : Array Slot) (H : Heap) (locs : List Loc) , lv_has ls 5 [(4, .int (nI h)), (3, .int (othT T j)), (2, .int (sgI T j)), (0, .ref (a 11)), (1, .int (nI j))] → va_P k.1 vwCl (xW k a S (sT_hours (sT_amounts (ex1 S T n j) (exA S T j 8)) (exH S T j h)) dr tr C F G) H → va_D A (xW k a S (sT_hours (sT_amounts (ex1 S T n j) (exA S T j 8)) (exH S T j h)) dr tr C F G) → va_S A s.heap H locs → WW p l e s m below meth c yX3_exchange cX3_exchange 5 none (rz 2 48) [.ref (a 11), .int (nI j)] none k (xW k a S (ex_T S T n j) dr tr C F G) A H locs (F0 m 139 ls []) := by
          intro rh
          induction rh with
          | zero =>
            intro h hi_h ls H locs hl hP hD hS
            have he_h : 4 = h := by omega
            subst he_h
            refine lv_iload hx hb dX3_exchange_139 (lv_at hl 0 rfl) ?_
            refine lv_iconst (v := 4) hx hb dX3_exchange_141 (by decide) ?_
            refine xb_ge (tgt := 178) hx hb dX3_exchange_142 (by decide) (fun c_3 => ?_) (fun c9 => absurd c9 (nI_nlt (a := 4) (b := 4) (Nat.le_refl _) (by omega)))
            refine lv_aload_n hx hb dX3_exchange_178 rfl (lv_at hl 3 rfl) ?_
            refine lv_dup hx hb dX3_exchange_179 rfl ?_
            refine va_get (D := k.1) (ci := 3) (v := .int (T_cells (sT_hours (sT_amounts (ex1 S T n j) (exA S T j 8)) (exH S T j 4)))) (C := RX3) (T := TX3) (N := 7) hx hb hU inlX3 hown hK.1 hP 11 rfl rfl 3 (by decide) (hU _ uF_X3_22) (fun _ h9 => h9) rfl dX3_exchange_180 ?_
            refine lv_iconst (v := 1) hx hb dX3_exchange_183 (by decide) ?_
            refine lv_iload_n hx hb dX3_exchange_184 rfl (lv_at hl 4 rfl) ?_
            refine lv_ishl hx hb dX3_exchange_185 ?_
            refine lv_ixor hx hb dX3_exchange_186 ?_
            refine va_put (D := k.1) (ci := 3) (v := .int ((T_cells (sT_hours (sT_amounts (ex1 S T n j) (exA S T j 8)) (exH S T j 4))) ^^^ (1 <<< ((nI j) &&& 31)))) (ty := .int) (C := RX3) (T := TX3) (N := 7) hx hb hU inlX3 tyX3 tyX3_ok nmX3 hown hK.1 hP hD hS 11 rfl rfl 3 (by decide) (hU _ uF_X3_22) (fun _ h9 => h9) rfl (by decide +kernel) rfl rfl (Nat.le_of_ble_eq_true rfl) dX3_exchange_187 (fun H locs hP hD hS => ?_)
            have hP := pz_x_11_3 k a S (sT_hours (sT_amounts (ex1 S T n j) (exA S T j 8)) (exH S T j 4)) dr tr C F G ((T_cells (sT_hours (sT_amounts (ex1 S T n j) (exA S T j 8)) (exH S T j 4))) ^^^ (1 <<< ((nI j) &&& 31))) hP
            have hD := dz_x_11_3 k a S (sT_hours (sT_amounts (ex1 S T n j) (exA S T j 8)) (exH S T j 4)) dr tr C F G ((T_cells (sT_hours (sT_amounts (ex1 S T n j) (exA S T j 8)) (exH S T j 4))) ^^^ (1 <<< ((nI j) &&& 31))) hD
            have hP9 : va_P k.1 vwCl (xW k a S (ex_T S T n j) dr tr C F G) H := hP
            have hD9 : va_D A (xW k a S (ex_T S T n j) dr tr C F G) := hD
            exact W.vret hx hb hr (fun t ht hW => ⟨⟨rfl, by rw [ht]; exact hP9, hD9⟩, hS.F ht⟩) hS.2.2 dX3_exchange_190
          | succ rh ih_h =>
            intro h hi_h ls H locs hl hP hD hS
            have ht_h : h < 4 := by omega
            refine lv_iload hx hb dX3_exchange_139 (lv_at hl 0 rfl) ?_
            refine lv_iconst (v := 4) hx hb dX3_exchange_141 (by decide) ?_
            refine xb_ge (tgt := 178) hx hb dX3_exchange_142 (by decide) (fun c9 => absurd (nI_lt (a := h) (b := 4) (by omega) (by omega)) c9) (fun c_4 => ?_)
            refine lv_aload_n hx hb dX3_exchange_145 rfl (lv_at hl 3 rfl) ?_
            refine va_get (D := k.1) (ci := 3) (v := .ref (a 13)) (C := RX3) (T := TX3) (N := 7) hx hb hU inlX3 hown hK.1 hP 11 rfl rfl 2 (by decide) (hU _ uF_X3_19) (fun _ h9 => h9) rfl dX3_exchange_146 ?_
            refine lv_iload hx hb dX3_exchange_149 (lv_at hl 0 rfl) ?_
            refine lv_dup2_11 hx hb dX3_exchange_151 rfl rfl ?_
            refine xa_lald hx hb hK.1 hP 13 1 rfl rfl (j := h) rfl (by omega) (by decide) dX3_exchange_152 ?_
            refine lv_iload_n hx hb dX3_exchange_153 rfl (lv_at hl 2 rfl) ?_
            refine lv_i2l (v := (Int32.toInt64 (sgI T j))) hx hb dX3_exchange_154 rfl ?_
            refine lv_aload_n hx hb dX3_exchange_155 rfl (lv_at hl 3 rfl) ?_
            refine va_get (D := k.1) (ci := 3) (v := .ref (a 1)) (C := RX3) (T := TX3) (N := 7) hx hb hU inlX3 hown hK.1 hP 11 rfl rfl 0 (by decide) (hU _ uF_X3_9) (fun _ h9 => h9) rfl dX3_exchange_156 ?_
            refine va_getN (D := k.1) (ci := 2) (v := .ref (a 4)) (C := RX2) (T := TX2) (N := 16) hx hb hU inlX2 hown hK.1 hP 1 rfl rfl 2 (by decide) (hK.nf nF_X3_65) (fun _ h9 => h9) rfl dX3_exchange_159 ?_
            refine lv_iload_n hx hb dX3_exchange_162 rfl (lv_at hl 4 rfl) ?_
            refine lv_iconst (v := 4) hx hb dX3_exchange_163 (by decide) ?_
            refine lv_imul hx hb dX3_exchange_164 ?_
            refine lv_iload hx hb dX3_exchange_165 (lv_at hl 0 rfl) ?_
            refine lv_iadd hx hb dX3_exchange_167 ?_
            refine xa_lald hx hb hK.1 hP 4 1 rfl rfl (j := j * 4 + h) (ix4 j h) (by omega) (by decide) dX3_exchange_168 ?_
            refine lv_lmul hx hb dX3_exchange_169 ?_
            refine lv_ladd hx hb dX3_exchange_170 ?_
            refine xa_last hx hb hK.1 hP hD hS 13 1 rfl rfl (j := h) rfl (by omega) (by decide) dX3_exchange_171 (fun H locs hP hD hS => ?_)
            have hP := pz_x_13 k a S (sT_hours (sT_amounts (ex1 S T n j) (exA S T j 8)) (exH S T j h)) dr tr C F G (vp_updL (T_hours (sT_hours (sT_amounts (ex1 S T n j) (exA S T j 8)) (exH S T j h))) h (((T_hours (sT_hours (sT_amounts (ex1 S T n j) (exA S T j 8)) (exH S T j h))) h) + ((Int32.toInt64 (sgI T j)) * ((S_hours S) (j * 4 + h))))) hP
            have hD := dz_x_13 k a S (sT_hours (sT_amounts (ex1 S T n j) (exA S T j 8)) (exH S T j h)) dr tr C F G (vp_updL (T_hours (sT_hours (sT_amounts (ex1 S T n j) (exA S T j 8)) (exH S T j h))) h (((T_hours (sT_hours (sT_amounts (ex1 S T n j) (exA S T j 8)) (exH S T j h))) h) + ((Int32.toInt64 (sgI T j)) * ((S_hours S) (j * 4 + h))))) hD
            refine lv_iinc (v := nI (h + 1)) (lv' := [(4, .int (nI (h + 1))), (3, .int (othT T j)), (2, .int (sgI T j)), (0, .ref (a 11)), (1, .int (nI j))]) hx hb dX3_exchange_172 hl (k := 0) rfl (nI_add h 1) (by decide) rfl (fun ls hl => ?_)
            refine lv_goto (tgt := 139) hx hb dX3_exchange_175 (by decide) ?_
            exact ih_h (h + 1) (by omega) ls _ _ (lv_sub hl [0, 1, 2, 3, 4] rfl) hP hD hS
        exact loop_h 4 0 (by omega) ls _ _ (lv_sub hl [0, 1, 2, 3, 4] rfl) hP hD hS
      | succ ri ih_i =>
        intro i hi_i ls H locs hl hP hD hS
        have ht_i : i < 8 := by omega
        refine lv_iload hx hb dX3_exchange_95 (lv_at hl 0 rfl) ?_
        refine lv_bipush (v := 8) hx hb dX3_exchange_97 (by decide) ?_
        refine xb_ge (tgt := 136) hx hb dX3_exchange_99 (by decide) (fun c9 => absurd (nI_lt (a := i) (b := 8) (by omega) (by omega)) c9) (fun c_5 => ?_)
        refine lv_aload_n hx hb dX3_exchange_102 rfl (lv_at hl 3 rfl) ?_
        refine va_get (D := k.1) (ci := 3) (v := .ref (a 12)) (C := RX3) (T := TX3) (N := 7) hx hb hU inlX3 hown hK.1 hP 11 rfl rfl 1 (by decide) (hU _ uF_X3_15) (fun _ h9 => h9) rfl dX3_exchange_103 ?_
        refine lv_iload hx hb dX3_exchange_106 (lv_at hl 0 rfl) ?_
        refine lv_dup2_11 hx hb dX3_exchange_108 rfl rfl ?_
        refine xa_lald hx hb hK.1 hP 12 1 rfl rfl (j := i) rfl (by omega) (by decide) dX3_exchange_109 ?_
        refine lv_iload_n hx hb dX3_exchange_110 rfl (lv_at hl 2 rfl) ?_
        refine lv_i2l (v := (Int32.toInt64 (sgI T j))) hx hb dX3_exchange_111 rfl ?_
        refine lv_aload_n hx hb dX3_exchange_112 rfl (lv_at hl 3 rfl) ?_
        refine va_get (D := k.1) (ci := 3) (v := .ref (a 1)) (C := RX3) (T := TX3) (N := 7) hx hb hU inlX3 hown hK.1 hP 11 rfl rfl 0 (by decide) (hU _ uF_X3_9) (fun _ h9 => h9) rfl dX3_exchange_113 ?_
        refine va_getN (D := k.1) (ci := 2) (v := .ref (a 3)) (C := RX2) (T := TX2) (N := 16) hx hb hU inlX2 hown hK.1 hP 1 rfl rfl 1 (by decide) (hK.nf nF_X3_64) (fun _ h9 => h9) rfl dX3_exchange_116 ?_
        refine lv_iload_n hx hb dX3_exchange_119 rfl (lv_at hl 4 rfl) ?_
        refine lv_bipush (v := 8) hx hb dX3_exchange_120 (by decide) ?_
        refine lv_imul hx hb dX3_exchange_122 ?_
        refine lv_iload hx hb dX3_exchange_123 (lv_at hl 0 rfl) ?_
        refine lv_iadd hx hb dX3_exchange_125 ?_
        refine xa_lald hx hb hK.1 hP 3 1 rfl rfl (j := j * 8 + i) (ix8 j i) (by omega) (by decide) dX3_exchange_126 ?_
        refine lv_lmul hx hb dX3_exchange_127 ?_
        refine lv_ladd hx hb dX3_exchange_128 ?_
        refine xa_last hx hb hK.1 hP hD hS 12 1 rfl rfl (j := i) rfl (by omega) (by decide) dX3_exchange_129 (fun H locs hP hD hS => ?_)
        have hP := pz_x_12 k a S (sT_amounts (ex1 S T n j) (exA S T j i)) dr tr C F G (vp_updL (T_amounts (sT_amounts (ex1 S T n j) (exA S T j i))) i (((T_amounts (sT_amounts (ex1 S T n j) (exA S T j i))) i) + ((Int32.toInt64 (sgI T j)) * ((S_amounts S) (j * 8 + i))))) hP
        have hD := dz_x_12 k a S (sT_amounts (ex1 S T n j) (exA S T j i)) dr tr C F G (vp_updL (T_amounts (sT_amounts (ex1 S T n j) (exA S T j i))) i (((T_amounts (sT_amounts (ex1 S T n j) (exA S T j i))) i) + ((Int32.toInt64 (sgI T j)) * ((S_amounts S) (j * 8 + i))))) hD
        refine lv_iinc (v := nI (i + 1)) (lv' := [(4, .int (nI (i + 1))), (3, .int (othT T j)), (2, .int (sgI T j)), (0, .ref (a 11)), (1, .int (nI j))]) hx hb dX3_exchange_130 hl (k := 0) rfl (nI_add i 1) (by decide) rfl (fun ls hl => ?_)
        refine lv_goto (tgt := 95) hx hb dX3_exchange_133 (by decide) ?_
        exact ih_i (i + 1) (by omega) ls _ _ (lv_sub hl [0, 1, 2, 3, 4] rfl) hP hD hS
    exact loop_i 8 0 (by omega) ls _ _ (lv_sub hl [0, 1, 2, 3, 4] rfl) hP hD hS
  · refine lv_iconst (v := (-1)) hx hb dX3_exchange_11 (by decide) ?_
    refine lv_goto (tgt := 16) hx hb dX3_exchange_12 (by decide) ?_
    refine W.eq (g2 := F0 m 16 ls [.int (sgI T j)]) (by rw [show sgI T j = (-1) from (if_pos ((hb1 (T_cells T) (by omega)).mp c_1))]) ?_
    refine lv_istore_n (lv' := [(2, .int (sgI T j)), (0, .ref (a 11)), (1, .int (nI j))]) hx hb dX3_exchange_16 rfl hl (by decide) rfl (fun ls hl => ?_)
    refine lv_aload_n hx hb dX3_exchange_17 rfl (lv_at hl 1 rfl) ?_
    refine va_get (D := k.1) (ci := 3) (v := .int (T_cells T)) (C := RX3) (T := TX3) (N := 7) hx hb hU inlX3 hown hK.1 hP 11 rfl rfl 3 (by decide) (hU _ uF_X3_22) (fun _ h9 => h9) rfl dX3_exchange_18 ?_
    refine lv_iconst (v := 1) hx hb dX3_exchange_21 (by decide) ?_
    refine lv_iload_n hx hb dX3_exchange_22 rfl (lv_at hl 2 rfl) ?_
    refine lv_ishl hx hb dX3_exchange_23 ?_
    refine lv_iconst (v := (-1)) hx hb dX3_exchange_24 (by decide) ?_
    refine lv_ixor hx hb dX3_exchange_25 ?_
    refine lv_iand hx hb dX3_exchange_26 ?_
    refine W.eq (g2 := F0 m 27 ls [.int (othT T j)]) rfl ?_
    refine lv_istore_n (lv' := [(3, .int (othT T j)), (2, .int (sgI T j)), (0, .ref (a 11)), (1, .int (nI j))]) hx hb dX3_exchange_27 rfl hl (by decide) rfl (fun ls hl => ?_)
    refine lv_aload_n hx hb dX3_exchange_28 rfl (lv_at hl 2 rfl) ?_
    refine lv_dup hx hb dX3_exchange_29 rfl ?_
    refine va_get (D := k.1) (ci := 3) (v := .int (T_farPairs T)) (C := RX3) (T := TX3) (N := 7) hx hb hU inlX3 hown hK.1 hP 11 rfl rfl 4 (by decide) (hU _ uF_X3_26) (fun _ h9 => h9) rfl dX3_exchange_30 ?_
    refine lv_iload_n hx hb dX3_exchange_33 rfl (lv_at hl 1 rfl) ?_
    refine lv_aload_n hx hb dX3_exchange_34 rfl (lv_at hl 2 rfl) ?_
    refine va_get (D := k.1) (ci := 3) (v := .ref (a 1)) (C := RX3) (T := TX3) (N := 7) hx hb hU inlX3 hown hK.1 hP 11 rfl rfl 0 (by decide) (hU _ uF_X3_9) (fun _ h9 => h9) rfl dX3_exchange_35 ?_
    refine va_getN (D := k.1) (ci := 2) (v := .ref (a 6)) (C := RX2) (T := TX2) (N := 16) hx hb hU inlX2 hown hK.1 hP 1 rfl rfl 4 (by decide) (hK.nf nF_X3_47) (fun _ h9 => h9) rfl dX3_exchange_38 ?_
    refine lv_iload_n hx hb dX3_exchange_41 rfl (lv_at hl 3 rfl) ?_
    refine xa_iald hx hb hK.1 hP 6 0 rfl rfl (j := j) rfl hj (by decide) dX3_exchange_42 ?_
    refine lv_iload_n hx hb dX3_exchange_43 rfl (lv_at hl 0 rfl) ?_
    refine lv_iand hx hb dX3_exchange_44 ?_
    refine rcS (n := 1) (As := [.int (((S_tooFar S) j) &&& (othT T j))]) (rest := [.int (sgI T j), .int (T_farPairs T), .ref (a 11)]) hF (c_J6_bitCount_0f7a4 l k (((S_tooFar S) j) &&& (othT T j))) (hP.sub (ws' := []) [] rfl) hK uC_J6_bitCount_0f7a4 uN_J6 uM_X3_51 uS_J6_bitCount_0f7a4 (by decide +kernel) rfl ⟨Nat.le_of_ble_eq_true rfl, Nat.le_of_ble_eq_true rfl⟩ ⟨Nat.zero_le _, Nat.zero_le _⟩ hl.1 rfl (Nat.le_of_ble_eq_true rfl) dX3_exchange_45 ?_
    refine lv_imul hx hb dX3_exchange_48 ?_
    refine lv_iadd hx hb dX3_exchange_49 ?_
    refine va_put (D := k.1) (ci := 3) (v := .int ((T_farPairs T) + ((sgI T j) * (w_bitCount (((S_tooFar S) j) &&& (othT T j)))))) (ty := .int) (C := RX3) (T := TX3) (N := 7) hx hb hU inlX3 tyX3 tyX3_ok nmX3 hown hK.1 hP hD hS 11 rfl rfl 4 (by decide) (hU _ uF_X3_26) (fun _ h9 => h9) rfl (by decide +kernel) rfl rfl (Nat.le_of_ble_eq_true rfl) dX3_exchange_50 (fun H locs hP hD hS => ?_)
    have hP := pz_x_11_4 k a S T dr tr C F G ((T_farPairs T) + ((sgI T j) * (w_bitCount (((S_tooFar S) j) &&& (othT T j))))) hP
    have hD := dz_x_11_4 k a S T dr tr C F G ((T_farPairs T) + ((sgI T j) * (w_bitCount (((S_tooFar S) j) &&& (othT T j))))) hD
    refine lv_aload_n hx hb dX3_exchange_53 rfl (lv_at hl 2 rfl) ?_
    refine lv_dup hx hb dX3_exchange_54 rfl ?_
    refine va_get (D := k.1) (ci := 3) (v := .long (T_cellCosts T)) (C := RX3) (T := TX3) (N := 7) hx hb hU inlX3 hown hK.1 hP 11 rfl rfl 5 (by decide) (hU _ uF_X3_29) (fun _ h9 => h9) rfl dX3_exchange_55 ?_
    refine lv_iload_n hx hb dX3_exchange_58 rfl (lv_at hl 1 rfl) ?_
    refine lv_i2l (v := (Int32.toInt64 (sgI T j))) hx hb dX3_exchange_59 rfl ?_
    refine lv_aload_n hx hb dX3_exchange_60 rfl (lv_at hl 2 rfl) ?_
    refine va_get (D := k.1) (ci := 3) (v := .ref (a 1)) (C := RX3) (T := TX3) (N := 7) hx hb hU inlX3 hown hK.1 hP 11 rfl rfl 0 (by decide) (hU _ uF_X3_9) (fun _ h9 => h9) rfl dX3_exchange_61 ?_
    refine va_getN (D := k.1) (ci := 2) (v := .ref (a 2)) (C := RX2) (T := TX2) (N := 16) hx hb hU inlX2 hown hK.1 hP 1 rfl rfl 0 (by decide) (hK.nf nF_X3_57) (fun _ h9 => h9) rfl dX3_exchange_64 ?_
    refine lv_iload_n hx hb dX3_exchange_67 rfl (lv_at hl 3 rfl) ?_
    refine xa_lald hx hb hK.1 hP 2 1 rfl rfl (j := j) rfl hj (by decide) dX3_exchange_68 ?_
    refine lv_lmul hx hb dX3_exchange_69 ?_
    refine lv_ladd hx hb dX3_exchange_70 ?_
    refine va_put (D := k.1) (ci := 3) (v := .long ((T_cellCosts T) + ((Int32.toInt64 (sgI T j)) * ((S_costs S) j)))) (ty := .long) (C := RX3) (T := TX3) (N := 7) hx hb hU inlX3 tyX3 tyX3_ok nmX3 hown hK.1 hP hD hS 11 rfl rfl 5 (by decide) (hU _ uF_X3_29) (fun _ h9 => h9) rfl (by decide +kernel) rfl rfl (Nat.le_of_ble_eq_true rfl) dX3_exchange_71 (fun H locs hP hD hS => ?_)
    have hP := pz_x_11_5 k a S (sT_farPairs T ((T_farPairs T) + ((sgI T j) * (w_bitCount (((S_tooFar S) j) &&& (othT T j)))))) dr tr C F G ((T_cellCosts T) + ((Int32.toInt64 (sgI T j)) * ((S_costs S) j))) hP
    have hD := dz_x_11_5 k a S (sT_farPairs T ((T_farPairs T) + ((sgI T j) * (w_bitCount (((S_tooFar S) j) &&& (othT T j)))))) dr tr C F G ((T_cellCosts T) + ((Int32.toInt64 (sgI T j)) * ((S_costs S) j))) hD
    refine lv_aload_n hx hb dX3_exchange_74 rfl (lv_at hl 2 rfl) ?_
    refine lv_dup hx hb dX3_exchange_75 rfl ?_
    refine va_get (D := k.1) (ci := 3) (v := .long (T_borderLength T)) (C := RX3) (T := TX3) (N := 7) hx hb hU inlX3 hown hK.1 hP 11 rfl rfl 6 (by decide) (hU _ uF_X3_33) (fun _ h9 => h9) rfl dX3_exchange_76 ?_
    refine lv_iload_n hx hb dX3_exchange_79 rfl (lv_at hl 1 rfl) ?_
    refine lv_i2l (v := (Int32.toInt64 (sgI T j))) hx hb dX3_exchange_80 rfl ?_
    refine lv_aload_n hx hb dX3_exchange_81 rfl (lv_at hl 2 rfl) ?_
    refine lv_iload_n hx hb dX3_exchange_82 rfl (lv_at hl 3 rfl) ?_
    refine lv_iload_n hx hb dX3_exchange_83 rfl (lv_at hl 0 rfl) ?_
    refine rcV (n := 2) (As := [.int (nI j), .int (othT T j)]) (rest := [.long (Int32.toInt64 (sgI T j)), .long (T_borderLength T), .ref (a 11)]) hF (c_X3_borderGainedBy l k a S (sT_cellCosts (sT_farPairs T ((T_farPairs T) + ((sgI T j) * (w_bitCount (((S_tooFar S) j) &&& (othT T j)))))) ((T_cellCosts T) + ((Int32.toInt64 (sgI T j)) * ((S_costs S) j)))) dr tr C F G (nI j) (othT T j) n hn hc j hj rfl) (hP) hK 11 (ci := 3) rfl rfl rfl uC_X3_borderGainedBy uN_X3 uM_X3_60 uI_X3_borderGainedBy uE_X3_borderGainedBy (by decide +kernel) rfl ⟨Nat.le_of_ble_eq_true rfl, Nat.le_of_ble_eq_true rfl⟩ ⟨Nat.zero_le _, Nat.zero_le _⟩ hl.1 rfl (Nat.le_of_ble_eq_true rfl) dX3_exchange_84 ?_
    refine lv_lmul hx hb dX3_exchange_87 ?_
    refine lv_ladd hx hb dX3_exchange_88 ?_
    refine va_put (D := k.1) (ci := 3) (v := .long ((T_borderLength T) + ((Int32.toInt64 (sgI T j)) * (sm (f_bg S j (othT T j)) n)))) (ty := .long) (C := RX3) (T := TX3) (N := 7) hx hb hU inlX3 tyX3 tyX3_ok nmX3 hown hK.1 hP hD hS 11 rfl rfl 6 (by decide) (hU _ uF_X3_33) (fun _ h9 => h9) rfl (by decide +kernel) rfl rfl (Nat.le_of_ble_eq_true rfl) dX3_exchange_89 (fun H locs hP hD hS => ?_)
    have hP := pz_x_11_6 k a S (sT_cellCosts (sT_farPairs T ((T_farPairs T) + ((sgI T j) * (w_bitCount (((S_tooFar S) j) &&& (othT T j)))))) ((T_cellCosts T) + ((Int32.toInt64 (sgI T j)) * ((S_costs S) j)))) dr tr C F G ((T_borderLength T) + ((Int32.toInt64 (sgI T j)) * (sm (f_bg S j (othT T j)) n))) hP
    have hD := dz_x_11_6 k a S (sT_cellCosts (sT_farPairs T ((T_farPairs T) + ((sgI T j) * (w_bitCount (((S_tooFar S) j) &&& (othT T j)))))) ((T_cellCosts T) + ((Int32.toInt64 (sgI T j)) * ((S_costs S) j)))) dr tr C F G ((T_borderLength T) + ((Int32.toInt64 (sgI T j)) * (sm (f_bg S j (othT T j)) n))) hD
    have hP : va_P k.1 vwCl (xW k a S (ex1 S T n j) dr tr C F G) H := hP
    have hD : va_D A (xW k a S (ex1 S T n j) dr tr C F G) := hD
    refine lv_iconst (v := 0) hx hb dX3_exchange_92 (by decide) ?_
    refine lv_istore (lv' := [(4, .int 0), (3, .int (othT T j)), (2, .int (sgI T j)), (0, .ref (a 11)), (1, .int (nI j))]) hx hb dX3_exchange_93 hl (by decide) rfl (fun ls hl => ?_)
    have loop_i : ∀ (ri i : Nat), i + ri * 1 = 8 → ∀ (ls : Array Slot) (H : Heap) (locs : List Loc) , lv_has ls 5 [(4, .int (nI i)), (3, .int (othT T j)), (2, .int (sgI T j)), (0, .ref (a 11)), (1, .int (nI j))] → va_P k.1 vwCl (xW k a S (sT_amounts (ex1 S T n j) (exA S T j i)) dr tr C F G) H → va_D A (xW k a S (sT_amounts (ex1 S T n j) (exA S T j i)) dr tr C F G) → va_S A s.heap H locs → WW p l e s m below meth c yX3_exchange cX3_exchange 5 none (rz 2 48) [.ref (a 11), .int (nI j)] none k (xW k a S (ex_T S T n j) dr tr C F G) A H locs (F0 m 95 ls []) := by
      intro ri
      induction ri with
      | zero =>
        intro i hi_i ls H locs hl hP hD hS
        have he_i : 8 = i := by omega
        subst he_i
        refine lv_iload hx hb dX3_exchange_95 (lv_at hl 0 rfl) ?_
        refine lv_bipush (v := 8) hx hb dX3_exchange_97 (by decide) ?_
        refine xb_ge (tgt := 136) hx hb dX3_exchange_99 (by decide) (fun c_6 => ?_) (fun c9 => absurd c9 (nI_nlt (a := 8) (b := 8) (Nat.le_refl _) (by omega)))
        refine lv_iconst (v := 0) hx hb dX3_exchange_136 (by decide) ?_
        refine lv_istore (lv' := [(4, .int 0), (3, .int (othT T j)), (2, .int (sgI T j)), (0, .ref (a 11)), (1, .int (nI j))]) hx hb dX3_exchange_137 hl (by decide) rfl (fun ls hl => ?_)
        have loop_h : ∀ (rh h : Nat), h + rh * 1 = 4 → ∀ (ls : Array Slot) (H : Heap) (locs : List Loc) , lv_has ls 5 [(4, .int (nI h)), (3, .int (othT T j)), (2, .int (sgI T j)), (0, .ref (a 11)), (1, .int (nI j))] → va_P k.1 vwCl (xW k a S (sT_hours (sT_amounts (ex1 S T n j) (exA S T j 8)) (exH S T j h)) dr tr C F G) H → va_D A (xW k a S (sT_hours (sT_amounts (ex1 S T n j) (exA S T j 8)) (exH S T j h)) dr tr C F G) → va_S A s.heap H locs → WW p l e s m below meth c yX3_exchange cX3_exchange 5 none (rz 2 48) [.ref (a 11), .int (nI j)] none k (xW k a S (ex_T S T n j) dr tr C F G) A H locs (F0 m 139 ls []) := by
          intro rh
          induction rh with
          | zero =>
            intro h hi_h ls H locs hl hP hD hS
            have he_h : 4 = h := by omega
            subst he_h
            refine lv_iload hx hb dX3_exchange_139 (lv_at hl 0 rfl) ?_
            refine lv_iconst (v := 4) hx hb dX3_exchange_141 (by decide) ?_
            refine xb_ge (tgt := 178) hx hb dX3_exchange_142 (by decide) (fun c_7 => ?_) (fun c9 => absurd c9 (nI_nlt (a := 4) (b := 4) (Nat.le_refl _) (by omega)))
            refine lv_aload_n hx hb dX3_exchange_178 rfl (lv_at hl 3 rfl) ?_
            refine lv_dup hx hb dX3_exchange_179 rfl ?_
            refine va_get (D := k.1) (ci := 3) (v := .int (T_cells (sT_hours (sT_amounts (ex1 S T n j) (exA S T j 8)) (exH S T j 4)))) (C := RX3) (T := TX3) (N := 7) hx hb hU inlX3 hown hK.1 hP 11 rfl rfl 3 (by decide) (hU _ uF_X3_22) (fun _ h9 => h9) rfl dX3_exchange_180 ?_
            refine lv_iconst (v := 1) hx hb dX3_exchange_183 (by decide) ?_
            refine lv_iload_n hx hb dX3_exchange_184 rfl (lv_at hl 4 rfl) ?_
            refine lv_ishl hx hb dX3_exchange_185 ?_
            refine lv_ixor hx hb dX3_exchange_186 ?_
            refine va_put (D := k.1) (ci := 3) (v := .int ((T_cells (sT_hours (sT_amounts (ex1 S T n j) (exA S T j 8)) (exH S T j 4))) ^^^ (1 <<< ((nI j) &&& 31)))) (ty := .int) (C := RX3) (T := TX3) (N := 7) hx hb hU inlX3 tyX3 tyX3_ok nmX3 hown hK.1 hP hD hS 11 rfl rfl 3 (by decide) (hU _ uF_X3_22) (fun _ h9 => h9) rfl (by decide +kernel) rfl rfl (Nat.le_of_ble_eq_true rfl) dX3_exchange_187 (fun H locs hP hD hS => ?_)
            have hP := pz_x_11_3 k a S (sT_hours (sT_amounts (ex1 S T n j) (exA S T j 8)) (exH S T j 4)) dr tr C F G ((T_cells (sT_hours (sT_amounts (ex1 S T n j) (exA S T j 8)) (exH S T j 4))) ^^^ (1 <<< ((nI j) &&& 31))) hP
            have hD := dz_x_11_3 k a S (sT_hours (sT_amounts (ex1 S T n j) (exA S T j 8)) (exH S T j 4)) dr tr C F G ((T_cells (sT_hours (sT_amounts (ex1 S T n j) (exA S T j 8)) (exH S T j 4))) ^^^ (1 <<< ((nI j) &&& 31))) hD
            have hP9 : va_P k.1 vwCl (xW k a S (ex_T S T n j) dr tr C F G) H := hP
            have hD9 : va_D A (xW k a S (ex_T S T n j) dr tr C F G) := hD
            exact W.vret hx hb hr (fun t ht hW => ⟨⟨rfl, by rw [ht]; exact hP9, hD9⟩, hS.F ht⟩) hS.2.2 dX3_exchange_190
          | succ rh ih_h =>
            intro h hi_h ls H locs hl hP hD hS
            have ht_h : h < 4 := by omega
            refine lv_iload hx hb dX3_exchange_139 (lv_at hl 0 rfl) ?_
            refine lv_iconst (v := 4) hx hb dX3_exchange_141 (by decide) ?_
            refine xb_ge (tgt := 178) hx hb dX3_exchange_142 (by decide) (fun c9 => absurd (nI_lt (a := h) (b := 4) (by omega) (by omega)) c9) (fun c_8 => ?_)
            refine lv_aload_n hx hb dX3_exchange_145 rfl (lv_at hl 3 rfl) ?_
            refine va_get (D := k.1) (ci := 3) (v := .ref (a 13)) (C := RX3) (T := TX3) (N := 7) hx hb hU inlX3 hown hK.1 hP 11 rfl rfl 2 (by decide) (hU _ uF_X3_19) (fun _ h9 => h9) rfl dX3_exchange_146 ?_
            refine lv_iload hx hb dX3_exchange_149 (lv_at hl 0 rfl) ?_
            refine lv_dup2_11 hx hb dX3_exchange_151 rfl rfl ?_
            refine xa_lald hx hb hK.1 hP 13 1 rfl rfl (j := h) rfl (by omega) (by decide) dX3_exchange_152 ?_
            refine lv_iload_n hx hb dX3_exchange_153 rfl (lv_at hl 2 rfl) ?_
            refine lv_i2l (v := (Int32.toInt64 (sgI T j))) hx hb dX3_exchange_154 rfl ?_
            refine lv_aload_n hx hb dX3_exchange_155 rfl (lv_at hl 3 rfl) ?_
            refine va_get (D := k.1) (ci := 3) (v := .ref (a 1)) (C := RX3) (T := TX3) (N := 7) hx hb hU inlX3 hown hK.1 hP 11 rfl rfl 0 (by decide) (hU _ uF_X3_9) (fun _ h9 => h9) rfl dX3_exchange_156 ?_
            refine va_getN (D := k.1) (ci := 2) (v := .ref (a 4)) (C := RX2) (T := TX2) (N := 16) hx hb hU inlX2 hown hK.1 hP 1 rfl rfl 2 (by decide) (hK.nf nF_X3_65) (fun _ h9 => h9) rfl dX3_exchange_159 ?_
            refine lv_iload_n hx hb dX3_exchange_162 rfl (lv_at hl 4 rfl) ?_
            refine lv_iconst (v := 4) hx hb dX3_exchange_163 (by decide) ?_
            refine lv_imul hx hb dX3_exchange_164 ?_
            refine lv_iload hx hb dX3_exchange_165 (lv_at hl 0 rfl) ?_
            refine lv_iadd hx hb dX3_exchange_167 ?_
            refine xa_lald hx hb hK.1 hP 4 1 rfl rfl (j := j * 4 + h) (ix4 j h) (by omega) (by decide) dX3_exchange_168 ?_
            refine lv_lmul hx hb dX3_exchange_169 ?_
            refine lv_ladd hx hb dX3_exchange_170 ?_
            refine xa_last hx hb hK.1 hP hD hS 13 1 rfl rfl (j := h) rfl (by omega) (by decide) dX3_exchange_171 (fun H locs hP hD hS => ?_)
            have hP := pz_x_13 k a S (sT_hours (sT_amounts (ex1 S T n j) (exA S T j 8)) (exH S T j h)) dr tr C F G (vp_updL (T_hours (sT_hours (sT_amounts (ex1 S T n j) (exA S T j 8)) (exH S T j h))) h (((T_hours (sT_hours (sT_amounts (ex1 S T n j) (exA S T j 8)) (exH S T j h))) h) + ((Int32.toInt64 (sgI T j)) * ((S_hours S) (j * 4 + h))))) hP
            have hD := dz_x_13 k a S (sT_hours (sT_amounts (ex1 S T n j) (exA S T j 8)) (exH S T j h)) dr tr C F G (vp_updL (T_hours (sT_hours (sT_amounts (ex1 S T n j) (exA S T j 8)) (exH S T j h))) h (((T_hours (sT_hours (sT_amounts (ex1 S T n j) (exA S T j 8)) (exH S T j h))) h) + ((Int32.toInt64 (sgI T j)) * ((S_hours S) (j * 4 + h))))) hD
            refine lv_iinc (v := nI (h + 1)) (lv' := [(4, .int (nI (h + 1))), (3, .int (othT T j)), (2, .int (sgI T j)), (0, .ref (a 11)), (1, .int (nI j))]) hx hb dX3_exchange_172 hl (k := 0) rfl (nI_add h 1) (by decide) rfl (fun ls hl => ?_)
            refine lv_goto (tgt := 139) hx hb dX3_exchange_175 (by decide) ?_
            exact ih_h (h + 1) (by omega) ls _ _ (lv_sub hl [0, 1, 2, 3, 4] rfl) hP hD hS
        exact loop_h 4 0 (by omega) ls _ _ (lv_sub hl [0, 1, 2, 3, 4] rfl) hP hD hS
      | succ ri ih_i =>
        intro i hi_i ls H locs hl hP hD hS
        have ht_i : i < 8 := by omega
        refine lv_iload hx hb dX3_exchange_95 (lv_at hl 0 rfl) ?_
        refine lv_bipush (v := 8) hx hb dX3_exchange_97 (by decide) ?_
        refine xb_ge (tgt := 136) hx hb dX3_exchange_99 (by decide) (fun c9 => absurd (nI_lt (a := i) (b := 8) (by omega) (by omega)) c9) (fun c_9 => ?_)
        refine lv_aload_n hx hb dX3_exchange_102 rfl (lv_at hl 3 rfl) ?_
        refine va_get (D := k.1) (ci := 3) (v := .ref (a 12)) (C := RX3) (T := TX3) (N := 7) hx hb hU inlX3 hown hK.1 hP 11 rfl rfl 1 (by decide) (hU _ uF_X3_15) (fun _ h9 => h9) rfl dX3_exchange_103 ?_
        refine lv_iload hx hb dX3_exchange_106 (lv_at hl 0 rfl) ?_
        refine lv_dup2_11 hx hb dX3_exchange_108 rfl rfl ?_
        refine xa_lald hx hb hK.1 hP 12 1 rfl rfl (j := i) rfl (by omega) (by decide) dX3_exchange_109 ?_
        refine lv_iload_n hx hb dX3_exchange_110 rfl (lv_at hl 2 rfl) ?_
        refine lv_i2l (v := (Int32.toInt64 (sgI T j))) hx hb dX3_exchange_111 rfl ?_
        refine lv_aload_n hx hb dX3_exchange_112 rfl (lv_at hl 3 rfl) ?_
        refine va_get (D := k.1) (ci := 3) (v := .ref (a 1)) (C := RX3) (T := TX3) (N := 7) hx hb hU inlX3 hown hK.1 hP 11 rfl rfl 0 (by decide) (hU _ uF_X3_9) (fun _ h9 => h9) rfl dX3_exchange_113 ?_
        refine va_getN (D := k.1) (ci := 2) (v := .ref (a 3)) (C := RX2) (T := TX2) (N := 16) hx hb hU inlX2 hown hK.1 hP 1 rfl rfl 1 (by decide) (hK.nf nF_X3_64) (fun _ h9 => h9) rfl dX3_exchange_116 ?_
        refine lv_iload_n hx hb dX3_exchange_119 rfl (lv_at hl 4 rfl) ?_
        refine lv_bipush (v := 8) hx hb dX3_exchange_120 (by decide) ?_
        refine lv_imul hx hb dX3_exchange_122 ?_
        refine lv_iload hx hb dX3_exchange_123 (lv_at hl 0 rfl) ?_
        refine lv_iadd hx hb dX3_exchange_125 ?_
        refine xa_lald hx hb hK.1 hP 3 1 rfl rfl (j := j * 8 + i) (ix8 j i) (by omega) (by decide) dX3_exchange_126 ?_
        refine lv_lmul hx hb dX3_exchange_127 ?_
        refine lv_ladd hx hb dX3_exchange_128 ?_
        refine xa_last hx hb hK.1 hP hD hS 12 1 rfl rfl (j := i) rfl (by omega) (by decide) dX3_exchange_129 (fun H locs hP hD hS => ?_)
        have hP := pz_x_12 k a S (sT_amounts (ex1 S T n j) (exA S T j i)) dr tr C F G (vp_updL (T_amounts (sT_amounts (ex1 S T n j) (exA S T j i))) i (((T_amounts (sT_amounts (ex1 S T n j) (exA S T j i))) i) + ((Int32.toInt64 (sgI T j)) * ((S_amounts S) (j * 8 + i))))) hP
        have hD := dz_x_12 k a S (sT_amounts (ex1 S T n j) (exA S T j i)) dr tr C F G (vp_updL (T_amounts (sT_amounts (ex1 S T n j) (exA S T j i))) i (((T_amounts (sT_amounts (ex1 S T n j) (exA S T j i))) i) + ((Int32.toInt64 (sgI T j)) * ((S_amounts S) (j * 8 + i))))) hD
        refine lv_iinc (v := nI (i + 1)) (lv' := [(4, .int (nI (i + 1))), (3, .int (othT T j)), (2, .int (sgI T j)), (0, .ref (a 11)), (1, .int (nI j))]) hx hb dX3_exchange_130 hl (k := 0) rfl (nI_add i 1) (by decide) rfl (fun ls hl => ?_)
        refine lv_goto (tgt := 95) hx hb dX3_exchange_133 (by decide) ?_
        exact ih_i (i + 1) (by omega) ls _ _ (lv_sub hl [0, 1, 2, 3, 4] rfl) hP hD hS
    exact loop_i 8 0 (by omega) ls _ _ (lv_sub hl [0, 1, 2, 3, 4] rfl) hP hD hS

/-- Tally.begin: all 0, then the cells of the set one by one -/
def bgA (T : TalT) : Nat → Nat → Int64
  | 0 => T_amounts T
  | i + 1 => vp_updL (bgA T i) i 0
def bgH (T : TalT) : Nat → Nat → Int64
  | 0 => T_hours T
  | i + 1 => vp_updL (bgH T i) i 0
def bg0 (T : TalT) : TalT := sT_borderLength (sT_cellCosts (sT_farPairs (sT_cells T 0) 0) 0) 0
def bgC (T : TalT) : TalT := sT_hours (sT_amounts (bg0 T) (bgA T 8)) (bgH T 4)
def bgT (S : SeaT) (T : TalT) (n : Nat) (set : Int32) : Nat → TalT
  | 0 => bgC T
  | i + 1 => if bt set i then ex_T S (bgT S T n set i) n i else bgT S T n set i

set_option maxHeartbeats 4000000 in
set_option maxRecDepth 100000 in
theorem c_X3_begin (l : Launch) (k : KT) (a : Nat → Nat) (S : SeaT) (T : TalT) (dr : Int64) (tr : Int64) (C : ChoT) (F : (Nat → Int32)) (G : GoT) (set : Int32) (n : Nat) (hn : n ≤ 24) (hc : S_cells S = nI n) : MW l yX3_begin cX3_begin 3 none (rz 3 72) k [.ref (a 11), .int set] (xW k a S T dr tr C F G) none (xW k a S (bgT S T n set n) dr tr C F G) := by
  intro sz
  refine Met.ofW (cc := cX3_begin) (maxL := 3) (ret := none) (by decide) rfl ?_
  intro p e s m args below meth c s₁ B hml hv
  obtain ⟨rfl, hsz, hP, hK, hD0⟩ := hv
  have hx := B.exec
  have hb := B.bytes
  have hr := B.returns
  have hU : ∀ w ∈ wsL_law, w.before [.ref (a 11), .int set].toArray s = true := fun w h => atoms_spec (ws := Cond.code yX3_begin cX3_begin 3 none :: wsL_law) B.pre w (List.mem_cons_of_mem _ h)
  have hown : s.vm.findClass RX3 = some m.cls := findClass_of_methodNamed B.named
  have hlocks := B.notSynchronized
  have hF : CF p m c cX3_begin 3 s [.ref (a 11), .int set].toArray RX3 := ⟨hx, hb, hml, hown, hU⟩
  subst hsz
  have hD := hD0.self (sz := s.heap.size)
  generalize hAe : va_A (xW k a S T dr tr C F G) s.heap.size = A at hD ⊢
  have hA : ∀ q : Nat, s.heap.size ≤ q → A q := fun q h => by rw [← hAe]; exact Or.inr h
  have hS : va_S A s.heap s.heap [] := va_S.rf
  have hl := lv_entry ([.ref (a 11), .int set] : List Value) (n := 3) (Nat.le_of_ble_eq_true rfl)
  rw [lg_entry_eq]
  generalize (lg_sl ([.ref (a 11), .int set] : List Value) ++ List.replicate (3 - (lg_sl ([.ref (a 11), .int set] : List Value)).length) Slot.unset).toArray = ls at hl ⊢
  have hl : lv_has ls 3 [(0, .ref (a 11)), (1, .int set)] := hl
  refine lv_aload_n hx hb dX3_begin_0 rfl (lv_at hl 0 rfl) ?_
  refine lv_iconst (v := 0) hx hb dX3_begin_1 (by decide) ?_
  refine va_put (D := k.1) (ci := 3) (v := .int 0) (ty := .int) (C := RX3) (T := TX3) (N := 7) hx hb hU inlX3 tyX3 tyX3_ok nmX3 hown hK.1 hP hD hS 11 rfl rfl 3 (by decide) (hU _ uF_X3_22) (fun _ h9 => h9) rfl (by decide +kernel) rfl rfl (Nat.le_of_ble_eq_true rfl) dX3_begin_2 (fun H locs hP hD hS => ?_)
  have hP := pz_x_11_3 k a S T dr tr C F G 0 hP
  have hD := dz_x_11_3 k a S T dr tr C F G 0 hD
  refine lv_aload_n hx hb dX3_begin_5 rfl (lv_at hl 0 rfl) ?_
  refine lv_iconst (v := 0) hx hb dX3_begin_6 (by decide) ?_
  refine va_put (D := k.1) (ci := 3) (v := .int 0) (ty := .int) (C := RX3) (T := TX3) (N := 7) hx hb hU inlX3 tyX3 tyX3_ok nmX3 hown hK.1 hP hD hS 11 rfl rfl 4 (by decide) (hU _ uF_X3_26) (fun _ h9 => h9) rfl (by decide +kernel) rfl rfl (Nat.le_of_ble_eq_true rfl) dX3_begin_7 (fun H locs hP hD hS => ?_)
  have hP := pz_x_11_4 k a S (sT_cells T 0) dr tr C F G 0 hP
  have hD := dz_x_11_4 k a S (sT_cells T 0) dr tr C F G 0 hD
  refine lv_aload_n hx hb dX3_begin_10 rfl (lv_at hl 0 rfl) ?_
  refine lv_lconst (v := 0) hx hb dX3_begin_11 (by decide) ?_
  refine va_put (D := k.1) (ci := 3) (v := .long 0) (ty := .long) (C := RX3) (T := TX3) (N := 7) hx hb hU inlX3 tyX3 tyX3_ok nmX3 hown hK.1 hP hD hS 11 rfl rfl 5 (by decide) (hU _ uF_X3_29) (fun _ h9 => h9) rfl (by decide +kernel) rfl rfl (Nat.le_of_ble_eq_true rfl) dX3_begin_12 (fun H locs hP hD hS => ?_)
  have hP := pz_x_11_5 k a S (sT_farPairs (sT_cells T 0) 0) dr tr C F G 0 hP
  have hD := dz_x_11_5 k a S (sT_farPairs (sT_cells T 0) 0) dr tr C F G 0 hD
  refine lv_aload_n hx hb dX3_begin_15 rfl (lv_at hl 0 rfl) ?_
  refine lv_lconst (v := 0) hx hb dX3_begin_16 (by decide) ?_
  refine va_put (D := k.1) (ci := 3) (v := .long 0) (ty := .long) (C := RX3) (T := TX3) (N := 7) hx hb hU inlX3 tyX3 tyX3_ok nmX3 hown hK.1 hP hD hS 11 rfl rfl 6 (by decide) (hU _ uF_X3_33) (fun _ h9 => h9) rfl (by decide +kernel) rfl rfl (Nat.le_of_ble_eq_true rfl) dX3_begin_17 (fun H locs hP hD hS => ?_)
  have hP := pz_x_11_6 k a S (sT_cellCosts (sT_farPairs (sT_cells T 0) 0) 0) dr tr C F G 0 hP
  have hD := dz_x_11_6 k a S (sT_cellCosts (sT_farPairs (sT_cells T 0) 0) 0) dr tr C F G 0 hD
  refine lv_iconst (v := 0) hx hb dX3_begin_20 (by decide) ?_
  refine lv_istore_n (lv' := [(2, .int 0), (0, .ref (a 11)), (1, .int set)]) hx hb dX3_begin_21 rfl hl (by decide) rfl (fun ls hl => ?_)
  have loop_h : ∀ (rh h : Nat), h + rh * 1 = 8 → ∀ (ls : Array Slot) (H : Heap) (locs : List Loc) , lv_has ls 3 [(2, .int (nI h)), (0, .ref (a 11)), (1, .int set)] → va_P k.1 vwCl (xW k a S (sT_amounts (bg0 T) (bgA T h)) dr tr C F G) H → va_D A (xW k a S (sT_amounts (bg0 T) (bgA T h)) dr tr C F G) → va_S A s.heap H locs → WW p l e s m below meth c yX3_begin cX3_begin 3 none (rz 3 72) [.ref (a 11), .int set] none k (xW k a S (bgT S T n set n) dr tr C F G) A H locs (F0 m 22 ls []) := by
    intro rh
    induction rh with
    | zero =>
      intro h hi_h ls H locs hl hP hD hS
      have he_h : 8 = h := by omega
      subst he_h
      refine lv_iload_n hx hb dX3_begin_22 rfl (lv_at hl 0 rfl) ?_
      refine lv_bipush (v := 8) hx hb dX3_begin_23 (by decide) ?_
      refine xb_ge (tgt := 41) hx hb dX3_begin_25 (by decide) (fun c_1 => ?_) (fun c9 => absurd c9 (nI_nlt (a := 8) (b := 8) (Nat.le_refl _) (by omega)))
      refine lv_iconst (v := 0) hx hb dX3_begin_41 (by decide) ?_
      refine lv_istore_n (lv' := [(2, .int 0), (0, .ref (a 11)), (1, .int set)]) hx hb dX3_begin_42 rfl hl (by decide) rfl (fun ls hl => ?_)
      have loop_q : ∀ (rq q : Nat), q + rq * 1 = 4 → ∀ (ls : Array Slot) (H : Heap) (locs : List Loc) , lv_has ls 3 [(2, .int (nI q)), (0, .ref (a 11)), (1, .int set)] → va_P k.1 vwCl (xW k a S (sT_hours (sT_amounts (bg0 T) (bgA T 8)) (bgH T q)) dr tr C F G) H → va_D A (xW k a S (sT_hours (sT_amounts (bg0 T) (bgA T 8)) (bgH T q)) dr tr C F G) → va_S A s.heap H locs → WW p l e s m below meth c yX3_begin cX3_begin 3 none (rz 3 72) [.ref (a 11), .int set] none k (xW k a S (bgT S T n set n) dr tr C F G) A H locs (F0 m 43 ls []) := by
        intro rq
        induction rq with
        | zero =>
          intro q hi_q ls H locs hl hP hD hS
          have he_q : 4 = q := by omega
          subst he_q
          refine lv_iload_n hx hb dX3_begin_43 rfl (lv_at hl 0 rfl) ?_
          refine lv_iconst (v := 4) hx hb dX3_begin_44 (by decide) ?_
          refine xb_ge (tgt := 61) hx hb dX3_begin_45 (by decide) (fun c_2 => ?_) (fun c9 => absurd c9 (nI_nlt (a := 4) (b := 4) (Nat.le_refl _) (by omega)))
          refine lv_iconst (v := 0) hx hb dX3_begin_61 (by decide) ?_
          refine lv_istore_n (lv' := [(2, .int 0), (0, .ref (a 11)), (1, .int set)]) hx hb dX3_begin_62 rfl hl (by decide) rfl (fun ls hl => ?_)
          have loop_i : ∀ (ri i : Nat), i + ri * 1 = n → ∀ (ls : Array Slot) (H : Heap) (locs : List Loc) , lv_has ls 3 [(2, .int (nI i)), (0, .ref (a 11)), (1, .int set)] → va_P k.1 vwCl (xW k a S (bgT S T n set i) dr tr C F G) H → va_D A (xW k a S (bgT S T n set i) dr tr C F G) → va_S A s.heap H locs → WW p l e s m below meth c yX3_begin cX3_begin 3 none (rz 3 72) [.ref (a 11), .int set] none k (xW k a S (bgT S T n set n) dr tr C F G) A H locs (F0 m 63 ls []) := by
            intro ri
            induction ri with
            | zero =>
              intro i hi_i ls H locs hl hP hD hS
              have he_i : n = i := by omega
              subst he_i
              refine lv_iload_n hx hb dX3_begin_63 rfl (lv_at hl 0 rfl) ?_
              refine lv_aload_n hx hb dX3_begin_64 rfl (lv_at hl 1 rfl) ?_
              refine va_get (D := k.1) (ci := 3) (v := .ref (a 1)) (C := RX3) (T := TX3) (N := 7) hx hb hU inlX3 hown hK.1 hP 11 rfl rfl 0 (by decide) (hU _ uF_X3_9) (fun _ h9 => h9) rfl dX3_begin_65 ?_
              refine va_getN (D := k.1) (ci := 2) (v := .int (S_cells S)) (C := RX2) (T := TX2) (N := 16) hx hb hU inlX2 hown hK.1 hP 1 rfl rfl 12 (by decide) (hK.nf nF_X3_36) (fun _ h9 => h9) rfl dX3_begin_68 ?_
              refine xb_ge (tgt := 93) hx hb dX3_begin_71 (by decide) (fun c_3 => ?_) (fun c9 => absurd c9 (by rw [hc]; exact nI_nlt (a := n) (b := n) (Nat.le_refl _) (by omega)))
              have hP9 : va_P k.1 vwCl (xW k a S (bgT S T n set n) dr tr C F G) H := hP
              have hD9 : va_D A (xW k a S (bgT S T n set n) dr tr C F G) := hD
              exact W.vret hx hb hr (fun t ht hW => ⟨⟨rfl, by rw [ht]; exact hP9, hD9⟩, hS.F ht⟩) hS.2.2 dX3_begin_93
            | succ ri ih_i =>
              intro i hi_i ls H locs hl hP hD hS
              have ht_i : i < n := by omega
              refine lv_iload_n hx hb dX3_begin_63 rfl (lv_at hl 0 rfl) ?_
              refine lv_aload_n hx hb dX3_begin_64 rfl (lv_at hl 1 rfl) ?_
              refine va_get (D := k.1) (ci := 3) (v := .ref (a 1)) (C := RX3) (T := TX3) (N := 7) hx hb hU inlX3 hown hK.1 hP 11 rfl rfl 0 (by decide) (hU _ uF_X3_9) (fun _ h9 => h9) rfl dX3_begin_65 ?_
              refine va_getN (D := k.1) (ci := 2) (v := .int (S_cells S)) (C := RX2) (T := TX2) (N := 16) hx hb hU inlX2 hown hK.1 hP 1 rfl rfl 12 (by decide) (hK.nf nF_X3_36) (fun _ h9 => h9) rfl dX3_begin_68 ?_
              refine xb_ge (tgt := 93) hx hb dX3_begin_71 (by decide) (fun c9 => absurd (by rw [hc]; exact nI_lt (a := i) (b := n) (by omega) (by omega)) c9) (fun c_4 => ?_)
              refine lv_iload_n hx hb dX3_begin_74 rfl (lv_at hl 2 rfl) ?_
              refine lv_iload_n hx hb dX3_begin_75 rfl (lv_at hl 0 rfl) ?_
              refine rcSN (n := 2) (As := [.int set, .int (nI i)]) (rest := []) hF (c_X4_hasBit l k set (nI i)) (hP.sub (ws' := []) [] rfl) hK uC_X4_hasBit uN_X4 nM_X3_39 uS_X4_hasBit (by decide +kernel) rfl ⟨Nat.le_of_ble_eq_true rfl, Nat.le_of_ble_eq_true rfl⟩ ⟨Nat.zero_le _, Nat.zero_le _⟩ hl.1 rfl (Nat.le_of_ble_eq_true rfl) dX3_begin_76 ?_
              refine lv_if_eq (tgt := 87) hx hb dX3_begin_79 (by decide) (fun c_5 => ?_) (fun c_5 => ?_)
              · refine lv_iinc (v := nI (i + 1)) (lv' := [(2, .int (nI (i + 1))), (0, .ref (a 11)), (1, .int set)]) hx hb dX3_begin_87 hl (k := 0) rfl (nI_add i 1) (by decide) rfl (fun ls hl => ?_)
                refine lv_goto (tgt := 63) hx hb dX3_begin_90 (by decide) ?_
                have eb : bt set i = false := (hb0 set (by omega)).mp c_5
                have hq : (bgT S T n set i) = (bgT S T n set (i + 1)) := by rw [bgT, if_neg (by rw [eb]; decide)]
                rw [hq] at hP hD
                exact ih_i (i + 1) (by omega) ls _ _ (lv_sub hl [0, 1, 2] rfl) hP hD hS
              · refine lv_aload_n hx hb dX3_begin_82 rfl (lv_at hl 1 rfl) ?_
                refine lv_iload_n hx hb dX3_begin_83 rfl (lv_at hl 0 rfl) ?_
                refine wcV (n := 1) (As := [.int (nI i)]) (rest := []) hF (c_X3_exchange l k a S (bgT S T n set i) dr tr C F G i n hn hc (by omega)) hP hD hS hA hK 11 (ci := 3) rfl rfl rfl uC_X3_exchange uN_X3 uM_X3_43 uI_X3_exchange uE_X3_exchange (by decide +kernel) rfl ⟨Nat.le_of_ble_eq_true rfl, Nat.le_of_ble_eq_true rfl⟩ ⟨Nat.zero_le _, Nat.zero_le _⟩ hl.1 rfl (Nat.le_of_ble_eq_true rfl) dX3_begin_84 (fun H locs hP hD hS => ?_)
                have hP : va_P k.1 vwCl (xW k a S (ex_T S (bgT S T n set i) n i) dr tr C F G) H := hP
                have hD : va_D A (xW k a S (ex_T S (bgT S T n set i) n i) dr tr C F G) := hD
                refine lv_iinc (v := nI (i + 1)) (lv' := [(2, .int (nI (i + 1))), (0, .ref (a 11)), (1, .int set)]) hx hb dX3_begin_87 hl (k := 0) rfl (nI_add i 1) (by decide) rfl (fun ls hl => ?_)
                refine lv_goto (tgt := 63) hx hb dX3_begin_90 (by decide) ?_
                have eb : bt set i = true := (hb1 set (by omega)).mp c_5
                have hq : (ex_T S (bgT S T n set i) n i) = (bgT S T n set (i + 1)) := by rw [bgT, if_pos eb]
                rw [hq] at hP hD
                exact ih_i (i + 1) (by omega) ls _ _ (lv_sub hl [0, 1, 2] rfl) hP hD hS
          exact loop_i n 0 (by omega) ls _ _ (lv_sub hl [0, 1, 2] rfl) hP hD hS
        | succ rq ih_q =>
          intro q hi_q ls H locs hl hP hD hS
          have ht_q : q < 4 := by omega
          refine lv_iload_n hx hb dX3_begin_43 rfl (lv_at hl 0 rfl) ?_
          refine lv_iconst (v := 4) hx hb dX3_begin_44 (by decide) ?_
          refine xb_ge (tgt := 61) hx hb dX3_begin_45 (by decide) (fun c9 => absurd (nI_lt (a := q) (b := 4) (by omega) (by omega)) c9) (fun c_6 => ?_)
          refine lv_aload_n hx hb dX3_begin_48 rfl (lv_at hl 1 rfl) ?_
          refine va_get (D := k.1) (ci := 3) (v := .ref (a 13)) (C := RX3) (T := TX3) (N := 7) hx hb hU inlX3 hown hK.1 hP 11 rfl rfl 2 (by decide) (hU _ uF_X3_19) (fun _ h9 => h9) rfl dX3_begin_49 ?_
          refine lv_iload_n hx hb dX3_begin_52 rfl (lv_at hl 0 rfl) ?_
          refine lv_lconst (v := 0) hx hb dX3_begin_53 (by decide) ?_
          refine xa_last hx hb hK.1 hP hD hS 13 1 rfl rfl (j := q) rfl (by omega) (by decide) dX3_begin_54 (fun H locs hP hD hS => ?_)
          have hP := pz_x_13 k a S (sT_hours (sT_amounts (bg0 T) (bgA T 8)) (bgH T q)) dr tr C F G (vp_updL (T_hours (sT_hours (sT_amounts (bg0 T) (bgA T 8)) (bgH T q))) q 0) hP
          have hD := dz_x_13 k a S (sT_hours (sT_amounts (bg0 T) (bgA T 8)) (bgH T q)) dr tr C F G (vp_updL (T_hours (sT_hours (sT_amounts (bg0 T) (bgA T 8)) (bgH T q))) q 0) hD
          refine lv_iinc (v := nI (q + 1)) (lv' := [(2, .int (nI (q + 1))), (0, .ref (a 11)), (1, .int set)]) hx hb dX3_begin_55 hl (k := 0) rfl (nI_add q 1) (by decide) rfl (fun ls hl => ?_)
          refine lv_goto (tgt := 43) hx hb dX3_begin_58 (by decide) ?_
          exact ih_q (q + 1) (by omega) ls _ _ (lv_sub hl [0, 1, 2] rfl) hP hD hS
      exact loop_q 4 0 (by omega) ls _ _ (lv_sub hl [0, 1, 2] rfl) hP hD hS
    | succ rh ih_h =>
      intro h hi_h ls H locs hl hP hD hS
      have ht_h : h < 8 := by omega
      refine lv_iload_n hx hb dX3_begin_22 rfl (lv_at hl 0 rfl) ?_
      refine lv_bipush (v := 8) hx hb dX3_begin_23 (by decide) ?_
      refine xb_ge (tgt := 41) hx hb dX3_begin_25 (by decide) (fun c9 => absurd (nI_lt (a := h) (b := 8) (by omega) (by omega)) c9) (fun c_7 => ?_)
      refine lv_aload_n hx hb dX3_begin_28 rfl (lv_at hl 1 rfl) ?_
      refine va_get (D := k.1) (ci := 3) (v := .ref (a 12)) (C := RX3) (T := TX3) (N := 7) hx hb hU inlX3 hown hK.1 hP 11 rfl rfl 1 (by decide) (hU _ uF_X3_15) (fun _ h9 => h9) rfl dX3_begin_29 ?_
      refine lv_iload_n hx hb dX3_begin_32 rfl (lv_at hl 0 rfl) ?_
      refine lv_lconst (v := 0) hx hb dX3_begin_33 (by decide) ?_
      refine xa_last hx hb hK.1 hP hD hS 12 1 rfl rfl (j := h) rfl (by omega) (by decide) dX3_begin_34 (fun H locs hP hD hS => ?_)
      have hP := pz_x_12 k a S (sT_amounts (bg0 T) (bgA T h)) dr tr C F G (vp_updL (T_amounts (sT_amounts (bg0 T) (bgA T h))) h 0) hP
      have hD := dz_x_12 k a S (sT_amounts (bg0 T) (bgA T h)) dr tr C F G (vp_updL (T_amounts (sT_amounts (bg0 T) (bgA T h))) h 0) hD
      refine lv_iinc (v := nI (h + 1)) (lv' := [(2, .int (nI (h + 1))), (0, .ref (a 11)), (1, .int set)]) hx hb dX3_begin_35 hl (k := 0) rfl (nI_add h 1) (by decide) rfl (fun ls hl => ?_)
      refine lv_goto (tgt := 22) hx hb dX3_begin_38 (by decide) ?_
      exact ih_h (h + 1) (by omega) ls _ _ (lv_sub hl [0, 1, 2] rfl) hP hD hS
  exact loop_h 8 0 (by omega) ls _ _ (lv_sub hl [0, 1, 2] rfl) hP hD hS
