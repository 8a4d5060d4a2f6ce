set_option maxHeartbeats 4000000 in
set_option maxRecDepth 100000 in
theorem c_X5_count (l : Launch) (k : KT) (a : Nat → Nat) (M : ModT) (set : Int32) (n : Nat) (hn : n ≤ 24) (hc : M_cells M = nI n) : MR l yX5_count cX5_count 4 (some .int) (rz 1 21) k [.ref (a 0), .int set] (mW k a M) (.int (nI (cn set n))) := by
  refine Met.ofW (cc := cX5_count) (maxL := 4) (ret := (some .int)) (by decide) rfl ?_
  intro p e s m args below meth c s₁ B hml hv
  obtain ⟨rfl, hP, hK⟩ := hv
  have hx := B.exec
  have hb := B.bytes
  have hr := B.returns
  have hU : ∀ w ∈ wsL_law, w.before [.ref (a 0), .int set].toArray s = true := fun w h => atoms_spec (ws := Cond.code yX5_count cX5_count 4 (some .int) :: wsL_law) B.pre w (List.mem_cons_of_mem _ h)
  have hown : s.vm.findClass RX5 = some m.cls := findClass_of_methodNamed B.named
  have hlocks := B.notSynchronized
  have hF : CF p m c cX5_count 4 s [.ref (a 0), .int set].toArray RX5 := ⟨hx, hb, hml, hown, hU⟩
  have hl := lv_entry ([.ref (a 0), .int set] : List Value) (n := 4) (Nat.le_of_ble_eq_true rfl)
  rw [lg_entry_eq]
  generalize (lg_sl ([.ref (a 0), .int set] : List Value) ++ List.replicate (4 - (lg_sl ([.ref (a 0), .int set] : List Value)).length) Slot.unset).toArray = ls at hl ⊢
  have hl : lv_has ls 4 [(0, .ref (a 0)), (1, .int set)] := hl
  refine lv_iconst (v := 0) hx hb dX5_count_0 (by decide) ?_
  refine lv_istore_n (lv' := [(2, .int 0), (0, .ref (a 0)), (1, .int set)]) hx hb dX5_count_1 rfl hl (by decide) rfl (fun ls hl => ?_)
  refine lv_iconst (v := 0) hx hb dX5_count_2 (by decide) ?_
  refine lv_istore_n (lv' := [(3, .int 0), (2, .int 0), (0, .ref (a 0)), (1, .int set)]) hx hb dX5_count_3 rfl hl (by decide) rfl (fun ls hl => ?_)
  have loop_i : ∀ (ri i : Nat), i + ri * 1 = n → ∀ (ls : Array Slot) , lv_has ls 4 [(3, .int (nI i)), (2, .int (nI (cn set i))), (0, .ref (a 0)), (1, .int set)] → WR p l e s m below meth c yX5_count cX5_count 4 (some .int) (rz 1 21) [.ref (a 0), .int set] (.int (nI (cn set n))) (F0 m 4 ls []) := by
    intro ri
    induction ri with
    | zero =>
      intro i hi_i ls hl
      have he_i : n = i := by omega
      subst he_i
      refine lv_iload_n hx hb dX5_count_4 rfl (lv_at hl 0 rfl) ?_
      refine lv_aload_n hx hb dX5_count_5 rfl (lv_at hl 2 rfl) ?_
      refine va_get (D := k.1) (ci := 5) (v := .int (M_cells M)) (C := RX5) (T := TX5) (N := 27) hx hb hU inlX5 hown hK.1 hP 0 rfl rfl 0 (by decide) (hU _ uF_X5_49) (fun _ h9 => h9) rfl dX5_count_6 ?_
      refine xb_ge (tgt := 34) hx hb dX5_count_9 (by decide) (fun c_1 => ?_) (fun c9 => absurd c9 (by rw [hc]; exact nI_nlt (a := n) (b := n) (Nat.le_refl _) (by omega)))
      refine lv_iload_n hx hb dX5_count_34 rfl (lv_at hl 1 rfl) ?_
      exact W.iret (v := (nI (cn set n))) hx hb hr (fun t ht hW => ⟨rfl, ht⟩) (fun q h => absurd h List.not_mem_nil) dX5_count_35
    | succ ri ih_i =>
      intro i hi_i ls hl
      have ht_i : i < n := by omega
      refine lv_iload_n hx hb dX5_count_4 rfl (lv_at hl 0 rfl) ?_
      refine lv_aload_n hx hb dX5_count_5 rfl (lv_at hl 2 rfl) ?_
      refine va_get (D := k.1) (ci := 5) (v := .int (M_cells M)) (C := RX5) (T := TX5) (N := 27) hx hb hU inlX5 hown hK.1 hP 0 rfl rfl 0 (by decide) (hU _ uF_X5_49) (fun _ h9 => h9) rfl dX5_count_6 ?_
      refine xb_ge (tgt := 34) hx hb dX5_count_9 (by decide) (fun c9 => absurd (by rw [hc]; exact nI_lt (a := i) (b := n) (by omega) (by omega)) c9) (fun c_2 => ?_)
      refine lv_iload_n hx hb dX5_count_12 rfl (lv_at hl 1 rfl) ?_
      refine lv_iload_n hx hb dX5_count_13 rfl (lv_at hl 3 rfl) ?_
      refine lv_iload_n hx hb dX5_count_14 rfl (lv_at hl 0 rfl) ?_
      refine rcS (n := 2) (As := [.int set, .int (nI i)]) (rest := [.int (nI (cn set i))]) hF (c_X5_has l k  set (nI i) ) (hP.sub (ws' := []) [] rfl) hK uC_X5_has uN_X5 uM_X5_95 uS_X5_has (by decide +kernel) rfl ⟨Nat.le_of_ble_eq_true rfl, Nat.le_of_ble_eq_true rfl⟩ ⟨Nat.zero_le _, Nat.zero_le _⟩ hl.1 rfl (Nat.le_of_ble_eq_true rfl) dX5_count_15 ?_
      refine lv_if_eq (tgt := 25) hx hb dX5_count_18 (by decide) (fun c_3 => ?_) (fun c_3 => ?_)
      · refine lv_iconst (v := 0) hx hb dX5_count_25 (by decide) ?_
        refine lv_iadd hx hb dX5_count_26 ?_
        refine lv_istore_n (lv' := [(2, .int ((nI (cn set i)) + 0)), (3, .int (nI i)), (0, .ref (a 0)), (1, .int set)]) hx hb dX5_count_27 rfl hl (by decide) rfl (fun ls hl => ?_)
        refine lv_iinc (v := nI (i + 1)) (lv' := [(3, .int (nI (i + 1))), (2, .int ((nI (cn set i)) + 0)), (0, .ref (a 0)), (1, .int set)]) hx hb dX5_count_28 hl (k := 1) rfl (nI_add i 1) (by decide) rfl (fun ls hl => ?_)
        refine lv_goto (tgt := 4) hx hb dX5_count_31 (by decide) ?_
        have eb : bt set i = false := (mb0 set (by omega)).mp c_3
        have hq : ((nI (cn set i)) + 0) = (nI (cn set (i + 1))) := by rw [cn, if_neg (by rw [eb]; decide)]; exact Int32.add_zero _
        rw [hq] at hl
        exact ih_i (i + 1) (by omega) ls (lv_sub hl [0, 1, 2, 3] rfl)
      · refine lv_iconst (v := 1) hx hb dX5_count_21 (by decide) ?_
        refine lv_goto (tgt := 26) hx hb dX5_count_22 (by decide) ?_
        refine lv_iadd hx hb dX5_count_26 ?_
        refine lv_istore_n (lv' := [(2, .int ((nI (cn set i)) + 1)), (3, .int (nI i)), (0, .ref (a 0)), (1, .int set)]) hx hb dX5_count_27 rfl hl (by decide) rfl (fun ls hl => ?_)
        refine lv_iinc (v := nI (i + 1)) (lv' := [(3, .int (nI (i + 1))), (2, .int ((nI (cn set i)) + 1)), (0, .ref (a 0)), (1, .int set)]) hx hb dX5_count_28 hl (k := 1) rfl (nI_add i 1) (by decide) rfl (fun ls hl => ?_)
        refine lv_goto (tgt := 4) hx hb dX5_count_31 (by decide) ?_
        have eb : bt set i = true := (mb1 set (by omega)).mp c_3
        have hq : ((nI (cn set i)) + 1) = (nI (cn set (i + 1))) := by rw [cn, if_pos eb]; exact nI_1 _
        rw [hq] at hl
        exact ih_i (i + 1) (by omega) ls (lv_sub hl [0, 1, 2, 3] rfl)
  exact loop_i n 0 (by omega) ls (lv_sub hl [0, 1, 2, 3] rfl)

def opn (M : ModT) : Nat → Int32
  | 0 => 0
  | i + 1 => if M_states M i = 2 then opn M i else opn M i ||| (1 <<< (nI i &&& 31))
set_option maxHeartbeats 4000000 in
set_option maxRecDepth 100000 in
theorem c_X5_open (l : Launch) (k : KT) (a : Nat → Nat) (M : ModT)  (n : Nat) (hn : n ≤ 24) (hc : M_cells M = nI n) : MR l yX5_open cX5_open 3 (some .int) (rz 0 0) k [.ref (a 0)] (mW k a M) (.int (opn M n)) := by
  refine Met.ofW (cc := cX5_open) (maxL := 3) (ret := (some .int)) (by decide) rfl ?_
  intro p e s m args below meth c s₁ B hml hv
  obtain ⟨rfl, hP, hK⟩ := hv
  have hx := B.exec
  have hb := B.bytes
  have hr := B.returns
  have hU : ∀ w ∈ wsL_law, w.before [.ref (a 0)].toArray s = true := fun w h => atoms_spec (ws := Cond.code yX5_open cX5_open 3 (some .int) :: wsL_law) B.pre w (List.mem_cons_of_mem _ h)
  have hown : s.vm.findClass RX5 = some m.cls := findClass_of_methodNamed B.named
  have hlocks := B.notSynchronized
  have hF : CF p m c cX5_open 3 s [.ref (a 0)].toArray RX5 := ⟨hx, hb, hml, hown, hU⟩
  have hl := lv_entry ([.ref (a 0)] : List Value) (n := 3) (Nat.le_of_ble_eq_true rfl)
  rw [lg_entry_eq]
  generalize (lg_sl ([.ref (a 0)] : List Value) ++ List.replicate (3 - (lg_sl ([.ref (a 0)] : List Value)).length) Slot.unset).toArray = ls at hl ⊢
  have hl : lv_has ls 3 [(0, .ref (a 0))] := hl
  refine lv_iconst (v := 0) hx hb dX5_open_0 (by decide) ?_
  refine lv_istore_n (lv' := [(1, .int 0), (0, .ref (a 0))]) hx hb dX5_open_1 rfl hl (by decide) rfl (fun ls hl => ?_)
  refine lv_iconst (v := 0) hx hb dX5_open_2 (by decide) ?_
  refine lv_istore_n (lv' := [(2, .int 0), (1, .int 0), (0, .ref (a 0))]) hx hb dX5_open_3 rfl hl (by decide) rfl (fun ls hl => ?_)
  have loop_i : ∀ (ri i : Nat), i + ri * 1 = n → ∀ (ls : Array Slot) , lv_has ls 3 [(2, .int (nI i)), (1, .int (opn M i)), (0, .ref (a 0))] → WR p l e s m below meth c yX5_open cX5_open 3 (some .int) (rz 0 0) [.ref (a 0)] (.int (opn M n)) (F0 m 4 ls []) := by
    intro ri
    induction ri with
    | zero =>
      intro i hi_i ls hl
      have he_i : n = i := by omega
      subst he_i
      refine lv_iload_n hx hb dX5_open_4 rfl (lv_at hl 0 rfl) ?_
      refine lv_aload_n hx hb dX5_open_5 rfl (lv_at hl 2 rfl) ?_
      refine va_get (D := k.1) (ci := 5) (v := .int (M_cells M)) (C := RX5) (T := TX5) (N := 27) hx hb hU inlX5 hown hK.1 hP 0 rfl rfl 0 (by decide) (hU _ uF_X5_49) (fun _ h9 => h9) rfl dX5_open_6 ?_
      refine xb_ge (tgt := 38) hx hb dX5_open_9 (by decide) (fun c_1 => ?_) (fun c9 => absurd c9 (by rw [hc]; exact nI_nlt (a := n) (b := n) (Nat.le_refl _) (by omega)))
      refine lv_iload_n hx hb dX5_open_38 rfl (lv_at hl 1 rfl) ?_
      exact W.iret (v := (opn M n)) hx hb hr (fun t ht hW => ⟨rfl, ht⟩) (fun q h => absurd h List.not_mem_nil) dX5_open_39
    | succ ri ih_i =>
      intro i hi_i ls hl
      have ht_i : i < n := by omega
      refine lv_iload_n hx hb dX5_open_4 rfl (lv_at hl 0 rfl) ?_
      refine lv_aload_n hx hb dX5_open_5 rfl (lv_at hl 2 rfl) ?_
      refine va_get (D := k.1) (ci := 5) (v := .int (M_cells M)) (C := RX5) (T := TX5) (N := 27) hx hb hU inlX5 hown hK.1 hP 0 rfl rfl 0 (by decide) (hU _ uF_X5_49) (fun _ h9 => h9) rfl dX5_open_6 ?_
      refine xb_ge (tgt := 38) hx hb dX5_open_9 (by decide) (fun c9 => absurd (by rw [hc]; exact nI_lt (a := i) (b := n) (by omega) (by omega)) c9) (fun c_2 => ?_)
      refine lv_aload_n hx hb dX5_open_12 rfl (lv_at hl 2 rfl) ?_
      refine va_get (D := k.1) (ci := 5) (v := .ref (a 2)) (C := RX5) (T := TX5) (N := 27) hx hb hU inlX5 hown hK.1 hP 0 rfl rfl 2 (by decide) (hU _ uF_X5_13) (fun _ h9 => h9) rfl dX5_open_13 ?_
      refine lv_iload_n hx hb dX5_open_16 rfl (lv_at hl 0 rfl) ?_
      refine xa_iald hx hb hK.1 hP 2 0 rfl rfl (j := i) rfl (by omega) (by decide) dX5_open_17 ?_
      refine lv_iconst (v := 2) hx hb dX5_open_18 (by decide) ?_
      refine lv_icmp_ne (tgt := 26) hx hb dX5_open_19 (by decide) (fun c_3 => ?_) (fun c_3 => ?_)
      · refine lv_iload_n hx hb dX5_open_26 rfl (lv_at hl 1 rfl) ?_
        refine lv_iconst (v := 1) hx hb dX5_open_27 (by decide) ?_
        refine lv_iload_n hx hb dX5_open_28 rfl (lv_at hl 0 rfl) ?_
        refine lv_ishl hx hb dX5_open_29 ?_
        refine lv_ior hx hb dX5_open_30 ?_
        refine lv_istore_n (lv' := [(1, .int ((opn M i) ||| (1 <<< ((nI i) &&& 31)))), (2, .int (nI i)), (0, .ref (a 0))]) hx hb dX5_open_31 rfl hl (by decide) rfl (fun ls hl => ?_)
        refine lv_iinc (v := nI (i + 1)) (lv' := [(2, .int (nI (i + 1))), (1, .int ((opn M i) ||| (1 <<< ((nI i) &&& 31)))), (0, .ref (a 0))]) hx hb dX5_open_32 hl (k := 1) rfl (nI_add i 1) (by decide) rfl (fun ls hl => ?_)
        refine lv_goto (tgt := 4) hx hb dX5_open_35 (by decide) ?_
        have hq : ((opn M i) ||| (1 <<< ((nI i) &&& 31))) = (opn M (i + 1)) := by rw [opn, if_neg c_3]
        rw [hq] at hl
        exact ih_i (i + 1) (by omega) ls (lv_sub hl [0, 1, 2] rfl)
      · refine lv_iload_n hx hb dX5_open_22 rfl (lv_at hl 1 rfl) ?_
        refine lv_goto (tgt := 31) hx hb dX5_open_23 (by decide) ?_
        refine lv_istore_n (lv' := [(1, .int (opn M i)), (2, .int (nI i)), (0, .ref (a 0))]) hx hb dX5_open_31 rfl hl (by decide) rfl (fun ls hl => ?_)
        refine lv_iinc (v := nI (i + 1)) (lv' := [(2, .int (nI (i + 1))), (1, .int (opn M i)), (0, .ref (a 0))]) hx hb dX5_open_32 hl (k := 1) rfl (nI_add i 1) (by decide) rfl (fun ls hl => ?_)
        refine lv_goto (tgt := 4) hx hb dX5_open_35 (by decide) ?_
        have hq : (opn M i) = (opn M (i + 1)) := by rw [opn, if_pos c_3]
        rw [hq] at hl
        exact ih_i (i + 1) (by omega) ls (lv_sub hl [0, 1, 2] rfl)
  exact loop_i n 0 (by omega) ls (lv_sub hl [0, 1, 2] rfl)

def f_am (M : ModT) (q : Nat) (set : Int32) : Nat → Int64 := fun c => if bt set c then M_amounts M (24 * q + c) else 0
set_option maxHeartbeats 4000000 in
set_option maxRecDepth 100000 in
theorem c_X5_amount (l : Launch) (k : KT) (a : Nat → Nat) (M : ModT) (ki : Int32) (set : Int32) (n : Nat) (hn : n ≤ 24) (hc : M_cells M = nI n) (q : Nat) (hq : q < 8) (ek : ki = nI q) : MR l yX5_amount cX5_amount 6 (some .long) (rz 1 21) k [.ref (a 0), .int ki, .int set] (mW k a M) (.long (sm (f_am M q set) n)) := by
  refine Met.ofW (cc := cX5_amount) (maxL := 6) (ret := (some .long)) (by decide) rfl ?_
  intro p e s m args below meth c s₁ B hml hv
  obtain ⟨rfl, hP, hK⟩ := hv
  have hx := B.exec
  have hb := B.bytes
  have hr := B.returns
  have hU : ∀ w ∈ wsL_law, w.before [.ref (a 0), .int ki, .int set].toArray s = true := fun w h => atoms_spec (ws := Cond.code yX5_amount cX5_amount 6 (some .long) :: wsL_law) B.pre w (List.mem_cons_of_mem _ h)
  have hown : s.vm.findClass RX5 = some m.cls := findClass_of_methodNamed B.named
  have hlocks := B.notSynchronized
  have hF : CF p m c cX5_amount 6 s [.ref (a 0), .int ki, .int set].toArray RX5 := ⟨hx, hb, hml, hown, hU⟩
  have hl := lv_entry ([.ref (a 0), .int ki, .int set] : List Value) (n := 6) (Nat.le_of_ble_eq_true rfl)
  rw [lg_entry_eq]
  generalize (lg_sl ([.ref (a 0), .int ki, .int set] : List Value) ++ List.replicate (6 - (lg_sl ([.ref (a 0), .int ki, .int set] : List Value)).length) Slot.unset).toArray = ls at hl ⊢
  have hl : lv_has ls 6 [(0, .ref (a 0)), (1, .int ki), (2, .int set)] := hl
  refine lv_lconst (v := 0) hx hb dX5_amount_0 (by decide) ?_
  refine lv_lstore_n (lv' := [(3, .long 0), (0, .ref (a 0)), (1, .int ki), (2, .int set)]) hx hb dX5_amount_1 rfl hl (by decide) rfl (fun ls hl => ?_)
  refine lv_iconst (v := 0) hx hb dX5_amount_2 (by decide) ?_
  refine lv_istore (lv' := [(5, .int 0), (3, .long 0), (0, .ref (a 0)), (1, .int ki), (2, .int set)]) hx hb dX5_amount_3 hl (by decide) rfl (fun ls hl => ?_)
  have loop_i : ∀ (ri i : Nat), i + ri * 1 = n → ∀ (ls : Array Slot) , lv_has ls 6 [(5, .int (nI i)), (3, .long (sm (f_am M q set) i)), (0, .ref (a 0)), (1, .int ki), (2, .int set)] → WR p l e s m below meth c yX5_amount cX5_amount 6 (some .long) (rz 1 21) [.ref (a 0), .int ki, .int set] (.long (sm (f_am M q set) n)) (F0 m 5 ls []) := by
    intro ri
    induction ri with
    | zero =>
      intro i hi_i ls hl
      have he_i : n = i := by omega
      subst he_i
      refine lv_iload hx hb dX5_amount_5 (lv_at hl 0 rfl) ?_
      refine lv_aload_n hx hb dX5_amount_7 rfl (lv_at hl 2 rfl) ?_
      refine va_get (D := k.1) (ci := 5) (v := .int (M_cells M)) (C := RX5) (T := TX5) (N := 27) hx hb hU inlX5 hown hK.1 hP 0 rfl rfl 0 (by decide) (hU _ uF_X5_49) (fun _ h9 => h9) rfl dX5_amount_8 ?_
      refine xb_ge (tgt := 48) hx hb dX5_amount_11 (by decide) (fun c_1 => ?_) (fun c9 => absurd c9 (by rw [hc]; exact nI_nlt (a := n) (b := n) (Nat.le_refl _) (by omega)))
      refine lv_lload_n hx hb dX5_amount_48 rfl (lv_at hl 1 rfl) ?_
      exact W.lret (v := (sm (f_am M q set) n)) hx hb hr (fun t ht hW => ⟨rfl, ht⟩) (fun q h => absurd h List.not_mem_nil) dX5_amount_49
    | succ ri ih_i =>
      intro i hi_i ls hl
      have ht_i : i < n := by omega
      refine lv_iload hx hb dX5_amount_5 (lv_at hl 0 rfl) ?_
      refine lv_aload_n hx hb dX5_amount_7 rfl (lv_at hl 2 rfl) ?_
      refine va_get (D := k.1) (ci := 5) (v := .int (M_cells M)) (C := RX5) (T := TX5) (N := 27) hx hb hU inlX5 hown hK.1 hP 0 rfl rfl 0 (by decide) (hU _ uF_X5_49) (fun _ h9 => h9) rfl dX5_amount_8 ?_
      refine xb_ge (tgt := 48) hx hb dX5_amount_11 (by decide) (fun c9 => absurd (by rw [hc]; exact nI_lt (a := i) (b := n) (by omega) (by omega)) c9) (fun c_2 => ?_)
      refine lv_lload_n hx hb dX5_amount_14 rfl (lv_at hl 1 rfl) ?_
      refine lv_iload_n hx hb dX5_amount_15 rfl (lv_at hl 4 rfl) ?_
      refine lv_iload hx hb dX5_amount_16 (lv_at hl 0 rfl) ?_
      refine rcS (n := 2) (As := [.int set, .int (nI i)]) (rest := [.long (sm (f_am M q set) i)]) hF (c_X5_has l k  set (nI i) ) (hP.sub (ws' := []) [] rfl) hK uC_X5_has uN_X5 uM_X5_95 uS_X5_has (by decide +kernel) rfl ⟨Nat.le_of_ble_eq_true rfl, Nat.le_of_ble_eq_true rfl⟩ ⟨Nat.zero_le _, Nat.zero_le _⟩ hl.1 rfl (Nat.le_of_ble_eq_true rfl) dX5_amount_18 ?_
      refine lv_if_eq (tgt := 39) hx hb dX5_amount_21 (by decide) (fun c_3 => ?_) (fun c_3 => ?_)
      · refine lv_lconst (v := 0) hx hb dX5_amount_39 (by decide) ?_
        refine lv_ladd hx hb dX5_amount_40 ?_
        refine lv_lstore_n (lv' := [(3, .long ((sm (f_am M q set) i) + 0)), (5, .int (nI i)), (0, .ref (a 0)), (1, .int ki), (2, .int set)]) hx hb dX5_amount_41 rfl hl (by decide) rfl (fun ls hl => ?_)
        refine lv_iinc (v := nI (i + 1)) (lv' := [(5, .int (nI (i + 1))), (3, .long ((sm (f_am M q set) i) + 0)), (0, .ref (a 0)), (1, .int ki), (2, .int set)]) hx hb dX5_amount_42 hl (k := 1) rfl (nI_add i 1) (by decide) rfl (fun ls hl => ?_)
        refine lv_goto (tgt := 5) hx hb dX5_amount_45 (by decide) ?_
        have eb : bt set i = false := (mb0 set (by omega)).mp c_3
        have hq : ((sm (f_am M q set) i) + 0) = (sm (f_am M q set) (i + 1)) := by simp [sm, f_am, eb]
        rw [hq] at hl
        exact ih_i (i + 1) (by omega) ls (lv_sub hl [0, 1, 2, 3, 4] rfl)
      · refine lv_aload_n hx hb dX5_amount_24 rfl (lv_at hl 2 rfl) ?_
        refine va_get (D := k.1) (ci := 5) (v := .ref (a 3)) (C := RX5) (T := TX5) (N := 27) hx hb hU inlX5 hown hK.1 hP 0 rfl rfl 3 (by decide) (hU _ uF_X5_17) (fun _ h9 => h9) rfl dX5_amount_25 ?_
        refine lv_bipush (v := 24) hx hb dX5_amount_28 (by decide) ?_
        refine lv_iload_n hx hb dX5_amount_30 rfl (lv_at hl 3 rfl) ?_
        refine lv_imul hx hb dX5_amount_31 ?_
        refine lv_iload hx hb dX5_amount_32 (lv_at hl 0 rfl) ?_
        refine lv_iadd hx hb dX5_amount_34 ?_
        refine xa_lald hx hb hK.1 hP 3 1 rfl rfl (j := (24 * q + i)) (by rw [ek]; exact ix24r q i) (by omega) (by decide) dX5_amount_35 ?_
        refine lv_goto (tgt := 40) hx hb dX5_amount_36 (by decide) ?_
        refine lv_ladd hx hb dX5_amount_40 ?_
        refine lv_lstore_n (lv' := [(3, .long ((sm (f_am M q set) i) + ((M_amounts M) (24 * q + i)))), (5, .int (nI i)), (0, .ref (a 0)), (1, .int ki), (2, .int set)]) hx hb dX5_amount_41 rfl hl (by decide) rfl (fun ls hl => ?_)
        refine lv_iinc (v := nI (i + 1)) (lv' := [(5, .int (nI (i + 1))), (3, .long ((sm (f_am M q set) i) + ((M_amounts M) (24 * q + i)))), (0, .ref (a 0)), (1, .int ki), (2, .int set)]) hx hb dX5_amount_42 hl (k := 1) rfl (nI_add i 1) (by decide) rfl (fun ls hl => ?_)
        refine lv_goto (tgt := 5) hx hb dX5_amount_45 (by decide) ?_
        have eb : bt set i = true := (mb1 set (by omega)).mp c_3
        have hq : ((sm (f_am M q set) i) + ((M_amounts M) (24 * q + i))) = (sm (f_am M q set) (i + 1)) := by simp [sm, f_am, eb]
        rw [hq] at hl
        exact ih_i (i + 1) (by omega) ls (lv_sub hl [0, 1, 2, 3, 4] rfl)
  exact loop_i n 0 (by omega) ls (lv_sub hl [0, 1, 2, 3, 4] rfl)

def f_ho (M : ModT) (q : Nat) (set : Int32) : Nat → Int64 := fun c => if bt set c then M_hours M (24 * q + c) else 0
set_option maxHeartbeats 4000000 in
set_option maxRecDepth 100000 in
theorem c_X5_hoursIn (l : Launch) (k : KT) (a : Nat → Nat) (M : ModT) (ki : Int32) (set : Int32) (n : Nat) (hn : n ≤ 24) (hc : M_cells M = nI n) (q : Nat) (hq : q < 4) (ek : ki = nI q) : MR l yX5_hoursIn cX5_hoursIn 6 (some .long) (rz 1 21) k [.ref (a 0), .int ki, .int set] (mW k a M) (.long (sm (f_ho M q set) n)) := by
  refine Met.ofW (cc := cX5_hoursIn) (maxL := 6) (ret := (some .long)) (by decide) rfl ?_
  intro p e s m args below meth c s₁ B hml hv
  obtain ⟨rfl, hP, hK⟩ := hv
  have hx := B.exec
  have hb := B.bytes
  have hr := B.returns
  have hU : ∀ w ∈ wsL_law, w.before [.ref (a 0), .int ki, .int set].toArray s = true := fun w h => atoms_spec (ws := Cond.code yX5_hoursIn cX5_hoursIn 6 (some .long) :: wsL_law) B.pre w (List.mem_cons_of_mem _ h)
  have hown : s.vm.findClass RX5 = some m.cls := findClass_of_methodNamed B.named
  have hlocks := B.notSynchronized
  have hF : CF p m c cX5_hoursIn 6 s [.ref (a 0), .int ki, .int set].toArray RX5 := ⟨hx, hb, hml, hown, hU⟩
  have hl := lv_entry ([.ref (a 0), .int ki, .int set] : List Value) (n := 6) (Nat.le_of_ble_eq_true rfl)
  rw [lg_entry_eq]
  generalize (lg_sl ([.ref (a 0), .int ki, .int set] : List Value) ++ List.replicate (6 - (lg_sl ([.ref (a 0), .int ki, .int set] : List Value)).length) Slot.unset).toArray = ls at hl ⊢
  have hl : lv_has ls 6 [(0, .ref (a 0)), (1, .int ki), (2, .int set)] := hl
  refine lv_lconst (v := 0) hx hb dX5_hoursIn_0 (by decide) ?_
  refine lv_lstore_n (lv' := [(3, .long 0), (0, .ref (a 0)), (1, .int ki), (2, .int set)]) hx hb dX5_hoursIn_1 rfl hl (by decide) rfl (fun ls hl => ?_)
  refine lv_iconst (v := 0) hx hb dX5_hoursIn_2 (by decide) ?_
  refine lv_istore (lv' := [(5, .int 0), (3, .long 0), (0, .ref (a 0)), (1, .int ki), (2, .int set)]) hx hb dX5_hoursIn_3 hl (by decide) rfl (fun ls hl => ?_)
  have loop_i : ∀ (ri i : Nat), i + ri * 1 = n → ∀ (ls : Array Slot) , lv_has ls 6 [(5, .int (nI i)), (3, .long (sm (f_ho M q set) i)), (0, .ref (a 0)), (1, .int ki), (2, .int set)] → WR p l e s m below meth c yX5_hoursIn cX5_hoursIn 6 (some .long) (rz 1 21) [.ref (a 0), .int ki, .int set] (.long (sm (f_ho M q set) n)) (F0 m 5 ls []) := by
    intro ri
    induction ri with
    | zero =>
      intro i hi_i ls hl
      have he_i : n = i := by omega
      subst he_i
      refine lv_iload hx hb dX5_hoursIn_5 (lv_at hl 0 rfl) ?_
      refine lv_aload_n hx hb dX5_hoursIn_7 rfl (lv_at hl 2 rfl) ?_
      refine va_get (D := k.1) (ci := 5) (v := .int (M_cells M)) (C := RX5) (T := TX5) (N := 27) hx hb hU inlX5 hown hK.1 hP 0 rfl rfl 0 (by decide) (hU _ uF_X5_49) (fun _ h9 => h9) rfl dX5_hoursIn_8 ?_
      refine xb_ge (tgt := 48) hx hb dX5_hoursIn_11 (by decide) (fun c_1 => ?_) (fun c9 => absurd c9 (by rw [hc]; exact nI_nlt (a := n) (b := n) (Nat.le_refl _) (by omega)))
      refine lv_lload_n hx hb dX5_hoursIn_48 rfl (lv_at hl 1 rfl) ?_
      exact W.lret (v := (sm (f_ho M q set) n)) hx hb hr (fun t ht hW => ⟨rfl, ht⟩) (fun q h => absurd h List.not_mem_nil) dX5_hoursIn_49
    | succ ri ih_i =>
      intro i hi_i ls hl
      have ht_i : i < n := by omega
      refine lv_iload hx hb dX5_hoursIn_5 (lv_at hl 0 rfl) ?_
      refine lv_aload_n hx hb dX5_hoursIn_7 rfl (lv_at hl 2 rfl) ?_
      refine va_get (D := k.1) (ci := 5) (v := .int (M_cells M)) (C := RX5) (T := TX5) (N := 27) hx hb hU inlX5 hown hK.1 hP 0 rfl rfl 0 (by decide) (hU _ uF_X5_49) (fun _ h9 => h9) rfl dX5_hoursIn_8 ?_
      refine xb_ge (tgt := 48) hx hb dX5_hoursIn_11 (by decide) (fun c9 => absurd (by rw [hc]; exact nI_lt (a := i) (b := n) (by omega) (by omega)) c9) (fun c_2 => ?_)
      refine lv_lload_n hx hb dX5_hoursIn_14 rfl (lv_at hl 1 rfl) ?_
      refine lv_iload_n hx hb dX5_hoursIn_15 rfl (lv_at hl 4 rfl) ?_
      refine lv_iload hx hb dX5_hoursIn_16 (lv_at hl 0 rfl) ?_
      refine rcS (n := 2) (As := [.int set, .int (nI i)]) (rest := [.long (sm (f_ho M q set) i)]) hF (c_X5_has l k  set (nI i) ) (hP.sub (ws' := []) [] rfl) hK uC_X5_has uN_X5 uM_X5_95 uS_X5_has (by decide +kernel) rfl ⟨Nat.le_of_ble_eq_true rfl, Nat.le_of_ble_eq_true rfl⟩ ⟨Nat.zero_le _, Nat.zero_le _⟩ hl.1 rfl (Nat.le_of_ble_eq_true rfl) dX5_hoursIn_18 ?_
      refine lv_if_eq (tgt := 39) hx hb dX5_hoursIn_21 (by decide) (fun c_3 => ?_) (fun c_3 => ?_)
      · refine lv_lconst (v := 0) hx hb dX5_hoursIn_39 (by decide) ?_
        refine lv_ladd hx hb dX5_hoursIn_40 ?_
        refine lv_lstore_n (lv' := [(3, .long ((sm (f_ho M q set) i) + 0)), (5, .int (nI i)), (0, .ref (a 0)), (1, .int ki), (2, .int set)]) hx hb dX5_hoursIn_41 rfl hl (by decide) rfl (fun ls hl => ?_)
        refine lv_iinc (v := nI (i + 1)) (lv' := [(5, .int (nI (i + 1))), (3, .long ((sm (f_ho M q set) i) + 0)), (0, .ref (a 0)), (1, .int ki), (2, .int set)]) hx hb dX5_hoursIn_42 hl (k := 1) rfl (nI_add i 1) (by decide) rfl (fun ls hl => ?_)
        refine lv_goto (tgt := 5) hx hb dX5_hoursIn_45 (by decide) ?_
        have eb : bt set i = false := (mb0 set (by omega)).mp c_3
        have hq : ((sm (f_ho M q set) i) + 0) = (sm (f_ho M q set) (i + 1)) := by simp [sm, f_ho, eb]
        rw [hq] at hl
        exact ih_i (i + 1) (by omega) ls (lv_sub hl [0, 1, 2, 3, 4] rfl)
      · refine lv_aload_n hx hb dX5_hoursIn_24 rfl (lv_at hl 2 rfl) ?_
        refine va_get (D := k.1) (ci := 5) (v := .ref (a 4)) (C := RX5) (T := TX5) (N := 27) hx hb hU inlX5 hown hK.1 hP 0 rfl rfl 4 (by decide) (hU _ uF_X5_20) (fun _ h9 => h9) rfl dX5_hoursIn_25 ?_
        refine lv_bipush (v := 24) hx hb dX5_hoursIn_28 (by decide) ?_
        refine lv_iload_n hx hb dX5_hoursIn_30 rfl (lv_at hl 3 rfl) ?_
        refine lv_imul hx hb dX5_hoursIn_31 ?_
        refine lv_iload hx hb dX5_hoursIn_32 (lv_at hl 0 rfl) ?_
        refine lv_iadd hx hb dX5_hoursIn_34 ?_
        refine xa_lald hx hb hK.1 hP 4 1 rfl rfl (j := (24 * q + i)) (by rw [ek]; exact ix24r q i) (by omega) (by decide) dX5_hoursIn_35 ?_
        refine lv_goto (tgt := 40) hx hb dX5_hoursIn_36 (by decide) ?_
        refine lv_ladd hx hb dX5_hoursIn_40 ?_
        refine lv_lstore_n (lv' := [(3, .long ((sm (f_ho M q set) i) + ((M_hours M) (24 * q + i)))), (5, .int (nI i)), (0, .ref (a 0)), (1, .int ki), (2, .int set)]) hx hb dX5_hoursIn_41 rfl hl (by decide) rfl (fun ls hl => ?_)
        refine lv_iinc (v := nI (i + 1)) (lv' := [(5, .int (nI (i + 1))), (3, .long ((sm (f_ho M q set) i) + ((M_hours M) (24 * q + i)))), (0, .ref (a 0)), (1, .int ki), (2, .int set)]) hx hb dX5_hoursIn_42 hl (k := 1) rfl (nI_add i 1) (by decide) rfl (fun ls hl => ?_)
        refine lv_goto (tgt := 5) hx hb dX5_hoursIn_45 (by decide) ?_
        have eb : bt set i = true := (mb1 set (by omega)).mp c_3
        have hq : ((sm (f_ho M q set) i) + ((M_hours M) (24 * q + i))) = (sm (f_ho M q set) (i + 1)) := by simp [sm, f_ho, eb]
        rw [hq] at hl
        exact ih_i (i + 1) (by omega) ls (lv_sub hl [0, 1, 2, 3, 4] rfl)
  exact loop_i n 0 (by omega) ls (lv_sub hl [0, 1, 2, 3, 4] rfl)

def w_X5_meets (M : ModT) (set : Int32) (n : Nat) (q : Nat) : Int32 := if ((M_hasGoal M) q) = 0 then 1 else if ((sm (f_am M q set) n) * ((M_goalBelow M) q)) < ((sm (f_am M q (w_X5_all M)) n) * ((M_goalAbove M) q)) then 0 else 1
set_option maxHeartbeats 4000000 in
set_option maxRecDepth 100000 in
theorem c_X5_meets (l : Launch) (k : KT) (a : Nat → Nat) (M : ModT) (ki : Int32) (set : Int32) (n : Nat) (hn : n ≤ 24) (hc : M_cells M = nI n) (q : Nat) (hq : q < 8) (ek : ki = nI q) : MR l yX5_meets cX5_meets 3 (some .boolean) (rz 2 46) k [.ref (a 0), .int ki, .int set] (mW k a M) (.int (w_X5_meets M set n q)) := by
  refine Met.ofW (cc := cX5_meets) (maxL := 3) (ret := (some .boolean)) (by decide) rfl ?_
  intro p e s m args below meth c s₁ B hml hv
  obtain ⟨rfl, hP, hK⟩ := hv
  have hx := B.exec
  have hb := B.bytes
  have hr := B.returns
  have hU : ∀ w ∈ wsL_law, w.before [.ref (a 0), .int ki, .int set].toArray s = true := fun w h => atoms_spec (ws := Cond.code yX5_meets cX5_meets 3 (some .boolean) :: wsL_law) B.pre w (List.mem_cons_of_mem _ h)
  have hown : s.vm.findClass RX5 = some m.cls := findClass_of_methodNamed B.named
  have hlocks := B.notSynchronized
  have hF : CF p m c cX5_meets 3 s [.ref (a 0), .int ki, .int set].toArray RX5 := ⟨hx, hb, hml, hown, hU⟩
  have hl := lv_entry ([.ref (a 0), .int ki, .int set] : List Value) (n := 3) (Nat.le_of_ble_eq_true rfl)
  rw [lg_entry_eq]
  generalize (lg_sl ([.ref (a 0), .int ki, .int set] : List Value) ++ List.replicate (3 - (lg_sl ([.ref (a 0), .int ki, .int set] : List Value)).length) Slot.unset).toArray = ls at hl ⊢
  have hl : lv_has ls 3 [(0, .ref (a 0)), (1, .int ki), (2, .int set)] := hl
  refine lv_aload_n hx hb dX5_meets_0 rfl (lv_at hl 0 rfl) ?_
  refine va_get (D := k.1) (ci := 5) (v := .ref (a 7)) (C := RX5) (T := TX5) (N := 27) hx hb hU inlX5 hown hK.1 hP 0 rfl rfl 7 (by decide) (hU _ uF_X5_30) (fun _ h9 => h9) rfl dX5_meets_1 ?_
  refine lv_iload_n hx hb dX5_meets_4 rfl (lv_at hl 1 rfl) ?_
  refine xa_zald hx hb hK.1 hP 7 2 rfl rfl (j := q) ek hq (by decide) dX5_meets_5 ?_
  refine lv_if_eq (tgt := 42) hx hb dX5_meets_6 (by decide) (fun c_1 => ?_) (fun c_1 => ?_)
  · refine lv_iconst (v := 1) hx hb dX5_meets_42 (by decide) ?_
    refine lv_goto (tgt := 47) hx hb dX5_meets_43 (by decide) ?_
    exact W.zret (v := 1) hx hb hr rfl (fun t ht hW => ⟨by rw [w_X5_meets, if_pos c_1], ht⟩) (fun q h => absurd h List.not_mem_nil) dX5_meets_47
  · refine lv_aload_n hx hb dX5_meets_9 rfl (lv_at hl 0 rfl) ?_
    refine lv_iload_n hx hb dX5_meets_10 rfl (lv_at hl 1 rfl) ?_
    refine lv_iload_n hx hb dX5_meets_11 rfl (lv_at hl 2 rfl) ?_
    refine rcV (n := 2) (As := [.int ki, .int set]) (rest := []) hF (c_X5_amount l k a M ki set n hn hc q hq ek) (hP) hK 0 (ci := 5) rfl rfl rfl uC_X5_amount uN_X5 uM_X5_99 uI_X5_amount uE_X5_amount (by decide +kernel) rfl ⟨Nat.le_of_ble_eq_true rfl, Nat.le_of_ble_eq_true rfl⟩ ⟨Nat.zero_le _, Nat.zero_le _⟩ hl.1 rfl (Nat.le_of_ble_eq_true rfl) dX5_meets_12 ?_
    refine lv_aload_n hx hb dX5_meets_15 rfl (lv_at hl 0 rfl) ?_
    refine va_get (D := k.1) (ci := 5) (v := .ref (a 9)) (C := RX5) (T := TX5) (N := 27) hx hb hU inlX5 hown hK.1 hP 0 rfl rfl 9 (by decide) (hU _ uF_X5_36) (fun _ h9 => h9) rfl dX5_meets_16 ?_
    refine lv_iload_n hx hb dX5_meets_19 rfl (lv_at hl 1 rfl) ?_
    refine xa_lald hx hb hK.1 hP 9 1 rfl rfl (j := q) ek hq (by decide) dX5_meets_20 ?_
    refine lv_lmul hx hb dX5_meets_21 ?_
    refine lv_aload_n hx hb dX5_meets_22 rfl (lv_at hl 0 rfl) ?_
    refine lv_iload_n hx hb dX5_meets_23 rfl (lv_at hl 1 rfl) ?_
    refine lv_aload_n hx hb dX5_meets_24 rfl (lv_at hl 0 rfl) ?_
    refine rcV (n := 0) (As := []) (rest := [.int ki, .ref (a 0), .long ((sm (f_am M q set) n) * ((M_goalBelow M) q))]) hF (c_X5_all l k a M  ) (hP) hK 0 (ci := 5) rfl rfl rfl uC_X5_all uN_X5 uM_X5_103 uI_X5_all uE_X5_all (by decide +kernel) rfl ⟨Nat.le_of_ble_eq_true rfl, Nat.le_of_ble_eq_true rfl⟩ ⟨Nat.zero_le _, Nat.zero_le _⟩ hl.1 rfl (Nat.le_of_ble_eq_true rfl) dX5_meets_25 ?_
    refine rcV (n := 2) (As := [.int ki, .int (w_X5_all M)]) (rest := [.long ((sm (f_am M q set) n) * ((M_goalBelow M) q))]) hF (c_X5_amount l k a M ki (w_X5_all M) n hn hc q hq ek) (hP) hK 0 (ci := 5) rfl rfl rfl uC_X5_amount uN_X5 uM_X5_99 uI_X5_amount uE_X5_amount (by decide +kernel) rfl ⟨Nat.le_of_ble_eq_true rfl, Nat.le_of_ble_eq_true rfl⟩ ⟨Nat.zero_le _, Nat.zero_le _⟩ hl.1 rfl (Nat.le_of_ble_eq_true rfl) dX5_meets_28 ?_
    refine lv_aload_n hx hb dX5_meets_31 rfl (lv_at hl 0 rfl) ?_
    refine va_get (D := k.1) (ci := 5) (v := .ref (a 8)) (C := RX5) (T := TX5) (N := 27) hx hb hU inlX5 hown hK.1 hP 0 rfl rfl 8 (by decide) (hU _ uF_X5_33) (fun _ h9 => h9) rfl dX5_meets_32 ?_
    refine lv_iload_n hx hb dX5_meets_35 rfl (lv_at hl 1 rfl) ?_
    refine xa_lald hx hb hK.1 hP 8 1 rfl rfl (j := q) ek hq (by decide) dX5_meets_36 ?_
    refine lv_lmul hx hb dX5_meets_37 ?_
    refine xl_lt (tgt := 46) hx hb dX5_meets_38 dX5_meets_39 (by decide) (fun c_2 => ?_) (fun c_2 => ?_)
    · refine lv_iconst (v := 0) hx hb dX5_meets_46 (by decide) ?_
      exact W.zret (v := 0) hx hb hr rfl (fun t ht hW => ⟨by rw [w_X5_meets, if_neg c_1, if_pos c_2], ht⟩) (fun q h => absurd h List.not_mem_nil) dX5_meets_47
    · refine lv_iconst (v := 1) hx hb dX5_meets_42 (by decide) ?_
      refine lv_goto (tgt := 47) hx hb dX5_meets_43 (by decide) ?_
      exact W.zret (v := 1) hx hb hr rfl (fun t ht hW => ⟨by rw [w_X5_meets, if_neg c_1, if_neg c_2], ht⟩) (fun q h => absurd h List.not_mem_nil) dX5_meets_47

def g_bo (M : ModT) (set : Int32) (c : Nat) : Nat → Int64 := fun d => if bt set d then 0 else M_borders M (24 * c + d)
def f_bo (M : ModT) (set : Int32) (n : Nat) : Nat → Int64 := fun c => if bt set c then sm (g_bo M set c) n else 0
set_option maxHeartbeats 4000000 in
set_option maxRecDepth 100000 in
theorem c_X5_borderOf (l : Launch) (k : KT) (a : Nat → Nat) (M : ModT) (set : Int32) (n : Nat) (hn : n ≤ 24) (hc : M_cells M = nI n) : MR l yX5_borderOf cX5_borderOf 6 (some .long) (rz 1 21) k [.ref (a 0), .int set] (mW k a M) (.long (sm (f_bo M set n) n)) := by
  refine Met.ofW (cc := cX5_borderOf) (maxL := 6) (ret := (some .long)) (by decide) rfl ?_
  intro p e s m args below meth c s₁ B hml hv
  obtain ⟨rfl, hP, hK⟩ := hv
  have hx := B.exec
  have hb := B.bytes
  have hr := B.returns
  have hU : ∀ w ∈ wsL_law, w.before [.ref (a 0), .int set].toArray s = true := fun w h => atoms_spec (ws := Cond.code yX5_borderOf cX5_borderOf 6 (some .long) :: wsL_law) B.pre w (List.mem_cons_of_mem _ h)
  have hown : s.vm.findClass RX5 = some m.cls := findClass_of_methodNamed B.named
  have hlocks := B.notSynchronized
  have hF : CF p m c cX5_borderOf 6 s [.ref (a 0), .int set].toArray RX5 := ⟨hx, hb, hml, hown, hU⟩
  have hl := lv_entry ([.ref (a 0), .int set] : List Value) (n := 6) (Nat.le_of_ble_eq_true rfl)
  rw [lg_entry_eq]
  generalize (lg_sl ([.ref (a 0), .int set] : List Value) ++ List.replicate (6 - (lg_sl ([.ref (a 0), .int set] : List Value)).length) Slot.unset).toArray = ls at hl ⊢
  have hl : lv_has ls 6 [(0, .ref (a 0)), (1, .int set)] := hl
  refine lv_lconst (v := 0) hx hb dX5_borderOf_0 (by decide) ?_
  refine lv_lstore_n (lv' := [(2, .long 0), (0, .ref (a 0)), (1, .int set)]) hx hb dX5_borderOf_1 rfl hl (by decide) rfl (fun ls hl => ?_)
  refine lv_iconst (v := 0) hx hb dX5_borderOf_2 (by decide) ?_
  refine lv_istore (lv' := [(4, .int 0), (2, .long 0), (0, .ref (a 0)), (1, .int set)]) hx hb dX5_borderOf_3 hl (by decide) rfl (fun ls hl => ?_)
  have loop_i : ∀ (ri i : Nat), i + ri * 1 = n → ∀ (ls : Array Slot) , lv_has ls 6 [(4, .int (nI i)), (2, .long (sm (f_bo M set n) i)), (0, .ref (a 0)), (1, .int set)] → WR p l e s m below meth c yX5_borderOf cX5_borderOf 6 (some .long) (rz 1 21) [.ref (a 0), .int set] (.long (sm (f_bo M set n) n)) (F0 m 5 ls []) := by
    intro ri
    induction ri with
    | zero =>
      intro i hi_i ls hl
      have he_i : n = i := by omega
      subst he_i
      refine lv_iload hx hb dX5_borderOf_5 (lv_at hl 0 rfl) ?_
      refine lv_aload_n hx hb dX5_borderOf_7 rfl (lv_at hl 2 rfl) ?_
      refine va_get (D := k.1) (ci := 5) (v := .int (M_cells M)) (C := RX5) (T := TX5) (N := 27) hx hb hU inlX5 hown hK.1 hP 0 rfl rfl 0 (by decide) (hU _ uF_X5_49) (fun _ h9 => h9) rfl dX5_borderOf_8 ?_
      refine xb_ge (tgt := 76) hx hb dX5_borderOf_11 (by decide) (fun c_1 => ?_) (fun c9 => absurd c9 (by rw [hc]; exact nI_nlt (a := n) (b := n) (Nat.le_refl _) (by omega)))
      refine lv_lload_n hx hb dX5_borderOf_76 rfl (lv_at hl 1 rfl) ?_
      exact W.lret (v := (sm (f_bo M set n) n)) hx hb hr (fun t ht hW => ⟨rfl, ht⟩) (fun q h => absurd h List.not_mem_nil) dX5_borderOf_77
    | succ ri ih_i =>
      intro i hi_i ls hl
      have ht_i : i < n := by omega
      refine lv_iload hx hb dX5_borderOf_5 (lv_at hl 0 rfl) ?_
      refine lv_aload_n hx hb dX5_borderOf_7 rfl (lv_at hl 2 rfl) ?_
      refine va_get (D := k.1) (ci := 5) (v := .int (M_cells M)) (C := RX5) (T := TX5) (N := 27) hx hb hU inlX5 hown hK.1 hP 0 rfl rfl 0 (by decide) (hU _ uF_X5_49) (fun _ h9 => h9) rfl dX5_borderOf_8 ?_
      refine xb_ge (tgt := 76) hx hb dX5_borderOf_11 (by decide) (fun c9 => absurd (by rw [hc]; exact nI_lt (a := i) (b := n) (by omega) (by omega)) c9) (fun c_2 => ?_)
      refine lv_iconst (v := 0) hx hb dX5_borderOf_14 (by decide) ?_
      refine lv_istore (lv' := [(5, .int 0), (4, .int (nI i)), (2, .long (sm (f_bo M set n) i)), (0, .ref (a 0)), (1, .int set)]) hx hb dX5_borderOf_15 hl (by decide) rfl (fun ls hl => ?_)
      have hq0 : (sm (f_bo M set n) i) = (sm (f_bo M set n) i + sm (g_bo M set i) 0) := (Int64.add_zero _).symm
      rw [hq0] at hl
      have loop_h : ∀ (rh h : Nat), h + rh * 1 = n → ∀ (ls : Array Slot) , lv_has ls 6 [(5, .int (nI h)), (4, .int (nI i)), (2, .long (sm (f_bo M set n) i + sm (g_bo M set i) h)), (0, .ref (a 0)), (1, .int set)] → (h = 0 ∨ bt set i = true) → WR p l e s m below meth c yX5_borderOf cX5_borderOf 6 (some .long) (rz 1 21) [.ref (a 0), .int set] (.long (sm (f_bo M set n) n)) (F0 m 17 ls []) := by
        intro rh
        induction rh with
        | zero =>
          intro h hi_h ls hl hv_h
          have he_h : n = h := by omega
          subst he_h
          refine lv_iload hx hb dX5_borderOf_17 (lv_at hl 0 rfl) ?_
          refine lv_aload_n hx hb dX5_borderOf_19 rfl (lv_at hl 3 rfl) ?_
          refine va_get (D := k.1) (ci := 5) (v := .int (M_cells M)) (C := RX5) (T := TX5) (N := 27) hx hb hU inlX5 hown hK.1 hP 0 rfl rfl 0 (by decide) (hU _ uF_X5_49) (fun _ h9 => h9) rfl dX5_borderOf_20 ?_
          refine xb_ge (tgt := 70) hx hb dX5_borderOf_23 (by decide) (fun c_3 => ?_) (fun c9 => absurd c9 (by rw [hc]; exact nI_nlt (a := n) (b := n) (Nat.le_refl _) (by omega)))
          refine lv_iinc (v := nI (i + 1)) (lv' := [(4, .int (nI (i + 1))), (5, .int (nI n)), (2, .long (sm (f_bo M set n) i + sm (g_bo M set i) n)), (0, .ref (a 0)), (1, .int set)]) hx hb dX5_borderOf_70 hl (k := 1) rfl (nI_add i 1) (by decide) rfl (fun ls hl => ?_)
          refine lv_goto (tgt := 5) hx hb dX5_borderOf_73 (by decide) ?_
          have ebi : bt set i = true := by rcases hv_h with h | h; exact absurd h (by omega); exact h
          have hq : (sm (f_bo M set n) i + sm (g_bo M set i) n) = (sm (f_bo M set n) (i + 1)) := by rw [sm, f_bo, if_pos ebi]
          rw [hq] at hl
          exact ih_i (i + 1) (by omega) ls (lv_sub hl [0, 2, 3, 4] rfl)
        | succ rh ih_h =>
          intro h hi_h ls hl hv_h
          have ht_h : h < n := by omega
          refine lv_iload hx hb dX5_borderOf_17 (lv_at hl 0 rfl) ?_
          refine lv_aload_n hx hb dX5_borderOf_19 rfl (lv_at hl 3 rfl) ?_
          refine va_get (D := k.1) (ci := 5) (v := .int (M_cells M)) (C := RX5) (T := TX5) (N := 27) hx hb hU inlX5 hown hK.1 hP 0 rfl rfl 0 (by decide) (hU _ uF_X5_49) (fun _ h9 => h9) rfl dX5_borderOf_20 ?_
          refine xb_ge (tgt := 70) hx hb dX5_borderOf_23 (by decide) (fun c9 => absurd (by rw [hc]; exact nI_lt (a := h) (b := n) (by omega) (by omega)) c9) (fun c_4 => ?_)
          refine lv_iload_n hx hb dX5_borderOf_26 rfl (lv_at hl 4 rfl) ?_
          refine lv_iload hx hb dX5_borderOf_27 (lv_at hl 1 rfl) ?_
          refine rcS (n := 2) (As := [.int set, .int (nI i)]) (rest := []) hF (c_X5_has l k  set (nI i) ) (hP.sub (ws' := []) [] rfl) hK uC_X5_has uN_X5 uM_X5_95 uS_X5_has (by decide +kernel) rfl ⟨Nat.le_of_ble_eq_true rfl, Nat.le_of_ble_eq_true rfl⟩ ⟨Nat.zero_le _, Nat.zero_le _⟩ hl.1 rfl (Nat.le_of_ble_eq_true rfl) dX5_borderOf_29 ?_
          refine lv_if_eq (tgt := 70) hx hb dX5_borderOf_32 (by decide) (fun c_5 => ?_) (fun c_5 => ?_)
          · refine lv_iinc (v := nI (i + 1)) (lv' := [(4, .int (nI (i + 1))), (5, .int (nI h)), (2, .long (sm (f_bo M set n) i + sm (g_bo M set i) h)), (0, .ref (a 0)), (1, .int set)]) hx hb dX5_borderOf_70 hl (k := 1) rfl (nI_add i 1) (by decide) rfl (fun ls hl => ?_)
            refine lv_goto (tgt := 5) hx hb dX5_borderOf_73 (by decide) ?_
            have ebi : bt set i = false := (mb0 set (by omega)).mp c_5
            have hh0 : h = 0 := by rcases hv_h with h9 | h9; exact h9; rw [h9] at ebi; cases ebi
            subst hh0
            have hq : (sm (f_bo M set n) i + sm (g_bo M set i) 0) = (sm (f_bo M set n) (i + 1)) := by simp [sm, f_bo, ebi]
            rw [hq] at hl
            exact ih_i (i + 1) (by omega) ls (lv_sub hl [0, 2, 3, 4] rfl)
          · refine lv_lload_n hx hb dX5_borderOf_35 rfl (lv_at hl 2 rfl) ?_
            refine lv_iload_n hx hb dX5_borderOf_36 rfl (lv_at hl 4 rfl) ?_
            refine lv_iload hx hb dX5_borderOf_37 (lv_at hl 0 rfl) ?_
            refine rcS (n := 2) (As := [.int set, .int (nI h)]) (rest := [.long (sm (f_bo M set n) i + sm (g_bo M set i) h)]) hF (c_X5_has l k  set (nI h) ) (hP.sub (ws' := []) [] rfl) hK uC_X5_has uN_X5 uM_X5_95 uS_X5_has (by decide +kernel) rfl ⟨Nat.le_of_ble_eq_true rfl, Nat.le_of_ble_eq_true rfl⟩ ⟨Nat.zero_le _, Nat.zero_le _⟩ hl.1 rfl (Nat.le_of_ble_eq_true rfl) dX5_borderOf_39 ?_
            refine lv_if_eq (tgt := 49) hx hb dX5_borderOf_42 (by decide) (fun c_6 => ?_) (fun c_6 => ?_)
            · refine lv_aload_n hx hb dX5_borderOf_49 rfl (lv_at hl 3 rfl) ?_
              refine va_get (D := k.1) (ci := 5) (v := .ref (a 5)) (C := RX5) (T := TX5) (N := 27) hx hb hU inlX5 hown hK.1 hP 0 rfl rfl 5 (by decide) (hU _ uF_X5_23) (fun _ h9 => h9) rfl dX5_borderOf_50 ?_
              refine lv_bipush (v := 24) hx hb dX5_borderOf_53 (by decide) ?_
              refine lv_iload hx hb dX5_borderOf_55 (lv_at hl 1 rfl) ?_
              refine lv_imul hx hb dX5_borderOf_57 ?_
              refine lv_iload hx hb dX5_borderOf_58 (lv_at hl 0 rfl) ?_
              refine lv_iadd hx hb dX5_borderOf_60 ?_
              refine xa_lald hx hb hK.1 hP 5 1 rfl rfl (j := (24 * i + h)) (ix24r i h) (by omega) (by decide) dX5_borderOf_61 ?_
              refine lv_ladd hx hb dX5_borderOf_62 ?_
              refine lv_lstore_n (lv' := [(2, .long ((sm (f_bo M set n) i + sm (g_bo M set i) h) + ((M_borders M) (24 * i + h)))), (5, .int (nI h)), (4, .int (nI i)), (0, .ref (a 0)), (1, .int set)]) hx hb dX5_borderOf_63 rfl hl (by decide) rfl (fun ls hl => ?_)
              refine lv_iinc (v := nI (h + 1)) (lv' := [(5, .int (nI (h + 1))), (2, .long ((sm (f_bo M set n) i + sm (g_bo M set i) h) + ((M_borders M) (24 * i + h)))), (4, .int (nI i)), (0, .ref (a 0)), (1, .int set)]) hx hb dX5_borderOf_64 hl (k := 1) rfl (nI_add h 1) (by decide) rfl (fun ls hl => ?_)
              refine lv_goto (tgt := 17) hx hb dX5_borderOf_67 (by decide) ?_
              have ebh : bt set h = false := (mb0 set (by omega)).mp c_6
              have ebi : bt set i = true := (mb1 set (by omega)).mp c_5
              have hq : ((sm (f_bo M set n) i + sm (g_bo M set i) h) + ((M_borders M) (24 * i + h))) = (sm (f_bo M set n) i + sm (g_bo M set i) (h + 1)) := by simp [sm, g_bo, ebh, Int64.add_assoc]
              rw [hq] at hl
              exact ih_h (h + 1) (by omega) ls (lv_sub hl [0, 2, 1, 3, 4] rfl) (Or.inr ebi)
            · refine lv_lconst (v := 0) hx hb dX5_borderOf_45 (by decide) ?_
              refine lv_goto (tgt := 62) hx hb dX5_borderOf_46 (by decide) ?_
              refine lv_ladd hx hb dX5_borderOf_62 ?_
              refine lv_lstore_n (lv' := [(2, .long ((sm (f_bo M set n) i + sm (g_bo M set i) h) + 0)), (5, .int (nI h)), (4, .int (nI i)), (0, .ref (a 0)), (1, .int set)]) hx hb dX5_borderOf_63 rfl hl (by decide) rfl (fun ls hl => ?_)
              refine lv_iinc (v := nI (h + 1)) (lv' := [(5, .int (nI (h + 1))), (2, .long ((sm (f_bo M set n) i + sm (g_bo M set i) h) + 0)), (4, .int (nI i)), (0, .ref (a 0)), (1, .int set)]) hx hb dX5_borderOf_64 hl (k := 1) rfl (nI_add h 1) (by decide) rfl (fun ls hl => ?_)
              refine lv_goto (tgt := 17) hx hb dX5_borderOf_67 (by decide) ?_
              have ebh : bt set h = true := (mb1 set (by omega)).mp c_6
              have ebi : bt set i = true := (mb1 set (by omega)).mp c_5
              have hq : ((sm (f_bo M set n) i + sm (g_bo M set i) h) + 0) = (sm (f_bo M set n) i + sm (g_bo M set i) (h + 1)) := by simp [sm, g_bo, ebh, Int64.add_assoc]
              rw [hq] at hl
              exact ih_h (h + 1) (by omega) ls (lv_sub hl [0, 2, 1, 3, 4] rfl) (Or.inr ebi)
      exact loop_h n 0 (by omega) ls (lv_sub hl [0, 1, 2, 3, 4] rfl) (Or.inl rfl)
  exact loop_i n 0 (by omega) ls (lv_sub hl [0, 1, 2, 3] rfl)

def f_co (M : ModT) (set : Int32) : Nat → Int64 := fun c => if bt set c then M_costs M c else 0
def w_X5_costOf (M : ModT) (set : Int32) (n : Nat) : Int64 := (M_weight M * sm (f_bo M set n) n) + sm (f_co M set) n
set_option maxHeartbeats 4000000 in
set_option maxRecDepth 100000 in
theorem c_X5_costOf (l : Launch) (k : KT) (a : Nat → Nat) (M : ModT) (set : Int32) (n : Nat) (hn : n ≤ 24) (hc : M_cells M = nI n) : MR l yX5_costOf cX5_costOf 5 (some .long) (rz 2 46) k [.ref (a 0), .int set] (mW k a M) (.long (w_X5_costOf M set n)) := by
  refine Met.ofW (cc := cX5_costOf) (maxL := 5) (ret := (some .long)) (by decide) rfl ?_
  intro p e s m args below meth c s₁ B hml hv
  obtain ⟨rfl, hP, hK⟩ := hv
  have hx := B.exec
  have hb := B.bytes
  have hr := B.returns
  have hU : ∀ w ∈ wsL_law, w.before [.ref (a 0), .int set].toArray s = true := fun w h => atoms_spec (ws := Cond.code yX5_costOf cX5_costOf 5 (some .long) :: wsL_law) B.pre w (List.mem_cons_of_mem _ h)
  have hown : s.vm.findClass RX5 = some m.cls := findClass_of_methodNamed B.named
  have hlocks := B.notSynchronized
  have hF : CF p m c cX5_costOf 5 s [.ref (a 0), .int set].toArray RX5 := ⟨hx, hb, hml, hown, hU⟩
  have hl := lv_entry ([.ref (a 0), .int set] : List Value) (n := 5) (Nat.le_of_ble_eq_true rfl)
  rw [lg_entry_eq]
  generalize (lg_sl ([.ref (a 0), .int set] : List Value) ++ List.replicate (5 - (lg_sl ([.ref (a 0), .int set] : List Value)).length) Slot.unset).toArray = ls at hl ⊢
  have hl : lv_has ls 5 [(0, .ref (a 0)), (1, .int set)] := hl
  refine lv_aload_n hx hb dX5_costOf_0 rfl (lv_at hl 0 rfl) ?_
  refine va_get (D := k.1) (ci := 5) (v := .long (M_weight M)) (C := RX5) (T := TX5) (N := 27) hx hb hU inlX5 hown hK.1 hP 0 rfl rfl 13 (by decide) (hU _ uF_X5_74) (fun _ h9 => h9) rfl dX5_costOf_1 ?_
  refine lv_aload_n hx hb dX5_costOf_4 rfl (lv_at hl 0 rfl) ?_
  refine lv_iload_n hx hb dX5_costOf_5 rfl (lv_at hl 1 rfl) ?_
  refine rcV (n := 1) (As := [.int set]) (rest := [.long (M_weight M)]) hF (c_X5_borderOf l k a M set n hn hc) (hP) hK 0 (ci := 5) rfl rfl rfl uC_X5_borderOf uN_X5 uM_X5_117 uI_X5_borderOf uE_X5_borderOf (by decide +kernel) rfl ⟨Nat.le_of_ble_eq_true rfl, Nat.le_of_ble_eq_true rfl⟩ ⟨Nat.zero_le _, Nat.zero_le _⟩ hl.1 rfl (Nat.le_of_ble_eq_true rfl) dX5_costOf_6 ?_
  refine lv_lmul hx hb dX5_costOf_9 ?_
  refine W.eq (g2 := F0 m 10 ls [.long ((M_weight M * sm (f_bo M set n) n) + sm (f_co M set) 0)]) (by rw [sm, Int64.add_zero]; try rfl) ?_
  refine lv_lstore_n (lv' := [(2, .long ((M_weight M * sm (f_bo M set n) n) + sm (f_co M set) 0)), (0, .ref (a 0)), (1, .int set)]) hx hb dX5_costOf_10 rfl hl (by decide) rfl (fun ls hl => ?_)
  refine lv_iconst (v := 0) hx hb dX5_costOf_11 (by decide) ?_
  refine lv_istore (lv' := [(4, .int 0), (2, .long ((M_weight M * sm (f_bo M set n) n) + sm (f_co M set) 0)), (0, .ref (a 0)), (1, .int set)]) hx hb dX5_costOf_12 hl (by decide) rfl (fun ls hl => ?_)
  have loop_i : ∀ (ri i : Nat), i + ri * 1 = n → ∀ (ls : Array Slot) , lv_has ls 5 [(4, .int (nI i)), (2, .long ((M_weight M * sm (f_bo M set n) n) + sm (f_co M set) i)), (0, .ref (a 0)), (1, .int set)] → WR p l e s m below meth c yX5_costOf cX5_costOf 5 (some .long) (rz 2 46) [.ref (a 0), .int set] (.long (w_X5_costOf M set n)) (F0 m 14 ls []) := by
    intro ri
    induction ri with
    | zero =>
      intro i hi_i ls hl
      have he_i : n = i := by omega
      subst he_i
      refine lv_iload hx hb dX5_costOf_14 (lv_at hl 0 rfl) ?_
      refine lv_aload_n hx hb dX5_costOf_16 rfl (lv_at hl 2 rfl) ?_
      refine va_get (D := k.1) (ci := 5) (v := .int (M_cells M)) (C := RX5) (T := TX5) (N := 27) hx hb hU inlX5 hown hK.1 hP 0 rfl rfl 0 (by decide) (hU _ uF_X5_49) (fun _ h9 => h9) rfl dX5_costOf_17 ?_
      refine xb_ge (tgt := 52) hx hb dX5_costOf_20 (by decide) (fun c_1 => ?_) (fun c9 => absurd c9 (by rw [hc]; exact nI_nlt (a := n) (b := n) (Nat.le_refl _) (by omega)))
      refine lv_lload_n hx hb dX5_costOf_52 rfl (lv_at hl 1 rfl) ?_
      exact W.lret (v := ((M_weight M * sm (f_bo M set n) n) + sm (f_co M set) n)) hx hb hr (fun t ht hW => ⟨rfl, ht⟩) (fun q h => absurd h List.not_mem_nil) dX5_costOf_53
    | succ ri ih_i =>
      intro i hi_i ls hl
      have ht_i : i < n := by omega
      refine lv_iload hx hb dX5_costOf_14 (lv_at hl 0 rfl) ?_
      refine lv_aload_n hx hb dX5_costOf_16 rfl (lv_at hl 2 rfl) ?_
      refine va_get (D := k.1) (ci := 5) (v := .int (M_cells M)) (C := RX5) (T := TX5) (N := 27) hx hb hU inlX5 hown hK.1 hP 0 rfl rfl 0 (by decide) (hU _ uF_X5_49) (fun _ h9 => h9) rfl dX5_costOf_17 ?_
      refine xb_ge (tgt := 52) hx hb dX5_costOf_20 (by decide) (fun c9 => absurd (by rw [hc]; exact nI_lt (a := i) (b := n) (by omega) (by omega)) c9) (fun c_2 => ?_)
      refine lv_lload_n hx hb dX5_costOf_23 rfl (lv_at hl 1 rfl) ?_
      refine lv_iload_n hx hb dX5_costOf_24 rfl (lv_at hl 3 rfl) ?_
      refine lv_iload hx hb dX5_costOf_25 (lv_at hl 0 rfl) ?_
      refine rcS (n := 2) (As := [.int set, .int (nI i)]) (rest := [.long ((M_weight M * sm (f_bo M set n) n) + sm (f_co M set) i)]) hF (c_X5_has l k  set (nI i) ) (hP.sub (ws' := []) [] rfl) hK uC_X5_has uN_X5 uM_X5_95 uS_X5_has (by decide +kernel) rfl ⟨Nat.le_of_ble_eq_true rfl, Nat.le_of_ble_eq_true rfl⟩ ⟨Nat.zero_le _, Nat.zero_le _⟩ hl.1 rfl (Nat.le_of_ble_eq_true rfl) dX5_costOf_27 ?_
      refine lv_if_eq (tgt := 43) hx hb dX5_costOf_30 (by decide) (fun c_3 => ?_) (fun c_3 => ?_)
      · refine lv_lconst (v := 0) hx hb dX5_costOf_43 (by decide) ?_
        refine lv_ladd hx hb dX5_costOf_44 ?_
        refine lv_lstore_n (lv' := [(2, .long (((M_weight M * sm (f_bo M set n) n) + sm (f_co M set) i) + 0)), (4, .int (nI i)), (0, .ref (a 0)), (1, .int set)]) hx hb dX5_costOf_45 rfl hl (by decide) rfl (fun ls hl => ?_)
        refine lv_iinc (v := nI (i + 1)) (lv' := [(4, .int (nI (i + 1))), (2, .long (((M_weight M * sm (f_bo M set n) n) + sm (f_co M set) i) + 0)), (0, .ref (a 0)), (1, .int set)]) hx hb dX5_costOf_46 hl (k := 1) rfl (nI_add i 1) (by decide) rfl (fun ls hl => ?_)
        refine lv_goto (tgt := 14) hx hb dX5_costOf_49 (by decide) ?_
        have eb : bt set i = false := (mb0 set (by omega)).mp c_3
        have hq : (((M_weight M * sm (f_bo M set n) n) + sm (f_co M set) i) + 0) = ((M_weight M * sm (f_bo M set n) n) + sm (f_co M set) (i + 1)) := by simp [sm, f_co, eb, Int64.add_assoc]
        rw [hq] at hl
        exact ih_i (i + 1) (by omega) ls (lv_sub hl [0, 1, 2, 3] rfl)
      · refine lv_aload_n hx hb dX5_costOf_33 rfl (lv_at hl 2 rfl) ?_
        refine va_get (D := k.1) (ci := 5) (v := .ref (a 1)) (C := RX5) (T := TX5) (N := 27) hx hb hU inlX5 hown hK.1 hP 0 rfl rfl 1 (by decide) (hU _ uF_X5_7) (fun _ h9 => h9) rfl dX5_costOf_34 ?_
        refine lv_iload hx hb dX5_costOf_37 (lv_at hl 0 rfl) ?_
        refine xa_lald hx hb hK.1 hP 1 1 rfl rfl (j := i) rfl (by omega) (by decide) dX5_costOf_39 ?_
        refine lv_goto (tgt := 44) hx hb dX5_costOf_40 (by decide) ?_
        refine lv_ladd hx hb dX5_costOf_44 ?_
        refine lv_lstore_n (lv' := [(2, .long (((M_weight M * sm (f_bo M set n) n) + sm (f_co M set) i) + ((M_costs M) i))), (4, .int (nI i)), (0, .ref (a 0)), (1, .int set)]) hx hb dX5_costOf_45 rfl hl (by decide) rfl (fun ls hl => ?_)
        refine lv_iinc (v := nI (i + 1)) (lv' := [(4, .int (nI (i + 1))), (2, .long (((M_weight M * sm (f_bo M set n) n) + sm (f_co M set) i) + ((M_costs M) i))), (0, .ref (a 0)), (1, .int set)]) hx hb dX5_costOf_46 hl (k := 1) rfl (nI_add i 1) (by decide) rfl (fun ls hl => ?_)
        refine lv_goto (tgt := 14) hx hb dX5_costOf_49 (by decide) ?_
        have eb : bt set i = true := (mb1 set (by omega)).mp c_3
        have hq : (((M_weight M * sm (f_bo M set n) n) + sm (f_co M set) i) + ((M_costs M) i)) = ((M_weight M * sm (f_bo M set n) n) + sm (f_co M set) (i + 1)) := by simp [sm, f_co, eb, Int64.add_assoc]
        rw [hq] at hl
        exact ih_i (i + 1) (by omega) ls (lv_sub hl [0, 1, 2, 3] rfl)
  exact loop_i n 0 (by omega) ls (lv_sub hl [0, 1, 2, 3] rfl)

def w_X5_isBefore (av : Int32) (bv : Int32) (n : Nat) : Int32 := if (nI (cn av n)) = (nI (cn bv n)) then if ((av &&& (av ^^^ bv)) &&& (-(av ^^^ bv))) = 0 then 0 else 1 else if (nI (cn av n)) < (nI (cn bv n)) then 1 else 0
set_option maxHeartbeats 4000000 in
set_option maxRecDepth 100000 in
theorem c_X5_isBefore (l : Launch) (k : KT) (a : Nat → Nat) (M : ModT) (av : Int32) (bv : Int32) (n : Nat) (hn : n ≤ 24) (hc : M_cells M = nI n) : MR l yX5_isBefore cX5_isBefore 6 (some .boolean) (rz 2 44) k [.ref (a 0), .int av, .int bv] (mW k a M) (.int (w_X5_isBefore av bv n)) := by
  refine Met.ofW (cc := cX5_isBefore) (maxL := 6) (ret := (some .boolean)) (by decide) rfl ?_
  intro p e s m args below meth c s₁ B hml hv
  obtain ⟨rfl, hP, hK⟩ := hv
  have hx := B.exec
  have hb := B.bytes
  have hr := B.returns
  have hU : ∀ w ∈ wsL_law, w.before [.ref (a 0), .int av, .int bv].toArray s = true := fun w h => atoms_spec (ws := Cond.code yX5_isBefore cX5_isBefore 6 (some .boolean) :: wsL_law) B.pre w (List.mem_cons_of_mem _ h)
  have hown : s.vm.findClass RX5 = some m.cls := findClass_of_methodNamed B.named
  have hlocks := B.notSynchronized
  have hF : CF p m c cX5_isBefore 6 s [.ref (a 0), .int av, .int bv].toArray RX5 := ⟨hx, hb, hml, hown, hU⟩
  have hl := lv_entry ([.ref (a 0), .int av, .int bv] : List Value) (n := 6) (Nat.le_of_ble_eq_true rfl)
  rw [lg_entry_eq]
  generalize (lg_sl ([.ref (a 0), .int av, .int bv] : List Value) ++ List.replicate (6 - (lg_sl ([.ref (a 0), .int av, .int bv] : List Value)).length) Slot.unset).toArray = ls at hl ⊢
  have hl : lv_has ls 6 [(0, .ref (a 0)), (1, .int av), (2, .int bv)] := hl
  refine lv_aload_n hx hb dX5_isBefore_0 rfl (lv_at hl 0 rfl) ?_
  refine lv_iload_n hx hb dX5_isBefore_1 rfl (lv_at hl 1 rfl) ?_
  refine rcV (n := 1) (As := [.int av]) (rest := []) hF (c_X5_count l k a M av n hn hc) (hP) hK 0 (ci := 5) rfl rfl rfl uC_X5_count uN_X5 uM_X5_107 uI_X5_count uE_X5_count (by decide +kernel) rfl ⟨Nat.le_of_ble_eq_true rfl, Nat.le_of_ble_eq_true rfl⟩ ⟨Nat.zero_le _, Nat.zero_le _⟩ hl.1 rfl (Nat.le_of_ble_eq_true rfl) dX5_isBefore_2 ?_
  refine lv_istore_n (lv' := [(3, .int (nI (cn av n))), (0, .ref (a 0)), (1, .int av), (2, .int bv)]) hx hb dX5_isBefore_5 rfl hl (by decide) rfl (fun ls hl => ?_)
  refine lv_aload_n hx hb dX5_isBefore_6 rfl (lv_at hl 1 rfl) ?_
  refine lv_iload_n hx hb dX5_isBefore_7 rfl (lv_at hl 3 rfl) ?_
  refine rcV (n := 1) (As := [.int bv]) (rest := []) hF (c_X5_count l k a M bv n hn hc) (hP) hK 0 (ci := 5) rfl rfl rfl uC_X5_count uN_X5 uM_X5_107 uI_X5_count uE_X5_count (by decide +kernel) rfl ⟨Nat.le_of_ble_eq_true rfl, Nat.le_of_ble_eq_true rfl⟩ ⟨Nat.zero_le _, Nat.zero_le _⟩ hl.1 rfl (Nat.le_of_ble_eq_true rfl) dX5_isBefore_8 ?_
  refine lv_istore (lv' := [(4, .int (nI (cn bv n))), (3, .int (nI (cn av n))), (0, .ref (a 0)), (1, .int av), (2, .int bv)]) hx hb dX5_isBefore_11 hl (by decide) rfl (fun ls hl => ?_)
  refine lv_iload_n hx hb dX5_isBefore_13 rfl (lv_at hl 1 rfl) ?_
  refine lv_iload hx hb dX5_isBefore_14 (lv_at hl 0 rfl) ?_
  refine lv_icmp_eq (tgt := 31) hx hb dX5_isBefore_16 (by decide) (fun c_1 => ?_) (fun c_1 => ?_)
  · refine lv_iload_n hx hb dX5_isBefore_31 rfl (lv_at hl 3 rfl) ?_
    refine lv_iload_n hx hb dX5_isBefore_32 rfl (lv_at hl 4 rfl) ?_
    refine lv_ixor hx hb dX5_isBefore_33 ?_
    refine lv_istore (lv' := [(5, .int (av ^^^ bv)), (4, .int (nI (cn bv n))), (3, .int (nI (cn av n))), (0, .ref (a 0)), (1, .int av), (2, .int bv)]) hx hb dX5_isBefore_34 hl (by decide) rfl (fun ls hl => ?_)
    refine lv_iload_n hx hb dX5_isBefore_36 rfl (lv_at hl 4 rfl) ?_
    refine lv_iload hx hb dX5_isBefore_37 (lv_at hl 0 rfl) ?_
    refine lv_iand hx hb dX5_isBefore_39 ?_
    refine lv_iload hx hb dX5_isBefore_40 (lv_at hl 0 rfl) ?_
    refine lv_ineg hx hb dX5_isBefore_42 ?_
    refine lv_iand hx hb dX5_isBefore_43 ?_
    refine lv_if_eq (tgt := 51) hx hb dX5_isBefore_44 (by decide) (fun c_2 => ?_) (fun c_2 => ?_)
    · refine lv_iconst (v := 0) hx hb dX5_isBefore_51 (by decide) ?_
      exact W.zret (v := 0) hx hb hr rfl (fun t ht hW => ⟨by rw [w_X5_isBefore, if_pos c_1, if_pos c_2], ht⟩) (fun q h => absurd h List.not_mem_nil) dX5_isBefore_52
    · refine lv_iconst (v := 1) hx hb dX5_isBefore_47 (by decide) ?_
      refine lv_goto (tgt := 52) hx hb dX5_isBefore_48 (by decide) ?_
      exact W.zret (v := 1) hx hb hr rfl (fun t ht hW => ⟨by rw [w_X5_isBefore, if_pos c_1, if_neg c_2], ht⟩) (fun q h => absurd h List.not_mem_nil) dX5_isBefore_52
  · refine lv_iload_n hx hb dX5_isBefore_19 rfl (lv_at hl 1 rfl) ?_
    refine lv_iload hx hb dX5_isBefore_20 (lv_at hl 0 rfl) ?_
    refine xb_ge (tgt := 29) hx hb dX5_isBefore_22 (by decide) (fun c_3 => ?_) (fun c_3 => ?_)
    · refine lv_iconst (v := 0) hx hb dX5_isBefore_29 (by decide) ?_
      exact W.zret (v := 0) hx hb hr rfl (fun t ht hW => ⟨by rw [w_X5_isBefore, if_neg c_1, if_neg c_3], ht⟩) (fun q h => absurd h List.not_mem_nil) dX5_isBefore_30
    · refine lv_iconst (v := 1) hx hb dX5_isBefore_25 (by decide) ?_
      refine lv_goto (tgt := 30) hx hb dX5_isBefore_26 (by decide) ?_
      exact W.zret (v := 1) hx hb hr rfl (fun t ht hW => ⟨by rw [w_X5_isBefore, if_neg c_1, if_pos c_3], ht⟩) (fun q h => absurd h List.not_mem_nil) dX5_isBefore_30

def w_X5_border (M : ModT) (n : Nat) : Int64 := if (M_hasChoice M) = 0 then (-1) else (sm (f_bo M (M_choice M) n) n)
set_option maxHeartbeats 4000000 in
set_option maxRecDepth 100000 in
theorem c_X5_border (l : Launch) (k : KT) (a : Nat → Nat) (M : ModT)  (n : Nat) (hn : n ≤ 24) (hc : M_cells M = nI n) : MR l yX5_border cX5_border 1 (some .long) (rz 2 46) k [.ref (a 0)] (mW k a M) (.long (w_X5_border M n)) := by
  refine Met.ofW (cc := cX5_border) (maxL := 1) (ret := (some .long)) (by decide) rfl ?_
  intro p e s m args below meth c s₁ B hml hv
  obtain ⟨rfl, hP, hK⟩ := hv
  have hx := B.exec
  have hb := B.bytes
  have hr := B.returns
  have hU : ∀ w ∈ wsL_law, w.before [.ref (a 0)].toArray s = true := fun w h => atoms_spec (ws := Cond.code yX5_border cX5_border 1 (some .long) :: wsL_law) B.pre w (List.mem_cons_of_mem _ h)
  have hown : s.vm.findClass RX5 = some m.cls := findClass_of_methodNamed B.named
  have hlocks := B.notSynchronized
  have hF : CF p m c cX5_border 1 s [.ref (a 0)].toArray RX5 := ⟨hx, hb, hml, hown, hU⟩
  have hl := lv_entry ([.ref (a 0)] : List Value) (n := 1) (Nat.le_of_ble_eq_true rfl)
  rw [lg_entry_eq]
  generalize (lg_sl ([.ref (a 0)] : List Value) ++ List.replicate (1 - (lg_sl ([.ref (a 0)] : List Value)).length) Slot.unset).toArray = ls at hl ⊢
  have hl : lv_has ls 1 [(0, .ref (a 0))] := hl
  refine lv_aload_n hx hb dX5_border_0 rfl (lv_at hl 0 rfl) ?_
  refine va_get (D := k.1) (ci := 5) (v := .int (M_hasChoice M)) (C := RX5) (T := TX5) (N := 27) hx hb hU inlX5 hown hK.1 hP 0 rfl rfl 16 (by decide) (hU _ uF_X5_121) (fun _ h9 => h9) rfl dX5_border_1 ?_
  refine lv_if_eq (tgt := 18) hx hb dX5_border_4 (by decide) (fun c_1 => ?_) (fun c_1 => ?_)
  · refine lv_ldc2 hx hb hown (hU _ uK_X5_161) dX5_border_18 ?_
    exact W.lret (v := (-1)) hx hb hr (fun t ht hW => ⟨by rw [w_X5_border, if_pos c_1], ht⟩) (fun q h => absurd h List.not_mem_nil) dX5_border_21
  · refine lv_aload_n hx hb dX5_border_7 rfl (lv_at hl 0 rfl) ?_
    refine lv_aload_n hx hb dX5_border_8 rfl (lv_at hl 0 rfl) ?_
    refine va_get (D := k.1) (ci := 5) (v := .int (M_choice M)) (C := RX5) (T := TX5) (N := 27) hx hb hU inlX5 hown hK.1 hP 0 rfl rfl 17 (by decide) (hU _ uF_X5_124) (fun _ h9 => h9) rfl dX5_border_9 ?_
    refine rcV (n := 1) (As := [.int (M_choice M)]) (rest := []) hF (c_X5_borderOf l k a M (M_choice M) n hn hc) (hP) hK 0 (ci := 5) rfl rfl rfl uC_X5_borderOf uN_X5 uM_X5_117 uI_X5_borderOf uE_X5_borderOf (by decide +kernel) rfl ⟨Nat.le_of_ble_eq_true rfl, Nat.le_of_ble_eq_true rfl⟩ ⟨Nat.zero_le _, Nat.zero_le _⟩ hl.1 rfl (Nat.le_of_ble_eq_true rfl) dX5_border_12 ?_
    refine lv_goto (tgt := 21) hx hb dX5_border_15 (by decide) ?_
    exact W.lret (v := (sm (f_bo M (M_choice M) n) n)) hx hb hr (fun t ht hW => ⟨by rw [w_X5_border, if_neg c_1], ht⟩) (fun q h => absurd h List.not_mem_nil) dX5_border_21

def okp (M : ModT) (set : Int32) (c : Nat) : Bool := al (fun d => !(bt set d && decide (¬ M_apart M (24 * c + d) = 0))) c
def okc (M : ModT) (set : Int32) (c : Nat) : Bool := !(decide (M_states M c = 1) && !bt set c) && !(decide (M_states M c = 2) && bt set c) && (!bt set c || okp M set c)
theorem okc_ok {M : ModT} {set : Int32} {i : Nat} (h1 : ¬ (M_states M i = 1 ∧ bt set i = false)) (h2 : ¬ (M_states M i = 2 ∧ bt set i = true)) (h3 : bt set i = true → okp M set i = true) : okc M set i = true := by
  unfold okc
  cases e : bt set i with
  | false =>
    rw [e] at h1
    simp
    exact fun q => h1 ⟨q, rfl⟩
  | true =>
    rw [e] at h2
    simp
    exact ⟨fun q => h2 ⟨q, rfl⟩, h3 e⟩
theorem okc_no1 {M : ModT} {set : Int32} {i : Nat} (h1 : M_states M i = 1) (h2 : bt set i = false) : okc M set i = false := by simp [okc, h1, h2]
theorem okc_no2 {M : ModT} {set : Int32} {i : Nat} (h1 : M_states M i = 2) (h2 : bt set i = true) : okc M set i = false := by simp [okc, h1, h2]
theorem okc_no3 {M : ModT} {set : Int32} {i : Nat} (h1 : okp M set i = false) (h2 : bt set i = true) : okc M set i = false := by simp [okc, h1, h2]
def okg (M : ModT) (set : Int32) (n : Nat) : Nat → Bool := fun q => decide (¬ w_X5_meets M set n q = 0)
def okf (M : ModT) (set : Int32) (n : Nat) : Nat → Bool := fun q => decide (¬ (sm (f_ho M q (w_X5_all M)) n * M_fairAbove M) < (sm (f_ho M q set) n * M_fairBelow M))
def w_X5_stands (M : ModT) (set : Int32) (n : Nat) : Int32 := if al (okc M set) n = true then (if nI (cn set n) < M_least M then 0 else if al (okg M set n) 8 = true then (if M_isFair M = 0 then 1 else if al (okf M set n) 4 = true then 1 else 0) else 0) else 0
set_option maxHeartbeats 4000000 in
set_option maxRecDepth 100000 in
theorem c_X5_stands (l : Launch) (k : KT) (a : Nat → Nat) (M : ModT) (set : Int32) (n : Nat) (hn : n ≤ 24) (hc : M_cells M = nI n) : MR l yX5_stands cX5_stands 4 (some .boolean) (rz 3 68) k [.ref (a 0), .int set] (mW k a M) (.int (w_X5_stands M set n)) := by
  refine Met.ofW (cc := cX5_stands) (maxL := 4) (ret := (some .boolean)) (by decide) rfl ?_
  intro p e s m args below meth c s₁ B hml hv
  obtain ⟨rfl, hP, hK⟩ := hv
  have hx := B.exec
  have hb := B.bytes
  have hr := B.returns
  have hU : ∀ w ∈ wsL_law, w.before [.ref (a 0), .int set].toArray s = true := fun w h => atoms_spec (ws := Cond.code yX5_stands cX5_stands 4 (some .boolean) :: wsL_law) B.pre w (List.mem_cons_of_mem _ h)
  have hown : s.vm.findClass RX5 = some m.cls := findClass_of_methodNamed B.named
  have hlocks := B.notSynchronized
  have hF : CF p m c cX5_stands 4 s [.ref (a 0), .int set].toArray RX5 := ⟨hx, hb, hml, hown, hU⟩
  have hl := lv_entry ([.ref (a 0), .int set] : List Value) (n := 4) (Nat.le_of_ble_eq_true rfl)
  rw [lg_entry_eq]
  generalize (lg_sl ([.ref (a 0), .int set] : List Value) ++ List.replicate (4 - (lg_sl ([.ref (a 0), .int set] : List Value)).length) Slot.unset).toArray = ls at hl ⊢
  have hl : lv_has ls 4 [(0, .ref (a 0)), (1, .int set)] := hl
  refine lv_iconst (v := 0) hx hb dX5_stands_0 (by decide) ?_
  refine lv_istore_n (lv' := [(2, .int 0), (0, .ref (a 0)), (1, .int set)]) hx hb dX5_stands_1 rfl hl (by decide) rfl (fun ls hl => ?_)
  have loop_i : ∀ (ri i : Nat), i + ri * 1 = n → ∀ (ls : Array Slot) , lv_has ls 4 [(2, .int (nI i)), (0, .ref (a 0)), (1, .int set)] → (∀ j, j < i → okc M set j = true) → WR p l e s m below meth c yX5_stands cX5_stands 4 (some .boolean) (rz 3 68) [.ref (a 0), .int set] (.int (w_X5_stands M set n)) (F0 m 2 ls []) := by
    intro ri
    induction ri with
    | zero =>
      intro i hi_i ls hl hv_i
      have he_i : n = i := by omega
      subst he_i
      refine lv_iload_n hx hb dX5_stands_2 rfl (lv_at hl 0 rfl) ?_
      refine lv_aload_n hx hb dX5_stands_3 rfl (lv_at hl 1 rfl) ?_
      refine va_get (D := k.1) (ci := 5) (v := .int (M_cells M)) (C := RX5) (T := TX5) (N := 27) hx hb hU inlX5 hown hK.1 hP 0 rfl rfl 0 (by decide) (hU _ uF_X5_49) (fun _ h9 => h9) rfl dX5_stands_4 ?_
      refine xb_ge (tgt := 99) hx hb dX5_stands_7 (by decide) (fun c_1 => ?_) (fun c9 => absurd c9 (by rw [hc]; exact nI_nlt (a := n) (b := n) (Nat.le_refl _) (by omega)))
      refine lv_aload_n hx hb dX5_stands_99 rfl (lv_at hl 1 rfl) ?_
      refine lv_iload_n hx hb dX5_stands_100 rfl (lv_at hl 2 rfl) ?_
      refine rcV (n := 1) (As := [.int set]) (rest := []) hF (c_X5_count l k a M set n hn hc) (hP) hK 0 (ci := 5) rfl rfl rfl uC_X5_count uN_X5 uM_X5_107 uI_X5_count uE_X5_count (by decide +kernel) rfl ⟨Nat.le_of_ble_eq_true rfl, Nat.le_of_ble_eq_true rfl⟩ ⟨Nat.zero_le _, Nat.zero_le _⟩ hl.1 rfl (Nat.le_of_ble_eq_true rfl) dX5_stands_101 ?_
      refine lv_aload_n hx hb dX5_stands_104 rfl (lv_at hl 1 rfl) ?_
      refine va_get (D := k.1) (ci := 5) (v := .int (M_least M)) (C := RX5) (T := TX5) (N := 27) hx hb hU inlX5 hown hK.1 hP 0 rfl rfl 14 (by decide) (hU _ uF_X5_90) (fun _ h9 => h9) rfl dX5_stands_105 ?_
      refine xb_ge (tgt := 113) hx hb dX5_stands_108 (by decide) (fun c_2 => ?_) (fun c_2 => ?_)
      · refine lv_iconst (v := 0) hx hb dX5_stands_113 (by decide) ?_
        refine lv_istore_n (lv' := [(2, .int 0), (0, .ref (a 0)), (1, .int set)]) hx hb dX5_stands_114 rfl hl (by decide) rfl (fun ls hl => ?_)
        have loop_g : ∀ (rg g : Nat), g + rg * 1 = 8 → ∀ (ls : Array Slot) , lv_has ls 4 [(2, .int (nI g)), (0, .ref (a 0)), (1, .int set)] → (∀ j, j < g → ¬ w_X5_meets M set n j = 0) → WR p l e s m below meth c yX5_stands cX5_stands 4 (some .boolean) (rz 3 68) [.ref (a 0), .int set] (.int (w_X5_stands M set n)) (F0 m 115 ls []) := by
          intro rg
          induction rg with
          | zero =>
            intro g hi_g ls hl hv_g
            have he_g : 8 = g := by omega
            subst he_g
            refine lv_iload_n hx hb dX5_stands_115 rfl (lv_at hl 0 rfl) ?_
            refine lv_bipush (v := 8) hx hb dX5_stands_116 (by decide) ?_
            refine xb_ge (tgt := 138) hx hb dX5_stands_118 (by decide) (fun c_3 => ?_) (fun c9 => absurd c9 (nI_nlt (a := 8) (b := 8) (Nat.le_refl _) (by omega)))
            refine lv_iconst (v := 0) hx hb dX5_stands_138 (by decide) ?_
            refine lv_istore_n (lv' := [(2, .int 0), (0, .ref (a 0)), (1, .int set)]) hx hb dX5_stands_139 rfl hl (by decide) rfl (fun ls hl => ?_)
            have loop_f : ∀ (rf f : Nat), f + rf * 1 = 4 → ∀ (ls : Array Slot) , lv_has ls 4 [(2, .int (nI f)), (0, .ref (a 0)), (1, .int set)] → (∀ j, j < f → ¬ (sm (f_ho M j (w_X5_all M)) n * M_fairAbove M) < (sm (f_ho M j set) n * M_fairBelow M)) → WR p l e s m below meth c yX5_stands cX5_stands 4 (some .boolean) (rz 3 68) [.ref (a 0), .int set] (.int (w_X5_stands M set n)) (F0 m 140 ls []) := by
              intro rf
              induction rf with
              | zero =>
                intro f hi_f ls hl hv_f
                have he_f : 4 = f := by omega
                subst he_f
                refine lv_iload_n hx hb dX5_stands_140 rfl (lv_at hl 0 rfl) ?_
                refine lv_iconst (v := 4) hx hb dX5_stands_141 (by decide) ?_
                refine xb_ge (tgt := 189) hx hb dX5_stands_142 (by decide) (fun c_4 => ?_) (fun c9 => absurd c9 (nI_nlt (a := 4) (b := 4) (Nat.le_refl _) (by omega)))
                refine lv_iconst (v := 1) hx hb dX5_stands_189 (by decide) ?_
                exact W.zret (v := 1) hx hb hr rfl (fun t ht hW => ⟨by rw [w_X5_stands, if_pos (al_iff.mpr hv_i), if_neg c_2, if_pos (al_iff (q := okg M set n).mpr (fun j hj => decide_eq_true (hv_g j hj)))]; by_cases hf : M_isFair M = 0; rw [if_pos hf]; rw [if_neg hf, if_pos (al_iff (q := okf M set n).mpr (fun j hj => decide_eq_true (hv_f j hj)))], ht⟩) (fun q h => absurd h List.not_mem_nil) dX5_stands_190
              | succ rf ih_f =>
                intro f hi_f ls hl hv_f
                have ht_f : f < 4 := by omega
                refine lv_iload_n hx hb dX5_stands_140 rfl (lv_at hl 0 rfl) ?_
                refine lv_iconst (v := 4) hx hb dX5_stands_141 (by decide) ?_
                refine xb_ge (tgt := 189) hx hb dX5_stands_142 (by decide) (fun c9 => absurd (nI_lt (a := f) (b := 4) (by omega) (by omega)) c9) (fun c_5 => ?_)
                refine lv_aload_n hx hb dX5_stands_145 rfl (lv_at hl 1 rfl) ?_
                refine va_get (D := k.1) (ci := 5) (v := .int (M_isFair M)) (C := RX5) (T := TX5) (N := 27) hx hb hU inlX5 hown hK.1 hP 0 rfl rfl 10 (by decide) (hU _ uF_X5_80) (fun _ h9 => h9) rfl dX5_stands_146 ?_
                refine lv_if_eq (tgt := 189) hx hb dX5_stands_149 (by decide) (fun c_6 => ?_) (fun c_6 => ?_)
                · refine lv_iconst (v := 1) hx hb dX5_stands_189 (by decide) ?_
                  exact W.zret (v := 1) hx hb hr rfl (fun t ht hW => ⟨by rw [w_X5_stands, if_pos (al_iff.mpr hv_i), if_neg c_2, if_pos (al_iff (q := okg M set n).mpr (fun j hj => decide_eq_true (hv_g j hj))), if_pos c_6], ht⟩) (fun q h => absurd h List.not_mem_nil) dX5_stands_190
                · refine lv_aload_n hx hb dX5_stands_152 rfl (lv_at hl 1 rfl) ?_
                  refine lv_iload_n hx hb dX5_stands_153 rfl (lv_at hl 0 rfl) ?_
                  refine lv_iload_n hx hb dX5_stands_154 rfl (lv_at hl 2 rfl) ?_
                  refine rcV (n := 2) (As := [.int (nI f), .int set]) (rest := []) hF (c_X5_hoursIn l k a M (nI f) set n hn hc f (by omega) rfl) (hP) hK 0 (ci := 5) rfl rfl rfl uC_X5_hoursIn uN_X5 uM_X5_114 uI_X5_hoursIn uE_X5_hoursIn (by decide +kernel) rfl ⟨Nat.le_of_ble_eq_true rfl, Nat.le_of_ble_eq_true rfl⟩ ⟨Nat.zero_le _, Nat.zero_le _⟩ hl.1 rfl (Nat.le_of_ble_eq_true rfl) dX5_stands_155 ?_
                  refine lv_aload_n hx hb dX5_stands_158 rfl (lv_at hl 1 rfl) ?_
                  refine va_get (D := k.1) (ci := 5) (v := .long (M_fairBelow M)) (C := RX5) (T := TX5) (N := 27) hx hb hU inlX5 hown hK.1 hP 0 rfl rfl 12 (by decide) (hU _ uF_X5_87) (fun _ h9 => h9) rfl dX5_stands_159 ?_
                  refine lv_lmul hx hb dX5_stands_162 ?_
                  refine lv_aload_n hx hb dX5_stands_163 rfl (lv_at hl 1 rfl) ?_
                  refine lv_iload_n hx hb dX5_stands_164 rfl (lv_at hl 0 rfl) ?_
                  refine lv_aload_n hx hb dX5_stands_165 rfl (lv_at hl 1 rfl) ?_
                  refine rcV (n := 0) (As := []) (rest := [.int (nI f), .ref (a 0), .long ((sm (f_ho M f set) n) * (M_fairBelow M))]) hF (c_X5_all l k a M  ) (hP) hK 0 (ci := 5) rfl rfl rfl uC_X5_all uN_X5 uM_X5_103 uI_X5_all uE_X5_all (by decide +kernel) rfl ⟨Nat.le_of_ble_eq_true rfl, Nat.le_of_ble_eq_true rfl⟩ ⟨Nat.zero_le _, Nat.zero_le _⟩ hl.1 rfl (Nat.le_of_ble_eq_true rfl) dX5_stands_166 ?_
                  refine rcV (n := 2) (As := [.int (nI f), .int (w_X5_all M)]) (rest := [.long ((sm (f_ho M f set) n) * (M_fairBelow M))]) hF (c_X5_hoursIn l k a M (nI f) (w_X5_all M) n hn hc f (by omega) rfl) (hP) hK 0 (ci := 5) rfl rfl rfl uC_X5_hoursIn uN_X5 uM_X5_114 uI_X5_hoursIn uE_X5_hoursIn (by decide +kernel) rfl ⟨Nat.le_of_ble_eq_true rfl, Nat.le_of_ble_eq_true rfl⟩ ⟨Nat.zero_le _, Nat.zero_le _⟩ hl.1 rfl (Nat.le_of_ble_eq_true rfl) dX5_stands_169 ?_
                  refine lv_aload_n hx hb dX5_stands_172 rfl (lv_at hl 1 rfl) ?_
                  refine va_get (D := k.1) (ci := 5) (v := .long (M_fairAbove M)) (C := RX5) (T := TX5) (N := 27) hx hb hU inlX5 hown hK.1 hP 0 rfl rfl 11 (by decide) (hU _ uF_X5_84) (fun _ h9 => h9) rfl dX5_stands_173 ?_
                  refine lv_lmul hx hb dX5_stands_176 ?_
                  refine xl_le (tgt := 183) hx hb dX5_stands_177 dX5_stands_178 (by decide) (fun c_7 => ?_) (fun c_7 => ?_)
                  · refine lv_iinc (v := nI (f + 1)) (lv' := [(2, .int (nI (f + 1))), (0, .ref (a 0)), (1, .int set)]) hx hb dX5_stands_183 hl (k := 0) rfl (nI_add f 1) (by decide) rfl (fun ls hl => ?_)
                    refine lv_goto (tgt := 140) hx hb dX5_stands_186 (by decide) ?_
                    exact ih_f (f + 1) (by omega) ls (lv_sub hl [0, 1, 2] rfl) (lt_s hv_f c_7)
                  · refine lv_iconst (v := 0) hx hb dX5_stands_181 (by decide) ?_
                    exact W.zret (v := 0) hx hb hr rfl (fun t ht hW => ⟨by rw [w_X5_stands, if_pos (al_iff.mpr hv_i), if_neg c_2, if_pos (al_iff (q := okg M set n).mpr (fun j hj => decide_eq_true (hv_g j hj))), if_neg c_6, if_neg (by rw [al_not (q := okf M set n) ht_f (decide_eq_false (fun q => q c_7))]; decide)], ht⟩) (fun q h => absurd h List.not_mem_nil) dX5_stands_182
            exact loop_f 4 0 (by omega) ls (lv_sub hl [0, 1, 2] rfl) (fun j h => absurd h (Nat.not_lt_zero j))
          | succ rg ih_g =>
            intro g hi_g ls hl hv_g
            have ht_g : g < 8 := by omega
            refine lv_iload_n hx hb dX5_stands_115 rfl (lv_at hl 0 rfl) ?_
            refine lv_bipush (v := 8) hx hb dX5_stands_116 (by decide) ?_
            refine xb_ge (tgt := 138) hx hb dX5_stands_118 (by decide) (fun c9 => absurd (nI_lt (a := g) (b := 8) (by omega) (by omega)) c9) (fun c_8 => ?_)
            refine lv_aload_n hx hb dX5_stands_121 rfl (lv_at hl 1 rfl) ?_
            refine lv_iload_n hx hb dX5_stands_122 rfl (lv_at hl 0 rfl) ?_
            refine lv_iload_n hx hb dX5_stands_123 rfl (lv_at hl 2 rfl) ?_
            refine rcV (n := 2) (As := [.int (nI g), .int set]) (rest := []) hF (c_X5_meets l k a M (nI g) set n hn hc g (by omega) rfl) (hP) hK 0 (ci := 5) rfl rfl rfl uC_X5_meets uN_X5 uM_X5_111 uI_X5_meets uE_X5_meets (by decide +kernel) rfl ⟨Nat.le_of_ble_eq_true rfl, Nat.le_of_ble_eq_true rfl⟩ ⟨Nat.zero_le _, Nat.zero_le _⟩ hl.1 rfl (Nat.le_of_ble_eq_true rfl) dX5_stands_124 ?_
            refine lv_if_ne (tgt := 132) hx hb dX5_stands_127 (by decide) (fun c_9 => ?_) (fun c_9 => ?_)
            · refine lv_iinc (v := nI (g + 1)) (lv' := [(2, .int (nI (g + 1))), (0, .ref (a 0)), (1, .int set)]) hx hb dX5_stands_132 hl (k := 0) rfl (nI_add g 1) (by decide) rfl (fun ls hl => ?_)
              refine lv_goto (tgt := 115) hx hb dX5_stands_135 (by decide) ?_
              exact ih_g (g + 1) (by omega) ls (lv_sub hl [0, 1, 2] rfl) (lt_s hv_g c_9)
            · refine lv_iconst (v := 0) hx hb dX5_stands_130 (by decide) ?_
              exact W.zret (v := 0) hx hb hr rfl (fun t ht hW => ⟨by rw [w_X5_stands, if_pos (al_iff.mpr hv_i), if_neg c_2, if_neg (by rw [al_not (q := okg M set n) ht_g (decide_eq_false (fun q => q c_9))]; decide)], ht⟩) (fun q h => absurd h List.not_mem_nil) dX5_stands_131
        exact loop_g 8 0 (by omega) ls (lv_sub hl [0, 1, 2] rfl) (fun j h => absurd h (Nat.not_lt_zero j))
      · refine lv_iconst (v := 0) hx hb dX5_stands_111 (by decide) ?_
        exact W.zret (v := 0) hx hb hr rfl (fun t ht hW => ⟨by rw [w_X5_stands, if_pos (al_iff.mpr hv_i), if_pos c_2], ht⟩) (fun q h => absurd h List.not_mem_nil) dX5_stands_112
    | succ ri ih_i =>
      intro i hi_i ls hl hv_i
      have ht_i : i < n := by omega
      refine lv_iload_n hx hb dX5_stands_2 rfl (lv_at hl 0 rfl) ?_
      refine lv_aload_n hx hb dX5_stands_3 rfl (lv_at hl 1 rfl) ?_
      refine va_get (D := k.1) (ci := 5) (v := .int (M_cells M)) (C := RX5) (T := TX5) (N := 27) hx hb hU inlX5 hown hK.1 hP 0 rfl rfl 0 (by decide) (hU _ uF_X5_49) (fun _ h9 => h9) rfl dX5_stands_4 ?_
      refine xb_ge (tgt := 99) hx hb dX5_stands_7 (by decide) (fun c9 => absurd (by rw [hc]; exact nI_lt (a := i) (b := n) (by omega) (by omega)) c9) (fun c_10 => ?_)
      refine lv_aload_n hx hb dX5_stands_10 rfl (lv_at hl 1 rfl) ?_
      refine va_get (D := k.1) (ci := 5) (v := .ref (a 2)) (C := RX5) (T := TX5) (N := 27) hx hb hU inlX5 hown hK.1 hP 0 rfl rfl 2 (by decide) (hU _ uF_X5_13) (fun _ h9 => h9) rfl dX5_stands_11 ?_
      refine lv_iload_n hx hb dX5_stands_14 rfl (lv_at hl 0 rfl) ?_
      refine xa_iald hx hb hK.1 hP 2 0 rfl rfl (j := i) rfl (by omega) (by decide) dX5_stands_15 ?_
      refine lv_iconst (v := 1) hx hb dX5_stands_16 (by decide) ?_
      refine lv_icmp_ne (tgt := 28) hx hb dX5_stands_17 (by decide) (fun c_11 => ?_) (fun c_11 => ?_)
      · refine lv_aload_n hx hb dX5_stands_28 rfl (lv_at hl 1 rfl) ?_
        refine va_get (D := k.1) (ci := 5) (v := .ref (a 2)) (C := RX5) (T := TX5) (N := 27) hx hb hU inlX5 hown hK.1 hP 0 rfl rfl 2 (by decide) (hU _ uF_X5_13) (fun _ h9 => h9) rfl dX5_stands_29 ?_
        refine lv_iload_n hx hb dX5_stands_32 rfl (lv_at hl 0 rfl) ?_
        refine xa_iald hx hb hK.1 hP 2 0 rfl rfl (j := i) rfl (by omega) (by decide) dX5_stands_33 ?_
        refine lv_iconst (v := 2) hx hb dX5_stands_34 (by decide) ?_
        refine lv_icmp_ne (tgt := 48) hx hb dX5_stands_35 (by decide) (fun c_12 => ?_) (fun c_12 => ?_)
        · refine lv_iconst (v := 0) hx hb dX5_stands_48 (by decide) ?_
          refine lv_istore_n (lv' := [(3, .int 0), (2, .int (nI i)), (0, .ref (a 0)), (1, .int set)]) hx hb dX5_stands_49 rfl hl (by decide) rfl (fun ls hl => ?_)
          have loop_h : ∀ (rh h : Nat), h + rh * 1 = i → ∀ (ls : Array Slot) , lv_has ls 4 [(3, .int (nI h)), (2, .int (nI i)), (0, .ref (a 0)), (1, .int set)] → (∀ d, d < h → (!(bt set d && decide (¬ M_apart M (24 * i + d) = 0))) = true) → WR p l e s m below meth c yX5_stands cX5_stands 4 (some .boolean) (rz 3 68) [.ref (a 0), .int set] (.int (w_X5_stands M set n)) (F0 m 50 ls []) := by
            intro rh
            induction rh with
            | zero =>
              intro h hi_h ls hl hv_h
              have he_h : i = h := by omega
              subst he_h
              refine lv_iload_n hx hb dX5_stands_50 rfl (lv_at hl 0 rfl) ?_
              refine lv_iload_n hx hb dX5_stands_51 rfl (lv_at hl 1 rfl) ?_
              refine xb_ge (tgt := 93) hx hb dX5_stands_52 (by decide) (fun c_13 => ?_) (fun c9 => absurd c9 (nI_nlt (a := i) (b := i) (Nat.le_refl _) (by omega)))
              refine lv_iinc (v := nI (i + 1)) (lv' := [(2, .int (nI (i + 1))), (3, .int (nI i)), (0, .ref (a 0)), (1, .int set)]) hx hb dX5_stands_93 hl (k := 1) rfl (nI_add i 1) (by decide) rfl (fun ls hl => ?_)
              refine lv_goto (tgt := 2) hx hb dX5_stands_96 (by decide) ?_
              have hok : okc M set i = true := okc_ok (fun h => c_11 h.1) (fun h => c_12 h.1) (fun _ => al_iff.mpr hv_h)
              exact ih_i (i + 1) (by omega) ls (lv_sub hl [0, 2, 3] rfl) (lt_s hv_i hok)
            | succ rh ih_h =>
              intro h hi_h ls hl hv_h
              have ht_h : h < i := by omega
              refine lv_iload_n hx hb dX5_stands_50 rfl (lv_at hl 0 rfl) ?_
              refine lv_iload_n hx hb dX5_stands_51 rfl (lv_at hl 1 rfl) ?_
              refine xb_ge (tgt := 93) hx hb dX5_stands_52 (by decide) (fun c9 => absurd (nI_lt (a := h) (b := i) (by omega) (by omega)) c9) (fun c_14 => ?_)
              refine lv_iload_n hx hb dX5_stands_55 rfl (lv_at hl 3 rfl) ?_
              refine lv_iload_n hx hb dX5_stands_56 rfl (lv_at hl 1 rfl) ?_
              refine rcS (n := 2) (As := [.int set, .int (nI i)]) (rest := []) hF (c_X5_has l k  set (nI i) ) (hP.sub (ws' := []) [] rfl) hK uC_X5_has uN_X5 uM_X5_95 uS_X5_has (by decide +kernel) rfl ⟨Nat.le_of_ble_eq_true rfl, Nat.le_of_ble_eq_true rfl⟩ ⟨Nat.zero_le _, Nat.zero_le _⟩ hl.1 rfl (Nat.le_of_ble_eq_true rfl) dX5_stands_57 ?_
              refine lv_if_eq (tgt := 93) hx hb dX5_stands_60 (by decide) (fun c_15 => ?_) (fun c_15 => ?_)
              · refine lv_iinc (v := nI (i + 1)) (lv' := [(2, .int (nI (i + 1))), (3, .int (nI h)), (0, .ref (a 0)), (1, .int set)]) hx hb dX5_stands_93 hl (k := 1) rfl (nI_add i 1) (by decide) rfl (fun ls hl => ?_)
                refine lv_goto (tgt := 2) hx hb dX5_stands_96 (by decide) ?_
                have hok : okc M set i = true := okc_ok (fun h => c_11 h.1) (fun h => c_12 h.1) (fun h => absurd h (by rw [(mb0 set (by omega)).mp c_15]; decide))
                exact ih_i (i + 1) (by omega) ls (lv_sub hl [0, 2, 3] rfl) (lt_s hv_i hok)
              · refine lv_iload_n hx hb dX5_stands_63 rfl (lv_at hl 3 rfl) ?_
                refine lv_iload_n hx hb dX5_stands_64 rfl (lv_at hl 0 rfl) ?_
                refine rcS (n := 2) (As := [.int set, .int (nI h)]) (rest := []) hF (c_X5_has l k  set (nI h) ) (hP.sub (ws' := []) [] rfl) hK uC_X5_has uN_X5 uM_X5_95 uS_X5_has (by decide +kernel) rfl ⟨Nat.le_of_ble_eq_true rfl, Nat.le_of_ble_eq_true rfl⟩ ⟨Nat.zero_le _, Nat.zero_le _⟩ hl.1 rfl (Nat.le_of_ble_eq_true rfl) dX5_stands_65 ?_
                refine lv_if_eq (tgt := 87) hx hb dX5_stands_68 (by decide) (fun c_16 => ?_) (fun c_16 => ?_)
                · refine lv_iinc (v := nI (h + 1)) (lv' := [(3, .int (nI (h + 1))), (2, .int (nI i)), (0, .ref (a 0)), (1, .int set)]) hx hb dX5_stands_87 hl (k := 0) rfl (nI_add h 1) (by decide) rfl (fun ls hl => ?_)
                  refine lv_goto (tgt := 50) hx hb dX5_stands_90 (by decide) ?_
                  exact ih_h (h + 1) (by omega) ls (lv_sub hl [0, 1, 2, 3] rfl) (lt_s hv_h (by simp [(mb0 set (by omega)).mp c_16]))
                · refine lv_aload_n hx hb dX5_stands_71 rfl (lv_at hl 2 rfl) ?_
                  refine va_get (D := k.1) (ci := 5) (v := .ref (a 6)) (C := RX5) (T := TX5) (N := 27) hx hb hU inlX5 hown hK.1 hP 0 rfl rfl 6 (by decide) (hU _ uF_X5_26) (fun _ h9 => h9) rfl dX5_stands_72 ?_
                  refine lv_bipush (v := 24) hx hb dX5_stands_75 (by decide) ?_
                  refine lv_iload_n hx hb dX5_stands_77 rfl (lv_at hl 1 rfl) ?_
                  refine lv_imul hx hb dX5_stands_78 ?_
                  refine lv_iload_n hx hb dX5_stands_79 rfl (lv_at hl 0 rfl) ?_
                  refine lv_iadd hx hb dX5_stands_80 ?_
                  refine xa_zald hx hb hK.1 hP 6 2 rfl rfl (j := (24 * i + h)) (ix24r i h) (by omega) (by decide) dX5_stands_81 ?_
                  refine lv_if_eq (tgt := 87) hx hb dX5_stands_82 (by decide) (fun c_17 => ?_) (fun c_17 => ?_)
                  · refine lv_iinc (v := nI (h + 1)) (lv' := [(3, .int (nI (h + 1))), (2, .int (nI i)), (0, .ref (a 0)), (1, .int set)]) hx hb dX5_stands_87 hl (k := 0) rfl (nI_add h 1) (by decide) rfl (fun ls hl => ?_)
                    refine lv_goto (tgt := 50) hx hb dX5_stands_90 (by decide) ?_
                    exact ih_h (h + 1) (by omega) ls (lv_sub hl [0, 1, 2, 3] rfl) (lt_s hv_h (by simp [c_17]))
                  · refine lv_iconst (v := 0) hx hb dX5_stands_85 (by decide) ?_
                    exact W.zret (v := 0) hx hb hr rfl (fun t ht hW => ⟨by rw [w_X5_stands, if_neg (by rw [al_not ht_i (okc_no3 (al_not ht_h (by simp [(mb1 set (by omega)).mp c_16, c_17])) ((mb1 set (by omega)).mp c_15))]; decide)], ht⟩) (fun q h => absurd h List.not_mem_nil) dX5_stands_86
          exact loop_h i 0 (by omega) ls (lv_sub hl [0, 1, 2, 3] rfl) (fun j h => absurd h (Nat.not_lt_zero j))
        · refine lv_iload_n hx hb dX5_stands_38 rfl (lv_at hl 2 rfl) ?_
          refine lv_iload_n hx hb dX5_stands_39 rfl (lv_at hl 0 rfl) ?_
          refine rcS (n := 2) (As := [.int set, .int (nI i)]) (rest := []) hF (c_X5_has l k  set (nI i) ) (hP.sub (ws' := []) [] rfl) hK uC_X5_has uN_X5 uM_X5_95 uS_X5_has (by decide +kernel) rfl ⟨Nat.le_of_ble_eq_true rfl, Nat.le_of_ble_eq_true rfl⟩ ⟨Nat.zero_le _, Nat.zero_le _⟩ hl.1 rfl (Nat.le_of_ble_eq_true rfl) dX5_stands_40 ?_
          refine lv_if_eq (tgt := 48) hx hb dX5_stands_43 (by decide) (fun c_18 => ?_) (fun c_18 => ?_)
          · refine lv_iconst (v := 0) hx hb dX5_stands_48 (by decide) ?_
            refine lv_istore_n (lv' := [(3, .int 0), (2, .int (nI i)), (0, .ref (a 0)), (1, .int set)]) hx hb dX5_stands_49 rfl hl (by decide) rfl (fun ls hl => ?_)
            have loop_h : ∀ (rh h : Nat), h + rh * 1 = i → ∀ (ls : Array Slot) , lv_has ls 4 [(3, .int (nI h)), (2, .int (nI i)), (0, .ref (a 0)), (1, .int set)] → (∀ d, d < h → (!(bt set d && decide (¬ M_apart M (24 * i + d) = 0))) = true) → WR p l e s m below meth c yX5_stands cX5_stands 4 (some .boolean) (rz 3 68) [.ref (a 0), .int set] (.int (w_X5_stands M set n)) (F0 m 50 ls []) := by
              intro rh
              induction rh with
              | zero =>
                intro h hi_h ls hl hv_h
                have he_h : i = h := by omega
                subst he_h
                refine lv_iload_n hx hb dX5_stands_50 rfl (lv_at hl 0 rfl) ?_
                refine lv_iload_n hx hb dX5_stands_51 rfl (lv_at hl 1 rfl) ?_
                refine xb_ge (tgt := 93) hx hb dX5_stands_52 (by decide) (fun c_19 => ?_) (fun c9 => absurd c9 (nI_nlt (a := i) (b := i) (Nat.le_refl _) (by omega)))
                refine lv_iinc (v := nI (i + 1)) (lv' := [(2, .int (nI (i + 1))), (3, .int (nI i)), (0, .ref (a 0)), (1, .int set)]) hx hb dX5_stands_93 hl (k := 1) rfl (nI_add i 1) (by decide) rfl (fun ls hl => ?_)
                refine lv_goto (tgt := 2) hx hb dX5_stands_96 (by decide) ?_
                have hok : okc M set i = true := okc_ok (fun h => c_11 h.1) (fun h => absurd h.2 (by rw [(mb0 set (by omega)).mp c_18]; decide)) (fun _ => al_iff.mpr hv_h)
                exact ih_i (i + 1) (by omega) ls (lv_sub hl [0, 2, 3] rfl) (lt_s hv_i hok)
              | succ rh ih_h =>
                intro h hi_h ls hl hv_h
                have ht_h : h < i := by omega
                refine lv_iload_n hx hb dX5_stands_50 rfl (lv_at hl 0 rfl) ?_
                refine lv_iload_n hx hb dX5_stands_51 rfl (lv_at hl 1 rfl) ?_
                refine xb_ge (tgt := 93) hx hb dX5_stands_52 (by decide) (fun c9 => absurd (nI_lt (a := h) (b := i) (by omega) (by omega)) c9) (fun c_20 => ?_)
                refine lv_iload_n hx hb dX5_stands_55 rfl (lv_at hl 3 rfl) ?_
                refine lv_iload_n hx hb dX5_stands_56 rfl (lv_at hl 1 rfl) ?_
                refine rcS (n := 2) (As := [.int set, .int (nI i)]) (rest := []) hF (c_X5_has l k  set (nI i) ) (hP.sub (ws' := []) [] rfl) hK uC_X5_has uN_X5 uM_X5_95 uS_X5_has (by decide +kernel) rfl ⟨Nat.le_of_ble_eq_true rfl, Nat.le_of_ble_eq_true rfl⟩ ⟨Nat.zero_le _, Nat.zero_le _⟩ hl.1 rfl (Nat.le_of_ble_eq_true rfl) dX5_stands_57 ?_
                refine lv_if_eq (tgt := 93) hx hb dX5_stands_60 (by decide) (fun c_21 => ?_) (fun c_21 => ?_)
                · refine lv_iinc (v := nI (i + 1)) (lv' := [(2, .int (nI (i + 1))), (3, .int (nI h)), (0, .ref (a 0)), (1, .int set)]) hx hb dX5_stands_93 hl (k := 1) rfl (nI_add i 1) (by decide) rfl (fun ls hl => ?_)
                  refine lv_goto (tgt := 2) hx hb dX5_stands_96 (by decide) ?_
                  have hok : okc M set i = true := okc_ok (fun h => c_11 h.1) (fun h => absurd h.2 (by rw [(mb0 set (by omega)).mp c_18]; decide)) (fun h => absurd h (by rw [(mb0 set (by omega)).mp c_21]; decide))
                  exact ih_i (i + 1) (by omega) ls (lv_sub hl [0, 2, 3] rfl) (lt_s hv_i hok)
                · refine lv_iload_n hx hb dX5_stands_63 rfl (lv_at hl 3 rfl) ?_
                  refine lv_iload_n hx hb dX5_stands_64 rfl (lv_at hl 0 rfl) ?_
                  refine rcS (n := 2) (As := [.int set, .int (nI h)]) (rest := []) hF (c_X5_has l k  set (nI h) ) (hP.sub (ws' := []) [] rfl) hK uC_X5_has uN_X5 uM_X5_95 uS_X5_has (by decide +kernel) rfl ⟨Nat.le_of_ble_eq_true rfl, Nat.le_of_ble_eq_true rfl⟩ ⟨Nat.zero_le _, Nat.zero_le _⟩ hl.1 rfl (Nat.le_of_ble_eq_true rfl) dX5_stands_65 ?_
                  refine lv_if_eq (tgt := 87) hx hb dX5_stands_68 (by decide) (fun c_22 => ?_) (fun c_22 => ?_)
                  · refine lv_iinc (v := nI (h + 1)) (lv' := [(3, .int (nI (h + 1))), (2, .int (nI i)), (0, .ref (a 0)), (1, .int set)]) hx hb dX5_stands_87 hl (k := 0) rfl (nI_add h 1) (by decide) rfl (fun ls hl => ?_)
                    refine lv_goto (tgt := 50) hx hb dX5_stands_90 (by decide) ?_
                    exact ih_h (h + 1) (by omega) ls (lv_sub hl [0, 1, 2, 3] rfl) (lt_s hv_h (by simp [(mb0 set (by omega)).mp c_22]))
                  · refine lv_aload_n hx hb dX5_stands_71 rfl (lv_at hl 2 rfl) ?_
                    refine va_get (D := k.1) (ci := 5) (v := .ref (a 6)) (C := RX5) (T := TX5) (N := 27) hx hb hU inlX5 hown hK.1 hP 0 rfl rfl 6 (by decide) (hU _ uF_X5_26) (fun _ h9 => h9) rfl dX5_stands_72 ?_
                    refine lv_bipush (v := 24) hx hb dX5_stands_75 (by decide) ?_
                    refine lv_iload_n hx hb dX5_stands_77 rfl (lv_at hl 1 rfl) ?_
                    refine lv_imul hx hb dX5_stands_78 ?_
                    refine lv_iload_n hx hb dX5_stands_79 rfl (lv_at hl 0 rfl) ?_
                    refine lv_iadd hx hb dX5_stands_80 ?_
                    refine xa_zald hx hb hK.1 hP 6 2 rfl rfl (j := (24 * i + h)) (ix24r i h) (by omega) (by decide) dX5_stands_81 ?_
                    refine lv_if_eq (tgt := 87) hx hb dX5_stands_82 (by decide) (fun c_23 => ?_) (fun c_23 => ?_)
                    · refine lv_iinc (v := nI (h + 1)) (lv' := [(3, .int (nI (h + 1))), (2, .int (nI i)), (0, .ref (a 0)), (1, .int set)]) hx hb dX5_stands_87 hl (k := 0) rfl (nI_add h 1) (by decide) rfl (fun ls hl => ?_)
                      refine lv_goto (tgt := 50) hx hb dX5_stands_90 (by decide) ?_
                      exact ih_h (h + 1) (by omega) ls (lv_sub hl [0, 1, 2, 3] rfl) (lt_s hv_h (by simp [c_23]))
                    · refine lv_iconst (v := 0) hx hb dX5_stands_85 (by decide) ?_
                      exact W.zret (v := 0) hx hb hr rfl (fun t ht hW => ⟨by rw [w_X5_stands, if_neg (by rw [al_not ht_i (okc_no3 (al_not ht_h (by simp [(mb1 set (by omega)).mp c_22, c_23])) ((mb1 set (by omega)).mp c_21))]; decide)], ht⟩) (fun q h => absurd h List.not_mem_nil) dX5_stands_86
            exact loop_h i 0 (by omega) ls (lv_sub hl [0, 1, 2, 3] rfl) (fun j h => absurd h (Nat.not_lt_zero j))
          · refine lv_iconst (v := 0) hx hb dX5_stands_46 (by decide) ?_
            exact W.zret (v := 0) hx hb hr rfl (fun t ht hW => ⟨by rw [w_X5_stands, if_neg (by rw [al_not ht_i (okc_no2 c_12 ((mb1 set (by omega)).mp c_18))]; decide)], ht⟩) (fun q h => absurd h List.not_mem_nil) dX5_stands_47
      · refine lv_iload_n hx hb dX5_stands_20 rfl (lv_at hl 2 rfl) ?_
        refine lv_iload_n hx hb dX5_stands_21 rfl (lv_at hl 0 rfl) ?_
        refine rcS (n := 2) (As := [.int set, .int (nI i)]) (rest := []) hF (c_X5_has l k  set (nI i) ) (hP.sub (ws' := []) [] rfl) hK uC_X5_has uN_X5 uM_X5_95 uS_X5_has (by decide +kernel) rfl ⟨Nat.le_of_ble_eq_true rfl, Nat.le_of_ble_eq_true rfl⟩ ⟨Nat.zero_le _, Nat.zero_le _⟩ hl.1 rfl (Nat.le_of_ble_eq_true rfl) dX5_stands_22 ?_
        refine lv_if_eq (tgt := 46) hx hb dX5_stands_25 (by decide) (fun c_24 => ?_) (fun c_24 => ?_)
        · refine lv_iconst (v := 0) hx hb dX5_stands_46 (by decide) ?_
          exact W.zret (v := 0) hx hb hr rfl (fun t ht hW => ⟨by rw [w_X5_stands, if_neg (by rw [al_not ht_i (okc_no1 c_11 ((mb0 set (by omega)).mp c_24))]; decide)], ht⟩) (fun q h => absurd h List.not_mem_nil) dX5_stands_47
        · refine lv_aload_n hx hb dX5_stands_28 rfl (lv_at hl 1 rfl) ?_
          refine va_get (D := k.1) (ci := 5) (v := .ref (a 2)) (C := RX5) (T := TX5) (N := 27) hx hb hU inlX5 hown hK.1 hP 0 rfl rfl 2 (by decide) (hU _ uF_X5_13) (fun _ h9 => h9) rfl dX5_stands_29 ?_
          refine lv_iload_n hx hb dX5_stands_32 rfl (lv_at hl 0 rfl) ?_
          refine xa_iald hx hb hK.1 hP 2 0 rfl rfl (j := i) rfl (by omega) (by decide) dX5_stands_33 ?_
          refine lv_iconst (v := 2) hx hb dX5_stands_34 (by decide) ?_
          refine lv_icmp_ne (tgt := 48) hx hb dX5_stands_35 (by decide) (fun c_25 => ?_) (fun c_25 => ?_)
          · refine lv_iconst (v := 0) hx hb dX5_stands_48 (by decide) ?_
            refine lv_istore_n (lv' := [(3, .int 0), (2, .int (nI i)), (0, .ref (a 0)), (1, .int set)]) hx hb dX5_stands_49 rfl hl (by decide) rfl (fun ls hl => ?_)
            have loop_h : ∀ (rh h : Nat), h + rh * 1 = i → ∀ (ls : Array Slot) , lv_has ls 4 [(3, .int (nI h)), (2, .int (nI i)), (0, .ref (a 0)), (1, .int set)] → (∀ d, d < h → (!(bt set d && decide (¬ M_apart M (24 * i + d) = 0))) = true) → WR p l e s m below meth c yX5_stands cX5_stands 4 (some .boolean) (rz 3 68) [.ref (a 0), .int set] (.int (w_X5_stands M set n)) (F0 m 50 ls []) := by
              intro rh
              induction rh with
              | zero =>
                intro h hi_h ls hl hv_h
                have he_h : i = h := by omega
                subst he_h
                refine lv_iload_n hx hb dX5_stands_50 rfl (lv_at hl 0 rfl) ?_
                refine lv_iload_n hx hb dX5_stands_51 rfl (lv_at hl 1 rfl) ?_
                refine xb_ge (tgt := 93) hx hb dX5_stands_52 (by decide) (fun c_26 => ?_) (fun c9 => absurd c9 (nI_nlt (a := i) (b := i) (Nat.le_refl _) (by omega)))
                refine lv_iinc (v := nI (i + 1)) (lv' := [(2, .int (nI (i + 1))), (3, .int (nI i)), (0, .ref (a 0)), (1, .int set)]) hx hb dX5_stands_93 hl (k := 1) rfl (nI_add i 1) (by decide) rfl (fun ls hl => ?_)
                refine lv_goto (tgt := 2) hx hb dX5_stands_96 (by decide) ?_
                have hok : okc M set i = true := okc_ok (fun h => absurd h.2 (by rw [(mb1 set (by omega)).mp c_24]; decide)) (fun h => c_25 h.1) (fun _ => al_iff.mpr hv_h)
                exact ih_i (i + 1) (by omega) ls (lv_sub hl [0, 2, 3] rfl) (lt_s hv_i hok)
              | succ rh ih_h =>
                intro h hi_h ls hl hv_h
                have ht_h : h < i := by omega
                refine lv_iload_n hx hb dX5_stands_50 rfl (lv_at hl 0 rfl) ?_
                refine lv_iload_n hx hb dX5_stands_51 rfl (lv_at hl 1 rfl) ?_
                refine xb_ge (tgt := 93) hx hb dX5_stands_52 (by decide) (fun c9 => absurd (nI_lt (a := h) (b := i) (by omega) (by omega)) c9) (fun c_27 => ?_)
                refine lv_iload_n hx hb dX5_stands_55 rfl (lv_at hl 3 rfl) ?_
                refine lv_iload_n hx hb dX5_stands_56 rfl (lv_at hl 1 rfl) ?_
                refine rcS (n := 2) (As := [.int set, .int (nI i)]) (rest := []) hF (c_X5_has l k  set (nI i) ) (hP.sub (ws' := []) [] rfl) hK uC_X5_has uN_X5 uM_X5_95 uS_X5_has (by decide +kernel) rfl ⟨Nat.le_of_ble_eq_true rfl, Nat.le_of_ble_eq_true rfl⟩ ⟨Nat.zero_le _, Nat.zero_le _⟩ hl.1 rfl (Nat.le_of_ble_eq_true rfl) dX5_stands_57 ?_
                refine lv_if_eq (tgt := 93) hx hb dX5_stands_60 (by decide) (fun c_28 => ?_) (fun c_28 => ?_)
                · refine lv_iinc (v := nI (i + 1)) (lv' := [(2, .int (nI (i + 1))), (3, .int (nI h)), (0, .ref (a 0)), (1, .int set)]) hx hb dX5_stands_93 hl (k := 1) rfl (nI_add i 1) (by decide) rfl (fun ls hl => ?_)
                  refine lv_goto (tgt := 2) hx hb dX5_stands_96 (by decide) ?_
                  have hok : okc M set i = true := okc_ok (fun h => absurd h.2 (by rw [(mb1 set (by omega)).mp c_24]; decide)) (fun h => c_25 h.1) (fun h => absurd h (by rw [(mb0 set (by omega)).mp c_28]; decide))
                  exact ih_i (i + 1) (by omega) ls (lv_sub hl [0, 2, 3] rfl) (lt_s hv_i hok)
                · refine lv_iload_n hx hb dX5_stands_63 rfl (lv_at hl 3 rfl) ?_
                  refine lv_iload_n hx hb dX5_stands_64 rfl (lv_at hl 0 rfl) ?_
                  refine rcS (n := 2) (As := [.int set, .int (nI h)]) (rest := []) hF (c_X5_has l k  set (nI h) ) (hP.sub (ws' := []) [] rfl) hK uC_X5_has uN_X5 uM_X5_95 uS_X5_has (by decide +kernel) rfl ⟨Nat.le_of_ble_eq_true rfl, Nat.le_of_ble_eq_true rfl⟩ ⟨Nat.zero_le _, Nat.zero_le _⟩ hl.1 rfl (Nat.le_of_ble_eq_true rfl) dX5_stands_65 ?_
                  refine lv_if_eq (tgt := 87) hx hb dX5_stands_68 (by decide) (fun c_29 => ?_) (fun c_29 => ?_)
                  · refine lv_iinc (v := nI (h + 1)) (lv' := [(3, .int (nI (h + 1))), (2, .int (nI i)), (0, .ref (a 0)), (1, .int set)]) hx hb dX5_stands_87 hl (k := 0) rfl (nI_add h 1) (by decide) rfl (fun ls hl => ?_)
                    refine lv_goto (tgt := 50) hx hb dX5_stands_90 (by decide) ?_
                    exact ih_h (h + 1) (by omega) ls (lv_sub hl [0, 1, 2, 3] rfl) (lt_s hv_h (by simp [(mb0 set (by omega)).mp c_29]))
                  · refine lv_aload_n hx hb dX5_stands_71 rfl (lv_at hl 2 rfl) ?_
                    refine va_get (D := k.1) (ci := 5) (v := .ref (a 6)) (C := RX5) (T := TX5) (N := 27) hx hb hU inlX5 hown hK.1 hP 0 rfl rfl 6 (by decide) (hU _ uF_X5_26) (fun _ h9 => h9) rfl dX5_stands_72 ?_
                    refine lv_bipush (v := 24) hx hb dX5_stands_75 (by decide) ?_
                    refine lv_iload_n hx hb dX5_stands_77 rfl (lv_at hl 1 rfl) ?_
                    refine lv_imul hx hb dX5_stands_78 ?_
                    refine lv_iload_n hx hb dX5_stands_79 rfl (lv_at hl 0 rfl) ?_
                    refine lv_iadd hx hb dX5_stands_80 ?_
                    refine xa_zald hx hb hK.1 hP 6 2 rfl rfl (j := (24 * i + h)) (ix24r i h) (by omega) (by decide) dX5_stands_81 ?_
                    refine lv_if_eq (tgt := 87) hx hb dX5_stands_82 (by decide) (fun c_30 => ?_) (fun c_30 => ?_)
                    · refine lv_iinc (v := nI (h + 1)) (lv' := [(3, .int (nI (h + 1))), (2, .int (nI i)), (0, .ref (a 0)), (1, .int set)]) hx hb dX5_stands_87 hl (k := 0) rfl (nI_add h 1) (by decide) rfl (fun ls hl => ?_)
                      refine lv_goto (tgt := 50) hx hb dX5_stands_90 (by decide) ?_
                      exact ih_h (h + 1) (by omega) ls (lv_sub hl [0, 1, 2, 3] rfl) (lt_s hv_h (by simp [c_30]))
                    · refine lv_iconst (v := 0) hx hb dX5_stands_85 (by decide) ?_
                      exact W.zret (v := 0) hx hb hr rfl (fun t ht hW => ⟨by rw [w_X5_stands, if_neg (by rw [al_not ht_i (okc_no3 (al_not ht_h (by simp [(mb1 set (by omega)).mp c_29, c_30])) ((mb1 set (by omega)).mp c_28))]; decide)], ht⟩) (fun q h => absurd h List.not_mem_nil) dX5_stands_86
            exact loop_h i 0 (by omega) ls (lv_sub hl [0, 1, 2, 3] rfl) (fun j h => absurd h (Nat.not_lt_zero j))
          · refine lv_iload_n hx hb dX5_stands_38 rfl (lv_at hl 2 rfl) ?_
            refine lv_iload_n hx hb dX5_stands_39 rfl (lv_at hl 0 rfl) ?_
            refine rcS (n := 2) (As := [.int set, .int (nI i)]) (rest := []) hF (c_X5_has l k  set (nI i) ) (hP.sub (ws' := []) [] rfl) hK uC_X5_has uN_X5 uM_X5_95 uS_X5_has (by decide +kernel) rfl ⟨Nat.le_of_ble_eq_true rfl, Nat.le_of_ble_eq_true rfl⟩ ⟨Nat.zero_le _, Nat.zero_le _⟩ hl.1 rfl (Nat.le_of_ble_eq_true rfl) dX5_stands_40 ?_
            refine lv_if_eq (tgt := 48) hx hb dX5_stands_43 (by decide) (fun c_31 => ?_) (fun c_31 => ?_)
            · refine lv_iconst (v := 0) hx hb dX5_stands_48 (by decide) ?_
              refine lv_istore_n (lv' := [(3, .int 0), (2, .int (nI i)), (0, .ref (a 0)), (1, .int set)]) hx hb dX5_stands_49 rfl hl (by decide) rfl (fun ls hl => ?_)
              have loop_h : ∀ (rh h : Nat), h + rh * 1 = i → ∀ (ls : Array Slot) , lv_has ls 4 [(3, .int (nI h)), (2, .int (nI i)), (0, .ref (a 0)), (1, .int set)] → (∀ d, d < h → (!(bt set d && decide (¬ M_apart M (24 * i + d) = 0))) = true) → WR p l e s m below meth c yX5_stands cX5_stands 4 (some .boolean) (rz 3 68) [.ref (a 0), .int set] (.int (w_X5_stands M set n)) (F0 m 50 ls []) := by
                intro rh
                induction rh with
                | zero =>
                  intro h hi_h ls hl hv_h
                  have he_h : i = h := by omega
                  subst he_h
                  refine lv_iload_n hx hb dX5_stands_50 rfl (lv_at hl 0 rfl) ?_
                  refine lv_iload_n hx hb dX5_stands_51 rfl (lv_at hl 1 rfl) ?_
                  refine xb_ge (tgt := 93) hx hb dX5_stands_52 (by decide) (fun c_32 => ?_) (fun c9 => absurd c9 (nI_nlt (a := i) (b := i) (Nat.le_refl _) (by omega)))
                  refine lv_iinc (v := nI (i + 1)) (lv' := [(2, .int (nI (i + 1))), (3, .int (nI i)), (0, .ref (a 0)), (1, .int set)]) hx hb dX5_stands_93 hl (k := 1) rfl (nI_add i 1) (by decide) rfl (fun ls hl => ?_)
                  refine lv_goto (tgt := 2) hx hb dX5_stands_96 (by decide) ?_
                  have hok : okc M set i = true := okc_ok (fun h => absurd h.2 (by rw [(mb1 set (by omega)).mp c_24]; decide)) (fun h => absurd h.2 (by rw [(mb0 set (by omega)).mp c_31]; decide)) (fun _ => al_iff.mpr hv_h)
                  exact ih_i (i + 1) (by omega) ls (lv_sub hl [0, 2, 3] rfl) (lt_s hv_i hok)
                | succ rh ih_h =>
                  intro h hi_h ls hl hv_h
                  have ht_h : h < i := by omega
                  refine lv_iload_n hx hb dX5_stands_50 rfl (lv_at hl 0 rfl) ?_
                  refine lv_iload_n hx hb dX5_stands_51 rfl (lv_at hl 1 rfl) ?_
                  refine xb_ge (tgt := 93) hx hb dX5_stands_52 (by decide) (fun c9 => absurd (nI_lt (a := h) (b := i) (by omega) (by omega)) c9) (fun c_33 => ?_)
                  refine lv_iload_n hx hb dX5_stands_55 rfl (lv_at hl 3 rfl) ?_
                  refine lv_iload_n hx hb dX5_stands_56 rfl (lv_at hl 1 rfl) ?_
                  refine rcS (n := 2) (As := [.int set, .int (nI i)]) (rest := []) hF (c_X5_has l k  set (nI i) ) (hP.sub (ws' := []) [] rfl) hK uC_X5_has uN_X5 uM_X5_95 uS_X5_has (by decide +kernel) rfl ⟨Nat.le_of_ble_eq_true rfl, Nat.le_of_ble_eq_true rfl⟩ ⟨Nat.zero_le _, Nat.zero_le _⟩ hl.1 rfl (Nat.le_of_ble_eq_true rfl) dX5_stands_57 ?_
                  refine lv_if_eq (tgt := 93) hx hb dX5_stands_60 (by decide) (fun c_34 => ?_) (fun c_34 => ?_)
                  · refine lv_iinc (v := nI (i + 1)) (lv' := [(2, .int (nI (i + 1))), (3, .int (nI h)), (0, .ref (a 0)), (1, .int set)]) hx hb dX5_stands_93 hl (k := 1) rfl (nI_add i 1) (by decide) rfl (fun ls hl => ?_)
                    refine lv_goto (tgt := 2) hx hb dX5_stands_96 (by decide) ?_
                    have hok : okc M set i = true := okc_ok (fun h => absurd h.2 (by rw [(mb1 set (by omega)).mp c_24]; decide)) (fun h => absurd h.2 (by rw [(mb0 set (by omega)).mp c_31]; decide)) (fun h => absurd h (by rw [(mb0 set (by omega)).mp c_34]; decide))
                    exact ih_i (i + 1) (by omega) ls (lv_sub hl [0, 2, 3] rfl) (lt_s hv_i hok)
                  · refine lv_iload_n hx hb dX5_stands_63 rfl (lv_at hl 3 rfl) ?_
                    refine lv_iload_n hx hb dX5_stands_64 rfl (lv_at hl 0 rfl) ?_
                    refine rcS (n := 2) (As := [.int set, .int (nI h)]) (rest := []) hF (c_X5_has l k  set (nI h) ) (hP.sub (ws' := []) [] rfl) hK uC_X5_has uN_X5 uM_X5_95 uS_X5_has (by decide +kernel) rfl ⟨Nat.le_of_ble_eq_true rfl, Nat.le_of_ble_eq_true rfl⟩ ⟨Nat.zero_le _, Nat.zero_le _⟩ hl.1 rfl (Nat.le_of_ble_eq_true rfl) dX5_stands_65 ?_
                    refine lv_if_eq (tgt := 87) hx hb dX5_stands_68 (by decide) (fun c_35 => ?_) (fun c_35 => ?_)
                    · refine lv_iinc (v := nI (h + 1)) (lv' := [(3, .int (nI (h + 1))), (2, .int (nI i)), (0, .ref (a 0)), (1, .int set)]) hx hb dX5_stands_87 hl (k := 0) rfl (nI_add h 1) (by decide) rfl (fun ls hl => ?_)
                      refine lv_goto (tgt := 50) hx hb dX5_stands_90 (by decide) ?_
                      exact ih_h (h + 1) (by omega) ls (lv_sub hl [0, 1, 2, 3] rfl) (lt_s hv_h (by simp [(mb0 set (by omega)).mp c_35]))
                    · refine lv_aload_n hx hb dX5_stands_71 rfl (lv_at hl 2 rfl) ?_
                      refine va_get (D := k.1) (ci := 5) (v := .ref (a 6)) (C := RX5) (T := TX5) (N := 27) hx hb hU inlX5 hown hK.1 hP 0 rfl rfl 6 (by decide) (hU _ uF_X5_26) (fun _ h9 => h9) rfl dX5_stands_72 ?_
                      refine lv_bipush (v := 24) hx hb dX5_stands_75 (by decide) ?_
                      refine lv_iload_n hx hb dX5_stands_77 rfl (lv_at hl 1 rfl) ?_
                      refine lv_imul hx hb dX5_stands_78 ?_
                      refine lv_iload_n hx hb dX5_stands_79 rfl (lv_at hl 0 rfl) ?_
                      refine lv_iadd hx hb dX5_stands_80 ?_
                      refine xa_zald hx hb hK.1 hP 6 2 rfl rfl (j := (24 * i + h)) (ix24r i h) (by omega) (by decide) dX5_stands_81 ?_
                      refine lv_if_eq (tgt := 87) hx hb dX5_stands_82 (by decide) (fun c_36 => ?_) (fun c_36 => ?_)
                      · refine lv_iinc (v := nI (h + 1)) (lv' := [(3, .int (nI (h + 1))), (2, .int (nI i)), (0, .ref (a 0)), (1, .int set)]) hx hb dX5_stands_87 hl (k := 0) rfl (nI_add h 1) (by decide) rfl (fun ls hl => ?_)
                        refine lv_goto (tgt := 50) hx hb dX5_stands_90 (by decide) ?_
                        exact ih_h (h + 1) (by omega) ls (lv_sub hl [0, 1, 2, 3] rfl) (lt_s hv_h (by simp [c_36]))
                      · refine lv_iconst (v := 0) hx hb dX5_stands_85 (by decide) ?_
                        exact W.zret (v := 0) hx hb hr rfl (fun t ht hW => ⟨by rw [w_X5_stands, if_neg (by rw [al_not ht_i (okc_no3 (al_not ht_h (by simp [(mb1 set (by omega)).mp c_35, c_36])) ((mb1 set (by omega)).mp c_34))]; decide)], ht⟩) (fun q h => absurd h List.not_mem_nil) dX5_stands_86
              exact loop_h i 0 (by omega) ls (lv_sub hl [0, 1, 2, 3] rfl) (fun j h => absurd h (Nat.not_lt_zero j))
            · refine lv_iconst (v := 0) hx hb dX5_stands_46 (by decide) ?_
              exact W.zret (v := 0) hx hb hr rfl (fun t ht hW => ⟨by rw [w_X5_stands, if_neg (by rw [al_not ht_i (okc_no2 c_25 ((mb1 set (by omega)).mp c_31))]; decide)], ht⟩) (fun q h => absurd h List.not_mem_nil) dX5_stands_47
  exact loop_i n 0 (by omega) ls (lv_sub hl [0, 1, 2] rfl) (fun j h => absurd h (Nat.not_lt_zero j))
