def w_X0_clear_C (C : ChoT) : ChoT := (sC_price (sC_cells (sC_there C 0) 0) (-1))
set_option maxHeartbeats 4000000 in
set_option maxRecDepth 100000 in
theorem c_X0_clear (l : Launch) (k : KT) (a : Nat → Nat) (S : SeaT) (T : TalT) (dr : Int64) (tr : Int64) (C : ChoT) (F : (Nat → Int32)) (G : GoT)   : MW l yX0_clear cX0_clear 1 none (rz 0 0) k [.ref (a 16)] (xW k a S T dr tr C F G) none (xW k a S T dr tr (w_X0_clear_C C) F G) := by
  intro sz
  refine Met.ofW (cc := cX0_clear) (maxL := 1) (ret := none) (by decide) rfl ?_
  intro p e s m args below meth c s₁ B hml hv
  obtain ⟨rfl, hsz, hP, hK, hD0⟩ := hv
  have hx := B.exec
  have hb := B.bytes
  have hr := B.returns
  have hU : ∀ w ∈ wsL_law, w.before [.ref (a 16)].toArray s = true := fun w h => atoms_spec (ws := Cond.code yX0_clear cX0_clear 1 none :: wsL_law) B.pre w (List.mem_cons_of_mem _ h)
  have hown : s.vm.findClass RX0 = some m.cls := findClass_of_methodNamed B.named
  have hlocks := B.notSynchronized
  have hF : CF p m c cX0_clear 1 s [.ref (a 16)].toArray RX0 := ⟨hx, hb, hml, hown, hU⟩
  subst hsz
  have hD := hD0.self (sz := s.heap.size)
  generalize hAe : va_A (xW k a S T dr tr C F G) s.heap.size = A at hD ⊢
  have hA : ∀ q : Nat, s.heap.size ≤ q → A q := fun q h => by rw [← hAe]; exact Or.inr h
  have hS : va_S A s.heap s.heap [] := va_S.rf
  have hl := lv_entry ([.ref (a 16)] : List Value) (n := 1) (Nat.le_of_ble_eq_true rfl)
  rw [lg_entry_eq]
  generalize (lg_sl ([.ref (a 16)] : List Value) ++ List.replicate (1 - (lg_sl ([.ref (a 16)] : List Value)).length) Slot.unset).toArray = ls at hl ⊢
  have hl : lv_has ls 1 [(0, .ref (a 16))] := hl
  refine lv_aload_n hx hb dX0_clear_0 rfl (lv_at hl 0 rfl) ?_
  refine lv_iconst (v := 0) hx hb dX0_clear_1 (by decide) ?_
  refine va_put (D := k.1) (ci := 0) (v := .int 0) (ty := .boolean) (C := RX0) (T := TX0) (N := 3) hx hb hU inlX0 tyX0 tyX0_ok nmX0 hown hK.1 hP hD hS 16 rfl rfl 0 (by decide) (hU _ uF_X0_17) (fun _ h9 => h9) rfl (by decide +kernel) rfl rfl (Nat.le_of_ble_eq_true rfl) dX0_clear_2 (fun H locs hP hD hS => ?_)
  have hP := pz_x_16_0 k a S T dr tr C F G 0 hP
  have hD := dz_x_16_0 k a S T dr tr C F G 0 hD
  refine lv_aload_n hx hb dX0_clear_5 rfl (lv_at hl 0 rfl) ?_
  refine lv_iconst (v := 0) hx hb dX0_clear_6 (by decide) ?_
  refine va_put (D := k.1) (ci := 0) (v := .int 0) (ty := .int) (C := RX0) (T := TX0) (N := 3) hx hb hU inlX0 tyX0 tyX0_ok nmX0 hown hK.1 hP hD hS 16 rfl rfl 1 (by decide) (hU _ uF_X0_21) (fun _ h9 => h9) rfl (by decide +kernel) rfl rfl (Nat.le_of_ble_eq_true rfl) dX0_clear_7 (fun H locs hP hD hS => ?_)
  have hP := pz_x_16_1 k a S T dr tr (sC_there C 0) F G 0 hP
  have hD := dz_x_16_1 k a S T dr tr (sC_there C 0) F G 0 hD
  refine lv_aload_n hx hb dX0_clear_10 rfl (lv_at hl 0 rfl) ?_
  refine lv_ldc2 hx hb hown (hU _ uK_X0_9) dX0_clear_11 ?_
  refine va_put (D := k.1) (ci := 0) (v := .long (-1)) (ty := .long) (C := RX0) (T := TX0) (N := 3) hx hb hU inlX0 tyX0 tyX0_ok nmX0 hown hK.1 hP hD hS 16 rfl rfl 2 (by decide) (hU _ uF_X0_11) (fun _ h9 => h9) rfl (by decide +kernel) rfl rfl (Nat.le_of_ble_eq_true rfl) dX0_clear_14 (fun H locs hP hD hS => ?_)
  have hP := pz_x_16_2 k a S T dr tr (sC_cells (sC_there C 0) 0) F G (-1) hP
  have hD := dz_x_16_2 k a S T dr tr (sC_cells (sC_there C 0) 0) F G (-1) hD
  have hP9 : va_P k.1 vwCl (xW k a S T dr tr (w_X0_clear_C C) F G) H := by rw [w_X0_clear_C]; exact hP
  have hD9 : va_D A (xW k a S T dr tr (w_X0_clear_C C) F G) := by rw [w_X0_clear_C]; exact hD
  exact W.vret hx hb hr (fun t ht hW => ⟨⟨rfl, by rw [ht]; exact hP9, hD9⟩, hS.F ht⟩) hS.2.2 dX0_clear_17

def w_X0_take_C (C : ChoT) (set : Int32) (cost : Int64) : ChoT := (sC_price (sC_cells (sC_there C 1) set) cost)
set_option maxHeartbeats 4000000 in
set_option maxRecDepth 100000 in
theorem c_X0_take (l : Launch) (k : KT) (a : Nat → Nat) (S : SeaT) (T : TalT) (dr : Int64) (tr : Int64) (C : ChoT) (F : (Nat → Int32)) (G : GoT) (set : Int32) (cost : Int64)  : MW l yX0_take cX0_take 4 none (rz 0 0) k [.ref (a 16), .int set, .long cost] (xW k a S T dr tr C F G) none (xW k a S T dr tr (w_X0_take_C C set cost) F G) := by
  intro sz
  refine Met.ofW (cc := cX0_take) (maxL := 4) (ret := none) (by decide) rfl ?_
  intro p e s m args below meth c s₁ B hml hv
  obtain ⟨rfl, hsz, hP, hK, hD0⟩ := hv
  have hx := B.exec
  have hb := B.bytes
  have hr := B.returns
  have hU : ∀ w ∈ wsL_law, w.before [.ref (a 16), .int set, .long cost].toArray s = true := fun w h => atoms_spec (ws := Cond.code yX0_take cX0_take 4 none :: wsL_law) B.pre w (List.mem_cons_of_mem _ h)
  have hown : s.vm.findClass RX0 = some m.cls := findClass_of_methodNamed B.named
  have hlocks := B.notSynchronized
  have hF : CF p m c cX0_take 4 s [.ref (a 16), .int set, .long cost].toArray RX0 := ⟨hx, hb, hml, hown, hU⟩
  subst hsz
  have hD := hD0.self (sz := s.heap.size)
  generalize hAe : va_A (xW k a S T dr tr C F G) s.heap.size = A at hD ⊢
  have hA : ∀ q : Nat, s.heap.size ≤ q → A q := fun q h => by rw [← hAe]; exact Or.inr h
  have hS : va_S A s.heap s.heap [] := va_S.rf
  have hl := lv_entry ([.ref (a 16), .int set, .long cost] : List Value) (n := 4) (Nat.le_of_ble_eq_true rfl)
  rw [lg_entry_eq]
  generalize (lg_sl ([.ref (a 16), .int set, .long cost] : List Value) ++ List.replicate (4 - (lg_sl ([.ref (a 16), .int set, .long cost] : List Value)).length) Slot.unset).toArray = ls at hl ⊢
  have hl : lv_has ls 4 [(0, .ref (a 16)), (1, .int set), (2, .long cost)] := hl
  refine lv_aload_n hx hb dX0_take_0 rfl (lv_at hl 0 rfl) ?_
  refine lv_iconst (v := 1) hx hb dX0_take_1 (by decide) ?_
  refine va_put (D := k.1) (ci := 0) (v := .int 1) (ty := .boolean) (C := RX0) (T := TX0) (N := 3) hx hb hU inlX0 tyX0 tyX0_ok nmX0 hown hK.1 hP hD hS 16 rfl rfl 0 (by decide) (hU _ uF_X0_17) (fun _ h9 => h9) rfl (by decide +kernel) rfl rfl (Nat.le_of_ble_eq_true rfl) dX0_take_2 (fun H locs hP hD hS => ?_)
  have hP := pz_x_16_0 k a S T dr tr C F G 1 hP
  have hD := dz_x_16_0 k a S T dr tr C F G 1 hD
  refine lv_aload_n hx hb dX0_take_5 rfl (lv_at hl 0 rfl) ?_
  refine lv_iload_n hx hb dX0_take_6 rfl (lv_at hl 1 rfl) ?_
  refine va_put (D := k.1) (ci := 0) (v := .int set) (ty := .int) (C := RX0) (T := TX0) (N := 3) hx hb hU inlX0 tyX0 tyX0_ok nmX0 hown hK.1 hP hD hS 16 rfl rfl 1 (by decide) (hU _ uF_X0_21) (fun _ h9 => h9) rfl (by decide +kernel) rfl rfl (Nat.le_of_ble_eq_true rfl) dX0_take_7 (fun H locs hP hD hS => ?_)
  have hP := pz_x_16_1 k a S T dr tr (sC_there C 1) F G set hP
  have hD := dz_x_16_1 k a S T dr tr (sC_there C 1) F G set hD
  refine lv_aload_n hx hb dX0_take_10 rfl (lv_at hl 0 rfl) ?_
  refine lv_lload_n hx hb dX0_take_11 rfl (lv_at hl 2 rfl) ?_
  refine va_put (D := k.1) (ci := 0) (v := .long cost) (ty := .long) (C := RX0) (T := TX0) (N := 3) hx hb hU inlX0 tyX0 tyX0_ok nmX0 hown hK.1 hP hD hS 16 rfl rfl 2 (by decide) (hU _ uF_X0_11) (fun _ h9 => h9) rfl (by decide +kernel) rfl rfl (Nat.le_of_ble_eq_true rfl) dX0_take_12 (fun H locs hP hD hS => ?_)
  have hP := pz_x_16_2 k a S T dr tr (sC_cells (sC_there C 1) set) F G cost hP
  have hD := dz_x_16_2 k a S T dr tr (sC_cells (sC_there C 1) set) F G cost hD
  have hP9 : va_P k.1 vwCl (xW k a S T dr tr (w_X0_take_C C set cost) F G) H := by rw [w_X0_take_C]; exact hP
  have hD9 : va_D A (xW k a S T dr tr (w_X0_take_C C set cost) F G) := by rw [w_X0_take_C]; exact hD
  exact W.vret hx hb hr (fun t ht hW => ⟨⟨rfl, by rw [ht]; exact hP9, hD9⟩, hS.F ht⟩) hS.2.2 dX0_take_15

def w_X0_isBeatenBy (C : ChoT) (set : Int32) (cost : Int64) : Int32 := if (C_there C) = 0 then 1 else if cost = (C_price C) then if ((w_bitCount set) - (w_bitCount (C_cells C))) = 0 then if (((set ^^^ (C_cells C)) &&& (-(set ^^^ (C_cells C)))) &&& set) = 0 then 0 else 1 else if ((w_bitCount set) - (w_bitCount (C_cells C))) < 0 then 1 else 0 else if cost < (C_price C) then 1 else 0
set_option maxHeartbeats 4000000 in
set_option maxRecDepth 100000 in
theorem c_X0_isBeatenBy (l : Launch) (k : KT) (a : Nat → Nat) (S : SeaT) (T : TalT) (dr : Int64) (tr : Int64) (C : ChoT) (F : (Nat → Int32)) (G : GoT) (set : Int32) (cost : Int64)  : MR l yX0_isBeatenBy cX0_isBeatenBy 6 (some .boolean) (rz 1 20) k [.ref (a 16), .int set, .long cost] (xW k a S T dr tr C F G) (.int (w_X0_isBeatenBy C set cost)) := by
  refine Met.ofW (cc := cX0_isBeatenBy) (maxL := 6) (ret := (some .boolean)) (by decide) rfl ?_
  intro p e s m args below meth c s₁ B hml hv
  obtain ⟨rfl, hP, hK⟩ := hv
  have hx := B.exec
  have hb := B.bytes
  have hr := B.returns
  have hU : ∀ w ∈ wsL_law, w.before [.ref (a 16), .int set, .long cost].toArray s = true := fun w h => atoms_spec (ws := Cond.code yX0_isBeatenBy cX0_isBeatenBy 6 (some .boolean) :: wsL_law) B.pre w (List.mem_cons_of_mem _ h)
  have hown : s.vm.findClass RX0 = some m.cls := findClass_of_methodNamed B.named
  have hlocks := B.notSynchronized
  have hF : CF p m c cX0_isBeatenBy 6 s [.ref (a 16), .int set, .long cost].toArray RX0 := ⟨hx, hb, hml, hown, hU⟩
  have hl := lv_entry ([.ref (a 16), .int set, .long cost] : List Value) (n := 6) (Nat.le_of_ble_eq_true rfl)
  rw [lg_entry_eq]
  generalize (lg_sl ([.ref (a 16), .int set, .long cost] : List Value) ++ List.replicate (6 - (lg_sl ([.ref (a 16), .int set, .long cost] : List Value)).length) Slot.unset).toArray = ls at hl ⊢
  have hl : lv_has ls 6 [(0, .ref (a 16)), (1, .int set), (2, .long cost)] := hl
  refine lv_aload_n hx hb dX0_isBeatenBy_0 rfl (lv_at hl 0 rfl) ?_
  refine va_get (D := k.1) (ci := 0) (v := .int (C_there C)) (C := RX0) (T := TX0) (N := 3) hx hb hU inlX0 hown hK.1 hP 16 rfl rfl 0 (by decide) (hU _ uF_X0_17) (fun _ h9 => h9) rfl dX0_isBeatenBy_1 ?_
  refine lv_if_ne (tgt := 9) hx hb dX0_isBeatenBy_4 (by decide) (fun c_1 => ?_) (fun c_1 => ?_)
  · refine lv_lload_n hx hb dX0_isBeatenBy_9 rfl (lv_at hl 2 rfl) ?_
    refine lv_aload_n hx hb dX0_isBeatenBy_10 rfl (lv_at hl 0 rfl) ?_
    refine va_get (D := k.1) (ci := 0) (v := .long (C_price C)) (C := RX0) (T := TX0) (N := 3) hx hb hU inlX0 hown hK.1 hP 16 rfl rfl 2 (by decide) (hU _ uF_X0_11) (fun _ h9 => h9) rfl dX0_isBeatenBy_11 ?_
    refine xl_eq (tgt := 33) hx hb dX0_isBeatenBy_14 dX0_isBeatenBy_15 (by decide) (fun c_2 => ?_) (fun c_2 => ?_)
    · refine lv_iload_n hx hb dX0_isBeatenBy_33 rfl (lv_at hl 1 rfl) ?_
      refine rcS (n := 1) (As := [.int set]) (rest := []) hF (c_J6_bitCount_0f7a4 l k set) (hP.sub (ws' := []) [] rfl) hK uC_J6_bitCount_0f7a4 uN_J6 uM_X0_25 uS_J6_bitCount_0f7a4 (by decide +kernel) rfl ⟨Nat.le_of_ble_eq_true rfl, Nat.le_of_ble_eq_true rfl⟩ ⟨Nat.zero_le _, Nat.zero_le _⟩ hl.1 rfl (Nat.le_of_ble_eq_true rfl) dX0_isBeatenBy_34 ?_
      refine lv_aload_n hx hb dX0_isBeatenBy_37 rfl (lv_at hl 0 rfl) ?_
      refine va_get (D := k.1) (ci := 0) (v := .int (C_cells C)) (C := RX0) (T := TX0) (N := 3) hx hb hU inlX0 hown hK.1 hP 16 rfl rfl 1 (by decide) (hU _ uF_X0_21) (fun _ h9 => h9) rfl dX0_isBeatenBy_38 ?_
      refine rcS (n := 1) (As := [.int (C_cells C)]) (rest := [.int (w_bitCount set)]) hF (c_J6_bitCount_0f7a4 l k (C_cells C)) (hP.sub (ws' := []) [] rfl) hK uC_J6_bitCount_0f7a4 uN_J6 uM_X0_25 uS_J6_bitCount_0f7a4 (by decide +kernel) rfl ⟨Nat.le_of_ble_eq_true rfl, Nat.le_of_ble_eq_true rfl⟩ ⟨Nat.zero_le _, Nat.zero_le _⟩ hl.1 rfl (Nat.le_of_ble_eq_true rfl) dX0_isBeatenBy_41 ?_
      refine lv_isub hx hb dX0_isBeatenBy_44 ?_
      refine lv_istore (lv' := [(4, .int ((w_bitCount set) - (w_bitCount (C_cells C)))), (0, .ref (a 16)), (1, .int set), (2, .long cost)]) hx hb dX0_isBeatenBy_45 hl (by decide) rfl (fun ls hl => ?_)
      refine lv_iload_n hx hb dX0_isBeatenBy_47 rfl (lv_at hl 2 rfl) ?_
      refine lv_aload_n hx hb dX0_isBeatenBy_48 rfl (lv_at hl 1 rfl) ?_
      refine va_get (D := k.1) (ci := 0) (v := .int (C_cells C)) (C := RX0) (T := TX0) (N := 3) hx hb hU inlX0 hown hK.1 hP 16 rfl rfl 1 (by decide) (hU _ uF_X0_21) (fun _ h9 => h9) rfl dX0_isBeatenBy_49 ?_
      refine lv_ixor hx hb dX0_isBeatenBy_52 ?_
      refine lv_istore (lv' := [(5, .int (set ^^^ (C_cells C))), (4, .int ((w_bitCount set) - (w_bitCount (C_cells C)))), (0, .ref (a 16)), (1, .int set), (2, .long cost)]) hx hb dX0_isBeatenBy_53 hl (by decide) rfl (fun ls hl => ?_)
      refine lv_iload hx hb dX0_isBeatenBy_55 (lv_at hl 1 rfl) ?_
      refine lv_if_eq (tgt := 73) hx hb dX0_isBeatenBy_57 (by decide) (fun c_3 => ?_) (fun c_3 => ?_)
      · refine lv_iload hx hb dX0_isBeatenBy_73 (lv_at hl 0 rfl) ?_
        refine lv_iload hx hb dX0_isBeatenBy_75 (lv_at hl 0 rfl) ?_
        refine lv_ineg hx hb dX0_isBeatenBy_77 ?_
        refine lv_iand hx hb dX0_isBeatenBy_78 ?_
        refine lv_iload_n hx hb dX0_isBeatenBy_79 rfl (lv_at hl 3 rfl) ?_
        refine lv_iand hx hb dX0_isBeatenBy_80 ?_
        refine lv_if_eq (tgt := 88) hx hb dX0_isBeatenBy_81 (by decide) (fun c_4 => ?_) (fun c_4 => ?_)
        · refine lv_iconst (v := 0) hx hb dX0_isBeatenBy_88 (by decide) ?_
          exact W.zret (v := 0) hx hb hr rfl (fun t ht hW => ⟨by rw [w_X0_isBeatenBy, if_neg c_1, if_pos c_2, if_pos c_3, if_pos c_4], ht⟩) (fun q h => absurd h List.not_mem_nil) dX0_isBeatenBy_89
        · refine lv_iconst (v := 1) hx hb dX0_isBeatenBy_84 (by decide) ?_
          refine lv_goto (tgt := 89) hx hb dX0_isBeatenBy_85 (by decide) ?_
          exact W.zret (v := 1) hx hb hr rfl (fun t ht hW => ⟨by rw [w_X0_isBeatenBy, if_neg c_1, if_pos c_2, if_pos c_3, if_neg c_4], ht⟩) (fun q h => absurd h List.not_mem_nil) dX0_isBeatenBy_89
      · refine lv_iload hx hb dX0_isBeatenBy_60 (lv_at hl 1 rfl) ?_
        refine xz_ge (tgt := 69) hx hb dX0_isBeatenBy_62 (by decide) (fun c_5 => ?_) (fun c_5 => ?_)
        · refine lv_iconst (v := 0) hx hb dX0_isBeatenBy_69 (by decide) ?_
          refine lv_goto (tgt := 89) hx hb dX0_isBeatenBy_70 (by decide) ?_
          exact W.zret (v := 0) hx hb hr rfl (fun t ht hW => ⟨by rw [w_X0_isBeatenBy, if_neg c_1, if_pos c_2, if_neg c_3, if_neg c_5], ht⟩) (fun q h => absurd h List.not_mem_nil) dX0_isBeatenBy_89
        · refine lv_iconst (v := 1) hx hb dX0_isBeatenBy_65 (by decide) ?_
          refine lv_goto (tgt := 89) hx hb dX0_isBeatenBy_66 (by decide) ?_
          exact W.zret (v := 1) hx hb hr rfl (fun t ht hW => ⟨by rw [w_X0_isBeatenBy, if_neg c_1, if_pos c_2, if_neg c_3, if_pos c_5], ht⟩) (fun q h => absurd h List.not_mem_nil) dX0_isBeatenBy_89
    · refine lv_lload_n hx hb dX0_isBeatenBy_18 rfl (lv_at hl 2 rfl) ?_
      refine lv_aload_n hx hb dX0_isBeatenBy_19 rfl (lv_at hl 0 rfl) ?_
      refine va_get (D := k.1) (ci := 0) (v := .long (C_price C)) (C := RX0) (T := TX0) (N := 3) hx hb hU inlX0 hown hK.1 hP 16 rfl rfl 2 (by decide) (hU _ uF_X0_11) (fun _ h9 => h9) rfl dX0_isBeatenBy_20 ?_
      refine xl_ge (tgt := 31) hx hb dX0_isBeatenBy_23 dX0_isBeatenBy_24 (by decide) (fun c_6 => ?_) (fun c_6 => ?_)
      · refine lv_iconst (v := 0) hx hb dX0_isBeatenBy_31 (by decide) ?_
        exact W.zret (v := 0) hx hb hr rfl (fun t ht hW => ⟨by rw [w_X0_isBeatenBy, if_neg c_1, if_neg c_2, if_neg c_6], ht⟩) (fun q h => absurd h List.not_mem_nil) dX0_isBeatenBy_32
      · refine lv_iconst (v := 1) hx hb dX0_isBeatenBy_27 (by decide) ?_
        refine lv_goto (tgt := 32) hx hb dX0_isBeatenBy_28 (by decide) ?_
        exact W.zret (v := 1) hx hb hr rfl (fun t ht hW => ⟨by rw [w_X0_isBeatenBy, if_neg c_1, if_neg c_2, if_pos c_6], ht⟩) (fun q h => absurd h List.not_mem_nil) dX0_isBeatenBy_32
  · refine lv_iconst (v := 1) hx hb dX0_isBeatenBy_7 (by decide) ?_
    exact W.zret (v := 1) hx hb hr rfl (fun t ht hW => ⟨by rw [w_X0_isBeatenBy, if_pos c_1], ht⟩) (fun q h => absurd h List.not_mem_nil) dX0_isBeatenBy_8

def w_X1_start_dr (seed : Int64) : Int64 := if seed = 0 then 88172645463325252 else seed
set_option maxHeartbeats 4000000 in
set_option maxRecDepth 100000 in
theorem c_X1_start (l : Launch) (k : KT) (a : Nat → Nat) (dr : Int64) (seed : Int64)  : MW l yX1_start cX1_start 3 none (rz 0 0) k [.ref (a 0), .long seed] (dW k a dr) none (dW k a (w_X1_start_dr seed)) := by
  intro sz
  refine Met.ofW (cc := cX1_start) (maxL := 3) (ret := none) (by decide) rfl ?_
  intro p e s m args below meth c s₁ B hml hv
  obtain ⟨rfl, hsz, hP, hK, hD0⟩ := hv
  have hx := B.exec
  have hb := B.bytes
  have hr := B.returns
  have hU : ∀ w ∈ wsL_law, w.before [.ref (a 0), .long seed].toArray s = true := fun w h => atoms_spec (ws := Cond.code yX1_start cX1_start 3 none :: wsL_law) B.pre w (List.mem_cons_of_mem _ h)
  have hown : s.vm.findClass RX1 = some m.cls := findClass_of_methodNamed B.named
  have hlocks := B.notSynchronized
  have hF : CF p m c cX1_start 3 s [.ref (a 0), .long seed].toArray RX1 := ⟨hx, hb, hml, hown, hU⟩
  subst hsz
  have hD := hD0.self (sz := s.heap.size)
  generalize hAe : va_A (dW k a dr) s.heap.size = A at hD ⊢
  have hA : ∀ q : Nat, s.heap.size ≤ q → A q := fun q h => by rw [← hAe]; exact Or.inr h
  have hS : va_S A s.heap s.heap [] := va_S.rf
  have hl := lv_entry ([.ref (a 0), .long seed] : List Value) (n := 3) (Nat.le_of_ble_eq_true rfl)
  rw [lg_entry_eq]
  generalize (lg_sl ([.ref (a 0), .long seed] : List Value) ++ List.replicate (3 - (lg_sl ([.ref (a 0), .long seed] : List Value)).length) Slot.unset).toArray = ls at hl ⊢
  have hl : lv_has ls 3 [(0, .ref (a 0)), (1, .long seed)] := hl
  refine lv_aload_n hx hb dX1_start_0 rfl (lv_at hl 0 rfl) ?_
  refine lv_lload_n hx hb dX1_start_1 rfl (lv_at hl 1 rfl) ?_
  refine lv_lconst (v := 0) hx hb dX1_start_2 (by decide) ?_
  refine xl_ne (tgt := 13) hx hb dX1_start_3 dX1_start_4 (by decide) (fun c_1 => ?_) (fun c_1 => ?_)
  · refine lv_lload_n hx hb dX1_start_13 rfl (lv_at hl 1 rfl) ?_
    refine va_put (D := k.1) (ci := 1) (v := .long seed) (ty := .long) (C := RX1) (T := TX1) (N := 1) hx hb hU inlX1 tyX1 tyX1_ok nmX1 hown hK.1 hP hD hS 0 rfl rfl 0 (by decide) (hU _ uF_X1_11) (fun _ h9 => h9) rfl (by decide +kernel) rfl rfl (Nat.le_of_ble_eq_true rfl) dX1_start_14 (fun H locs hP hD hS => ?_)
    have hP := pz_d_0_0 k a dr seed hP
    have hD := dz_d_0_0 k a dr seed hD
    have hP9 : va_P k.1 vwCl (dW k a (w_X1_start_dr seed)) H := by rw [w_X1_start_dr, if_neg c_1]; exact hP
    have hD9 : va_D A (dW k a (w_X1_start_dr seed)) := by rw [w_X1_start_dr, if_neg c_1]; exact hD
    exact W.vret hx hb hr (fun t ht hW => ⟨⟨rfl, by rw [ht]; exact hP9, hD9⟩, hS.F ht⟩) hS.2.2 dX1_start_17
  · refine lv_ldc2 hx hb hown (hU _ uK_X1_9) dX1_start_7 ?_
    refine lv_goto (tgt := 14) hx hb dX1_start_10 (by decide) ?_
    refine va_put (D := k.1) (ci := 1) (v := .long 88172645463325252) (ty := .long) (C := RX1) (T := TX1) (N := 1) hx hb hU inlX1 tyX1 tyX1_ok nmX1 hown hK.1 hP hD hS 0 rfl rfl 0 (by decide) (hU _ uF_X1_11) (fun _ h9 => h9) rfl (by decide +kernel) rfl rfl (Nat.le_of_ble_eq_true rfl) dX1_start_14 (fun H locs hP hD hS => ?_)
    have hP := pz_d_0_0 k a dr 88172645463325252 hP
    have hD := dz_d_0_0 k a dr 88172645463325252 hD
    have hP9 : va_P k.1 vwCl (dW k a (w_X1_start_dr seed)) H := by rw [w_X1_start_dr, if_pos c_1]; exact hP
    have hD9 : va_D A (dW k a (w_X1_start_dr seed)) := by rw [w_X1_start_dr, if_pos c_1]; exact hD
    exact W.vret hx hb hr (fun t ht hW => ⟨⟨rfl, by rw [ht]; exact hP9, hD9⟩, hS.F ht⟩) hS.2.2 dX1_start_17

def w_X1_next (dr : Int64) : Int64 := (lu (((dr ^^^ (lh dr 13)) ^^^ (lu (dr ^^^ (lh dr 13)) 7)) ^^^ (lh ((dr ^^^ (lh dr 13)) ^^^ (lu (dr ^^^ (lh dr 13)) 7)) 17)) 1)
def w_X1_next_dr (dr : Int64) : Int64 := (((dr ^^^ (lh dr 13)) ^^^ (lu (dr ^^^ (lh dr 13)) 7)) ^^^ (lh ((dr ^^^ (lh dr 13)) ^^^ (lu (dr ^^^ (lh dr 13)) 7)) 17))
set_option maxHeartbeats 4000000 in
set_option maxRecDepth 100000 in
theorem c_X1_next (l : Launch) (k : KT) (a : Nat → Nat) (dr : Int64)   : MW l yX1_next cX1_next 1 (some .long) (rz 0 0) k [.ref (a 0)] (dW k a dr) (some (.long (w_X1_next dr))) (dW k a (w_X1_next_dr dr)) := by
  intro sz
  refine Met.ofW (cc := cX1_next) (maxL := 1) (ret := (some .long)) (by decide) rfl ?_
  intro p e s m args below meth c s₁ B hml hv
  obtain ⟨rfl, hsz, hP, hK, hD0⟩ := hv
  have hx := B.exec
  have hb := B.bytes
  have hr := B.returns
  have hU : ∀ w ∈ wsL_law, w.before [.ref (a 0)].toArray s = true := fun w h => atoms_spec (ws := Cond.code yX1_next cX1_next 1 (some .long) :: wsL_law) B.pre w (List.mem_cons_of_mem _ h)
  have hown : s.vm.findClass RX1 = some m.cls := findClass_of_methodNamed B.named
  have hlocks := B.notSynchronized
  have hF : CF p m c cX1_next 1 s [.ref (a 0)].toArray RX1 := ⟨hx, hb, hml, hown, hU⟩
  subst hsz
  have hD := hD0.self (sz := s.heap.size)
  generalize hAe : va_A (dW k a dr) s.heap.size = A at hD ⊢
  have hA : ∀ q : Nat, s.heap.size ≤ q → A q := fun q h => by rw [← hAe]; exact Or.inr h
  have hS : va_S A s.heap s.heap [] := va_S.rf
  have hl := lv_entry ([.ref (a 0)] : List Value) (n := 1) (Nat.le_of_ble_eq_true rfl)
  rw [lg_entry_eq]
  generalize (lg_sl ([.ref (a 0)] : List Value) ++ List.replicate (1 - (lg_sl ([.ref (a 0)] : List Value)).length) Slot.unset).toArray = ls at hl ⊢
  have hl : lv_has ls 1 [(0, .ref (a 0))] := hl
  refine lv_aload_n hx hb dX1_next_0 rfl (lv_at hl 0 rfl) ?_
  refine lv_dup hx hb dX1_next_1 rfl ?_
  refine va_get (D := k.1) (ci := 1) (v := .long dr) (C := RX1) (T := TX1) (N := 1) hx hb hU inlX1 hown hK.1 hP 0 rfl rfl 0 (by decide) (hU _ uF_X1_11) (fun _ h9 => h9) rfl dX1_next_2 ?_
  refine lv_aload_n hx hb dX1_next_5 rfl (lv_at hl 0 rfl) ?_
  refine va_get (D := k.1) (ci := 1) (v := .long dr) (C := RX1) (T := TX1) (N := 1) hx hb hU inlX1 hown hK.1 hP 0 rfl rfl 0 (by decide) (hU _ uF_X1_11) (fun _ h9 => h9) rfl dX1_next_6 ?_
  refine lv_bipush (v := 13) hx hb dX1_next_9 (by decide) ?_
  refine lv_lshl (v := (lh dr 13)) hx hb dX1_next_11 rfl ?_
  refine lv_lxor hx hb dX1_next_12 ?_
  refine va_put (D := k.1) (ci := 1) (v := .long (dr ^^^ (lh dr 13))) (ty := .long) (C := RX1) (T := TX1) (N := 1) hx hb hU inlX1 tyX1 tyX1_ok nmX1 hown hK.1 hP hD hS 0 rfl rfl 0 (by decide) (hU _ uF_X1_11) (fun _ h9 => h9) rfl (by decide +kernel) rfl rfl (Nat.le_of_ble_eq_true rfl) dX1_next_13 (fun H locs hP hD hS => ?_)
  have hP := pz_d_0_0 k a dr (dr ^^^ (lh dr 13)) hP
  have hD := dz_d_0_0 k a dr (dr ^^^ (lh dr 13)) hD
  refine lv_aload_n hx hb dX1_next_16 rfl (lv_at hl 0 rfl) ?_
  refine lv_dup hx hb dX1_next_17 rfl ?_
  refine va_get (D := k.1) (ci := 1) (v := .long (dr ^^^ (lh dr 13))) (C := RX1) (T := TX1) (N := 1) hx hb hU inlX1 hown hK.1 hP 0 rfl rfl 0 (by decide) (hU _ uF_X1_11) (fun _ h9 => h9) rfl dX1_next_18 ?_
  refine lv_aload_n hx hb dX1_next_21 rfl (lv_at hl 0 rfl) ?_
  refine va_get (D := k.1) (ci := 1) (v := .long (dr ^^^ (lh dr 13))) (C := RX1) (T := TX1) (N := 1) hx hb hU inlX1 hown hK.1 hP 0 rfl rfl 0 (by decide) (hU _ uF_X1_11) (fun _ h9 => h9) rfl dX1_next_22 ?_
  refine lv_bipush (v := 7) hx hb dX1_next_25 (by decide) ?_
  refine lv_lushr (v := (lu (dr ^^^ (lh dr 13)) 7)) hx hb dX1_next_27 rfl ?_
  refine lv_lxor hx hb dX1_next_28 ?_
  refine va_put (D := k.1) (ci := 1) (v := .long ((dr ^^^ (lh dr 13)) ^^^ (lu (dr ^^^ (lh dr 13)) 7))) (ty := .long) (C := RX1) (T := TX1) (N := 1) hx hb hU inlX1 tyX1 tyX1_ok nmX1 hown hK.1 hP hD hS 0 rfl rfl 0 (by decide) (hU _ uF_X1_11) (fun _ h9 => h9) rfl (by decide +kernel) rfl rfl (Nat.le_of_ble_eq_true rfl) dX1_next_29 (fun H locs hP hD hS => ?_)
  have hP := pz_d_0_0 k a (dr ^^^ (lh dr 13)) ((dr ^^^ (lh dr 13)) ^^^ (lu (dr ^^^ (lh dr 13)) 7)) hP
  have hD := dz_d_0_0 k a (dr ^^^ (lh dr 13)) ((dr ^^^ (lh dr 13)) ^^^ (lu (dr ^^^ (lh dr 13)) 7)) hD
  refine lv_aload_n hx hb dX1_next_32 rfl (lv_at hl 0 rfl) ?_
  refine lv_dup hx hb dX1_next_33 rfl ?_
  refine va_get (D := k.1) (ci := 1) (v := .long ((dr ^^^ (lh dr 13)) ^^^ (lu (dr ^^^ (lh dr 13)) 7))) (C := RX1) (T := TX1) (N := 1) hx hb hU inlX1 hown hK.1 hP 0 rfl rfl 0 (by decide) (hU _ uF_X1_11) (fun _ h9 => h9) rfl dX1_next_34 ?_
  refine lv_aload_n hx hb dX1_next_37 rfl (lv_at hl 0 rfl) ?_
  refine va_get (D := k.1) (ci := 1) (v := .long ((dr ^^^ (lh dr 13)) ^^^ (lu (dr ^^^ (lh dr 13)) 7))) (C := RX1) (T := TX1) (N := 1) hx hb hU inlX1 hown hK.1 hP 0 rfl rfl 0 (by decide) (hU _ uF_X1_11) (fun _ h9 => h9) rfl dX1_next_38 ?_
  refine lv_bipush (v := 17) hx hb dX1_next_41 (by decide) ?_
  refine lv_lshl (v := (lh ((dr ^^^ (lh dr 13)) ^^^ (lu (dr ^^^ (lh dr 13)) 7)) 17)) hx hb dX1_next_43 rfl ?_
  refine lv_lxor hx hb dX1_next_44 ?_
  refine va_put (D := k.1) (ci := 1) (v := .long (((dr ^^^ (lh dr 13)) ^^^ (lu (dr ^^^ (lh dr 13)) 7)) ^^^ (lh ((dr ^^^ (lh dr 13)) ^^^ (lu (dr ^^^ (lh dr 13)) 7)) 17))) (ty := .long) (C := RX1) (T := TX1) (N := 1) hx hb hU inlX1 tyX1 tyX1_ok nmX1 hown hK.1 hP hD hS 0 rfl rfl 0 (by decide) (hU _ uF_X1_11) (fun _ h9 => h9) rfl (by decide +kernel) rfl rfl (Nat.le_of_ble_eq_true rfl) dX1_next_45 (fun H locs hP hD hS => ?_)
  have hP := pz_d_0_0 k a ((dr ^^^ (lh dr 13)) ^^^ (lu (dr ^^^ (lh dr 13)) 7)) (((dr ^^^ (lh dr 13)) ^^^ (lu (dr ^^^ (lh dr 13)) 7)) ^^^ (lh ((dr ^^^ (lh dr 13)) ^^^ (lu (dr ^^^ (lh dr 13)) 7)) 17)) hP
  have hD := dz_d_0_0 k a ((dr ^^^ (lh dr 13)) ^^^ (lu (dr ^^^ (lh dr 13)) 7)) (((dr ^^^ (lh dr 13)) ^^^ (lu (dr ^^^ (lh dr 13)) 7)) ^^^ (lh ((dr ^^^ (lh dr 13)) ^^^ (lu (dr ^^^ (lh dr 13)) 7)) 17)) hD
  refine lv_aload_n hx hb dX1_next_48 rfl (lv_at hl 0 rfl) ?_
  refine va_get (D := k.1) (ci := 1) (v := .long (((dr ^^^ (lh dr 13)) ^^^ (lu (dr ^^^ (lh dr 13)) 7)) ^^^ (lh ((dr ^^^ (lh dr 13)) ^^^ (lu (dr ^^^ (lh dr 13)) 7)) 17))) (C := RX1) (T := TX1) (N := 1) hx hb hU inlX1 hown hK.1 hP 0 rfl rfl 0 (by decide) (hU _ uF_X1_11) (fun _ h9 => h9) rfl dX1_next_49 ?_
  refine lv_iconst (v := 1) hx hb dX1_next_52 (by decide) ?_
  refine lv_lushr (v := (lu (((dr ^^^ (lh dr 13)) ^^^ (lu (dr ^^^ (lh dr 13)) 7)) ^^^ (lh ((dr ^^^ (lh dr 13)) ^^^ (lu (dr ^^^ (lh dr 13)) 7)) 17)) 1)) hx hb dX1_next_53 rfl ?_
  have hP9 : va_P k.1 vwCl (dW k a (w_X1_next_dr dr)) H := by rw [w_X1_next_dr]; exact hP
  have hD9 : va_D A (dW k a (w_X1_next_dr dr)) := by rw [w_X1_next_dr]; exact hD
  exact W.lret (v := (lu (((dr ^^^ (lh dr 13)) ^^^ (lu (dr ^^^ (lh dr 13)) 7)) ^^^ (lh ((dr ^^^ (lh dr 13)) ^^^ (lu (dr ^^^ (lh dr 13)) 7)) 17)) 1)) hx hb hr (fun t ht hW => ⟨⟨by rw [w_X1_next], by rw [ht]; exact hP9, hD9⟩, hS.F ht⟩) hS.2.2 dX1_next_54

def w_X2_hasPair (S : SeaT) (ca : Int32) (cb : Int32) : Int32 := if (w_hasCell (S_cells S) ca) = 0 then 0 else if (w_hasCell (S_cells S) cb) = 0 then 0 else if ca = cb then 0 else 1
set_option maxHeartbeats 4000000 in
set_option maxRecDepth 100000 in
theorem c_X2_hasPair (l : Launch) (k : KT) (a : Nat → Nat) (S : SeaT) (T : TalT) (dr : Int64) (tr : Int64) (C : ChoT) (F : (Nat → Int32)) (G : GoT) (ca : Int32) (cb : Int32)  : MR l yX2_hasPair cX2_hasPair 3 (some .boolean) (rz 1 21) k [.ref (a 1), .int ca, .int cb] (xW k a S T dr tr C F G) (.int (w_X2_hasPair S ca cb)) := by
  refine Met.ofW (cc := cX2_hasPair) (maxL := 3) (ret := (some .boolean)) (by decide) rfl ?_
  intro p e s m args below meth c s₁ B hml hv
  obtain ⟨rfl, hP, hK⟩ := hv
  have hx := B.exec
  have hb := B.bytes
  have hr := B.returns
  have hU : ∀ w ∈ wsL_law, w.before [.ref (a 1), .int ca, .int cb].toArray s = true := fun w h => atoms_spec (ws := Cond.code yX2_hasPair cX2_hasPair 3 (some .boolean) :: wsL_law) B.pre w (List.mem_cons_of_mem _ h)
  have hown : s.vm.findClass RX2 = some m.cls := findClass_of_methodNamed B.named
  have hlocks := B.notSynchronized
  have hF : CF p m c cX2_hasPair 3 s [.ref (a 1), .int ca, .int cb].toArray RX2 := ⟨hx, hb, hml, hown, hU⟩
  have hl := lv_entry ([.ref (a 1), .int ca, .int cb] : List Value) (n := 3) (Nat.le_of_ble_eq_true rfl)
  rw [lg_entry_eq]
  generalize (lg_sl ([.ref (a 1), .int ca, .int cb] : List Value) ++ List.replicate (3 - (lg_sl ([.ref (a 1), .int ca, .int cb] : List Value)).length) Slot.unset).toArray = ls at hl ⊢
  have hl : lv_has ls 3 [(0, .ref (a 1)), (1, .int ca), (2, .int cb)] := hl
  refine lv_aload_n hx hb dX2_hasPair_0 rfl (lv_at hl 0 rfl) ?_
  refine lv_iload_n hx hb dX2_hasPair_1 rfl (lv_at hl 1 rfl) ?_
  refine rcV (n := 1) (As := [.int ca]) (rest := []) hF (c_X2_hasCell l k a S T dr tr C F G ca ) (hP) hK 1 (ci := 2) rfl rfl rfl uC_X2_hasCell uN_X2 uM_X2_51 uI_X2_hasCell uE_X2_hasCell (by decide +kernel) rfl ⟨Nat.le_of_ble_eq_true rfl, Nat.le_of_ble_eq_true rfl⟩ ⟨Nat.zero_le _, Nat.zero_le _⟩ hl.1 rfl (Nat.le_of_ble_eq_true rfl) dX2_hasPair_2 ?_
  refine lv_if_eq (tgt := 25) hx hb dX2_hasPair_5 (by decide) (fun c_1 => ?_) (fun c_1 => ?_)
  · refine lv_iconst (v := 0) hx hb dX2_hasPair_25 (by decide) ?_
    exact W.zret (v := 0) hx hb hr rfl (fun t ht hW => ⟨by rw [w_X2_hasPair, if_pos c_1], ht⟩) (fun q h => absurd h List.not_mem_nil) dX2_hasPair_26
  · refine lv_aload_n hx hb dX2_hasPair_8 rfl (lv_at hl 0 rfl) ?_
    refine lv_iload_n hx hb dX2_hasPair_9 rfl (lv_at hl 2 rfl) ?_
    refine rcV (n := 1) (As := [.int cb]) (rest := []) hF (c_X2_hasCell l k a S T dr tr C F G cb ) (hP) hK 1 (ci := 2) rfl rfl rfl uC_X2_hasCell uN_X2 uM_X2_51 uI_X2_hasCell uE_X2_hasCell (by decide +kernel) rfl ⟨Nat.le_of_ble_eq_true rfl, Nat.le_of_ble_eq_true rfl⟩ ⟨Nat.zero_le _, Nat.zero_le _⟩ hl.1 rfl (Nat.le_of_ble_eq_true rfl) dX2_hasPair_10 ?_
    refine lv_if_eq (tgt := 25) hx hb dX2_hasPair_13 (by decide) (fun c_2 => ?_) (fun c_2 => ?_)
    · refine lv_iconst (v := 0) hx hb dX2_hasPair_25 (by decide) ?_
      exact W.zret (v := 0) hx hb hr rfl (fun t ht hW => ⟨by rw [w_X2_hasPair, if_neg c_1, if_pos c_2], ht⟩) (fun q h => absurd h List.not_mem_nil) dX2_hasPair_26
    · refine lv_iload_n hx hb dX2_hasPair_16 rfl (lv_at hl 1 rfl) ?_
      refine lv_iload_n hx hb dX2_hasPair_17 rfl (lv_at hl 2 rfl) ?_
      refine lv_icmp_eq (tgt := 25) hx hb dX2_hasPair_18 (by decide) (fun c_3 => ?_) (fun c_3 => ?_)
      · refine lv_iconst (v := 0) hx hb dX2_hasPair_25 (by decide) ?_
        exact W.zret (v := 0) hx hb hr rfl (fun t ht hW => ⟨by rw [w_X2_hasPair, if_neg c_1, if_neg c_2, if_pos c_3], ht⟩) (fun q h => absurd h List.not_mem_nil) dX2_hasPair_26
      · refine lv_iconst (v := 1) hx hb dX2_hasPair_21 (by decide) ?_
        refine lv_goto (tgt := 26) hx hb dX2_hasPair_22 (by decide) ?_
        exact W.zret (v := 1) hx hb hr rfl (fun t ht hW => ⟨by rw [w_X2_hasPair, if_neg c_1, if_neg c_2, if_neg c_3], ht⟩) (fun q h => absurd h List.not_mem_nil) dX2_hasPair_26

def w_X2_putAmount_S (S : SeaT) (am : Int64) (j : Nat) (q : Nat) : SeaT := (sS_amounts (sS_kindTotals S (vp_updL (S_kindTotals S) q (((S_kindTotals S) q) + (am - ((S_amounts S) (j * 8 + q)))))) (vp_updL (S_amounts (sS_kindTotals S (vp_updL (S_kindTotals S) q (((S_kindTotals S) q) + (am - ((S_amounts S) (j * 8 + q))))))) (j * 8 + q) am))
set_option maxHeartbeats 4000000 in
set_option maxRecDepth 100000 in
theorem c_X2_putAmount (l : Launch) (k : KT) (a : Nat → Nat) (S : SeaT) (T : TalT) (dr : Int64) (tr : Int64) (C : ChoT) (F : (Nat → Int32)) (G : GoT) (ce : Int32) (ki : Int32) (am : Int64) (j q : Nat) (hj : j < 24) (hq : q < 8) (ej : ce = nI j) (ek : ki = nI q) : MW l yX2_putAmount cX2_putAmount 6 none (rz 0 0) k [.ref (a 1), .int ce, .int ki, .long am] (xW k a S T dr tr C F G) none (xW k a (w_X2_putAmount_S S am j q) T dr tr C F G) := by
  intro sz
  refine Met.ofW (cc := cX2_putAmount) (maxL := 6) (ret := none) (by decide) rfl ?_
  intro p e s m args below meth c s₁ B hml hv
  obtain ⟨rfl, hsz, hP, hK, hD0⟩ := hv
  have hx := B.exec
  have hb := B.bytes
  have hr := B.returns
  have hU : ∀ w ∈ wsL_law, w.before [.ref (a 1), .int ce, .int ki, .long am].toArray s = true := fun w h => atoms_spec (ws := Cond.code yX2_putAmount cX2_putAmount 6 none :: wsL_law) B.pre w (List.mem_cons_of_mem _ h)
  have hown : s.vm.findClass RX2 = some m.cls := findClass_of_methodNamed B.named
  have hlocks := B.notSynchronized
  have hF : CF p m c cX2_putAmount 6 s [.ref (a 1), .int ce, .int ki, .long am].toArray RX2 := ⟨hx, hb, hml, hown, hU⟩
  subst hsz
  have hD := hD0.self (sz := s.heap.size)
  generalize hAe : va_A (xW k a S T dr tr C F G) s.heap.size = A at hD ⊢
  have hA : ∀ q : Nat, s.heap.size ≤ q → A q := fun q h => by rw [← hAe]; exact Or.inr h
  have hS : va_S A s.heap s.heap [] := va_S.rf
  have hl := lv_entry ([.ref (a 1), .int ce, .int ki, .long am] : List Value) (n := 6) (Nat.le_of_ble_eq_true rfl)
  rw [lg_entry_eq]
  generalize (lg_sl ([.ref (a 1), .int ce, .int ki, .long am] : List Value) ++ List.replicate (6 - (lg_sl ([.ref (a 1), .int ce, .int ki, .long am] : List Value)).length) Slot.unset).toArray = ls at hl ⊢
  have hl : lv_has ls 6 [(0, .ref (a 1)), (1, .int ce), (2, .int ki), (3, .long am)] := hl
  refine lv_iload_n hx hb dX2_putAmount_0 rfl (lv_at hl 1 rfl) ?_
  refine lv_bipush (v := 8) hx hb dX2_putAmount_1 (by decide) ?_
  refine lv_imul hx hb dX2_putAmount_3 ?_
  refine lv_iload_n hx hb dX2_putAmount_4 rfl (lv_at hl 2 rfl) ?_
  refine lv_iadd hx hb dX2_putAmount_5 ?_
  refine lv_istore (lv' := [(5, .int ((ce * 8) + ki)), (0, .ref (a 1)), (1, .int ce), (2, .int ki), (3, .long am)]) hx hb dX2_putAmount_6 hl (by decide) rfl (fun ls hl => ?_)
  refine lv_aload_n hx hb dX2_putAmount_8 rfl (lv_at hl 1 rfl) ?_
  refine va_get (D := k.1) (ci := 2) (v := .ref (a 7)) (C := RX2) (T := TX2) (N := 16) hx hb hU inlX2 hown hK.1 hP 1 rfl rfl 5 (by decide) (hU _ uF_X2_28) (fun _ h9 => h9) rfl dX2_putAmount_9 ?_
  refine lv_iload_n hx hb dX2_putAmount_12 rfl (lv_at hl 3 rfl) ?_
  refine lv_dup2_11 hx hb dX2_putAmount_13 rfl rfl ?_
  refine xa_lald hx hb hK.1 hP 7 1 rfl rfl (j := q) ek hq (by decide) dX2_putAmount_14 ?_
  refine lv_lload_n hx hb dX2_putAmount_15 rfl (lv_at hl 4 rfl) ?_
  refine lv_aload_n hx hb dX2_putAmount_16 rfl (lv_at hl 1 rfl) ?_
  refine va_get (D := k.1) (ci := 2) (v := .ref (a 3)) (C := RX2) (T := TX2) (N := 16) hx hb hU inlX2 hown hK.1 hP 1 rfl rfl 1 (by decide) (hU _ uF_X2_15) (fun _ h9 => h9) rfl dX2_putAmount_17 ?_
  refine lv_iload hx hb dX2_putAmount_20 (lv_at hl 0 rfl) ?_
  refine xa_lald hx hb hK.1 hP 3 1 rfl rfl (j := j * 8 + q) (by rw [ej, ek]; exact ix8 j q) (by omega) (by decide) dX2_putAmount_22 ?_
  refine lv_lsub hx hb dX2_putAmount_23 ?_
  refine lv_ladd hx hb dX2_putAmount_24 ?_
  refine xa_last hx hb hK.1 hP hD hS 7 1 rfl rfl (j := q) ek hq (by decide) dX2_putAmount_25 (fun H locs hP hD hS => ?_)
  have hP := pz_x_7 k a S T dr tr C F G (vp_updL (S_kindTotals S) q (((S_kindTotals S) q) + (am - ((S_amounts S) (j * 8 + q))))) hP
  have hD := dz_x_7 k a S T dr tr C F G (vp_updL (S_kindTotals S) q (((S_kindTotals S) q) + (am - ((S_amounts S) (j * 8 + q))))) hD
  refine lv_aload_n hx hb dX2_putAmount_26 rfl (lv_at hl 1 rfl) ?_
  refine va_get (D := k.1) (ci := 2) (v := .ref (a 3)) (C := RX2) (T := TX2) (N := 16) hx hb hU inlX2 hown hK.1 hP 1 rfl rfl 1 (by decide) (hU _ uF_X2_15) (fun _ h9 => h9) rfl dX2_putAmount_27 ?_
  refine lv_iload hx hb dX2_putAmount_30 (lv_at hl 0 rfl) ?_
  refine lv_lload_n hx hb dX2_putAmount_32 rfl (lv_at hl 4 rfl) ?_
  refine xa_last hx hb hK.1 hP hD hS 3 1 rfl rfl (j := j * 8 + q) (by rw [ej, ek]; exact ix8 j q) (by omega) (by decide) dX2_putAmount_33 (fun H locs hP hD hS => ?_)
  have hP := pz_x_3 k a (sS_kindTotals S (vp_updL (S_kindTotals S) q (((S_kindTotals S) q) + (am - ((S_amounts S) (j * 8 + q)))))) T dr tr C F G (vp_updL (S_amounts (sS_kindTotals S (vp_updL (S_kindTotals S) q (((S_kindTotals S) q) + (am - ((S_amounts S) (j * 8 + q))))))) (j * 8 + q) am) hP
  have hD := dz_x_3 k a (sS_kindTotals S (vp_updL (S_kindTotals S) q (((S_kindTotals S) q) + (am - ((S_amounts S) (j * 8 + q)))))) T dr tr C F G (vp_updL (S_amounts (sS_kindTotals S (vp_updL (S_kindTotals S) q (((S_kindTotals S) q) + (am - ((S_amounts S) (j * 8 + q))))))) (j * 8 + q) am) hD
  have hP9 : va_P k.1 vwCl (xW k a (w_X2_putAmount_S S am j q) T dr tr C F G) H := by rw [w_X2_putAmount_S]; exact hP
  have hD9 : va_D A (xW k a (w_X2_putAmount_S S am j q) T dr tr C F G) := by rw [w_X2_putAmount_S]; exact hD
  exact W.vret hx hb hr (fun t ht hW => ⟨⟨rfl, by rw [ht]; exact hP9, hD9⟩, hS.F ht⟩) hS.2.2 dX2_putAmount_34

def w_X2_putHours_S (S : SeaT) (am : Int64) (j : Nat) (q : Nat) : SeaT := (sS_hours (sS_portTotals S (vp_updL (S_portTotals S) q (((S_portTotals S) q) + (am - ((S_hours S) (j * 4 + q)))))) (vp_updL (S_hours (sS_portTotals S (vp_updL (S_portTotals S) q (((S_portTotals S) q) + (am - ((S_hours S) (j * 4 + q))))))) (j * 4 + q) am))
set_option maxHeartbeats 4000000 in
set_option maxRecDepth 100000 in
theorem c_X2_putHours (l : Launch) (k : KT) (a : Nat → Nat) (S : SeaT) (T : TalT) (dr : Int64) (tr : Int64) (C : ChoT) (F : (Nat → Int32)) (G : GoT) (ce : Int32) (ki : Int32) (am : Int64) (j q : Nat) (hj : j < 24) (hq : q < 4) (ej : ce = nI j) (ek : ki = nI q) : MW l yX2_putHours cX2_putHours 6 none (rz 0 0) k [.ref (a 1), .int ce, .int ki, .long am] (xW k a S T dr tr C F G) none (xW k a (w_X2_putHours_S S am j q) T dr tr C F G) := by
  intro sz
  refine Met.ofW (cc := cX2_putHours) (maxL := 6) (ret := none) (by decide) rfl ?_
  intro p e s m args below meth c s₁ B hml hv
  obtain ⟨rfl, hsz, hP, hK, hD0⟩ := hv
  have hx := B.exec
  have hb := B.bytes
  have hr := B.returns
  have hU : ∀ w ∈ wsL_law, w.before [.ref (a 1), .int ce, .int ki, .long am].toArray s = true := fun w h => atoms_spec (ws := Cond.code yX2_putHours cX2_putHours 6 none :: wsL_law) B.pre w (List.mem_cons_of_mem _ h)
  have hown : s.vm.findClass RX2 = some m.cls := findClass_of_methodNamed B.named
  have hlocks := B.notSynchronized
  have hF : CF p m c cX2_putHours 6 s [.ref (a 1), .int ce, .int ki, .long am].toArray RX2 := ⟨hx, hb, hml, hown, hU⟩
  subst hsz
  have hD := hD0.self (sz := s.heap.size)
  generalize hAe : va_A (xW k a S T dr tr C F G) s.heap.size = A at hD ⊢
  have hA : ∀ q : Nat, s.heap.size ≤ q → A q := fun q h => by rw [← hAe]; exact Or.inr h
  have hS : va_S A s.heap s.heap [] := va_S.rf
  have hl := lv_entry ([.ref (a 1), .int ce, .int ki, .long am] : List Value) (n := 6) (Nat.le_of_ble_eq_true rfl)
  rw [lg_entry_eq]
  generalize (lg_sl ([.ref (a 1), .int ce, .int ki, .long am] : List Value) ++ List.replicate (6 - (lg_sl ([.ref (a 1), .int ce, .int ki, .long am] : List Value)).length) Slot.unset).toArray = ls at hl ⊢
  have hl : lv_has ls 6 [(0, .ref (a 1)), (1, .int ce), (2, .int ki), (3, .long am)] := hl
  refine lv_iload_n hx hb dX2_putHours_0 rfl (lv_at hl 1 rfl) ?_
  refine lv_iconst (v := 4) hx hb dX2_putHours_1 (by decide) ?_
  refine lv_imul hx hb dX2_putHours_2 ?_
  refine lv_iload_n hx hb dX2_putHours_3 rfl (lv_at hl 2 rfl) ?_
  refine lv_iadd hx hb dX2_putHours_4 ?_
  refine lv_istore (lv' := [(5, .int ((ce * 4) + ki)), (0, .ref (a 1)), (1, .int ce), (2, .int ki), (3, .long am)]) hx hb dX2_putHours_5 hl (by decide) rfl (fun ls hl => ?_)
  refine lv_aload_n hx hb dX2_putHours_7 rfl (lv_at hl 1 rfl) ?_
  refine va_get (D := k.1) (ci := 2) (v := .ref (a 8)) (C := RX2) (T := TX2) (N := 16) hx hb hU inlX2 hown hK.1 hP 1 rfl rfl 6 (by decide) (hU _ uF_X2_31) (fun _ h9 => h9) rfl dX2_putHours_8 ?_
  refine lv_iload_n hx hb dX2_putHours_11 rfl (lv_at hl 3 rfl) ?_
  refine lv_dup2_11 hx hb dX2_putHours_12 rfl rfl ?_
  refine xa_lald hx hb hK.1 hP 8 1 rfl rfl (j := q) ek hq (by decide) dX2_putHours_13 ?_
  refine lv_lload_n hx hb dX2_putHours_14 rfl (lv_at hl 4 rfl) ?_
  refine lv_aload_n hx hb dX2_putHours_15 rfl (lv_at hl 1 rfl) ?_
  refine va_get (D := k.1) (ci := 2) (v := .ref (a 4)) (C := RX2) (T := TX2) (N := 16) hx hb hU inlX2 hown hK.1 hP 1 rfl rfl 2 (by decide) (hU _ uF_X2_18) (fun _ h9 => h9) rfl dX2_putHours_16 ?_
  refine lv_iload hx hb dX2_putHours_19 (lv_at hl 0 rfl) ?_
  refine xa_lald hx hb hK.1 hP 4 1 rfl rfl (j := j * 4 + q) (by rw [ej, ek]; exact ix4 j q) (by omega) (by decide) dX2_putHours_21 ?_
  refine lv_lsub hx hb dX2_putHours_22 ?_
  refine lv_ladd hx hb dX2_putHours_23 ?_
  refine xa_last hx hb hK.1 hP hD hS 8 1 rfl rfl (j := q) ek hq (by decide) dX2_putHours_24 (fun H locs hP hD hS => ?_)
  have hP := pz_x_8 k a S T dr tr C F G (vp_updL (S_portTotals S) q (((S_portTotals S) q) + (am - ((S_hours S) (j * 4 + q))))) hP
  have hD := dz_x_8 k a S T dr tr C F G (vp_updL (S_portTotals S) q (((S_portTotals S) q) + (am - ((S_hours S) (j * 4 + q))))) hD
  refine lv_aload_n hx hb dX2_putHours_25 rfl (lv_at hl 1 rfl) ?_
  refine va_get (D := k.1) (ci := 2) (v := .ref (a 4)) (C := RX2) (T := TX2) (N := 16) hx hb hU inlX2 hown hK.1 hP 1 rfl rfl 2 (by decide) (hU _ uF_X2_18) (fun _ h9 => h9) rfl dX2_putHours_26 ?_
  refine lv_iload hx hb dX2_putHours_29 (lv_at hl 0 rfl) ?_
  refine lv_lload_n hx hb dX2_putHours_31 rfl (lv_at hl 4 rfl) ?_
  refine xa_last hx hb hK.1 hP hD hS 4 1 rfl rfl (j := j * 4 + q) (by rw [ej, ek]; exact ix4 j q) (by omega) (by decide) dX2_putHours_32 (fun H locs hP hD hS => ?_)
  have hP := pz_x_4 k a (sS_portTotals S (vp_updL (S_portTotals S) q (((S_portTotals S) q) + (am - ((S_hours S) (j * 4 + q)))))) T dr tr C F G (vp_updL (S_hours (sS_portTotals S (vp_updL (S_portTotals S) q (((S_portTotals S) q) + (am - ((S_hours S) (j * 4 + q))))))) (j * 4 + q) am) hP
  have hD := dz_x_4 k a (sS_portTotals S (vp_updL (S_portTotals S) q (((S_portTotals S) q) + (am - ((S_hours S) (j * 4 + q)))))) T dr tr C F G (vp_updL (S_hours (sS_portTotals S (vp_updL (S_portTotals S) q (((S_portTotals S) q) + (am - ((S_hours S) (j * 4 + q))))))) (j * 4 + q) am) hD
  have hP9 : va_P k.1 vwCl (xW k a (w_X2_putHours_S S am j q) T dr tr C F G) H := by rw [w_X2_putHours_S]; exact hP
  have hD9 : va_D A (xW k a (w_X2_putHours_S S am j q) T dr tr C F G) := by rw [w_X2_putHours_S]; exact hD
  exact W.vret hx hb hr (fun t ht hW => ⟨⟨rfl, by rw [ht]; exact hP9, hD9⟩, hS.F ht⟩) hS.2.2 dX2_putHours_33

def w_X2_openSet (S : SeaT) : Int32 := (((1 <<< ((S_cells S) &&& 31)) - 1) &&& ((S_barred S) ^^^ (-1)))
set_option maxHeartbeats 4000000 in
set_option maxRecDepth 100000 in
theorem c_X2_openSet (l : Launch) (k : KT) (a : Nat → Nat) (S : SeaT) (T : TalT) (dr : Int64) (tr : Int64) (C : ChoT) (F : (Nat → Int32)) (G : GoT)   : MR l yX2_openSet cX2_openSet 1 (some .int) (rz 0 0) k [.ref (a 1)] (xW k a S T dr tr C F G) (.int (w_X2_openSet S)) := by
  refine Met.ofW (cc := cX2_openSet) (maxL := 1) (ret := (some .int)) (by decide) rfl ?_
  intro p e s m args below meth c s₁ B hml hv
  obtain ⟨rfl, hP, hK⟩ := hv
  have hx := B.exec
  have hb := B.bytes
  have hr := B.returns
  have hU : ∀ w ∈ wsL_law, w.before [.ref (a 1)].toArray s = true := fun w h => atoms_spec (ws := Cond.code yX2_openSet cX2_openSet 1 (some .int) :: wsL_law) B.pre w (List.mem_cons_of_mem _ h)
  have hown : s.vm.findClass RX2 = some m.cls := findClass_of_methodNamed B.named
  have hlocks := B.notSynchronized
  have hF : CF p m c cX2_openSet 1 s [.ref (a 1)].toArray RX2 := ⟨hx, hb, hml, hown, hU⟩
  have hl := lv_entry ([.ref (a 1)] : List Value) (n := 1) (Nat.le_of_ble_eq_true rfl)
  rw [lg_entry_eq]
  generalize (lg_sl ([.ref (a 1)] : List Value) ++ List.replicate (1 - (lg_sl ([.ref (a 1)] : List Value)).length) Slot.unset).toArray = ls at hl ⊢
  have hl : lv_has ls 1 [(0, .ref (a 1))] := hl
  refine lv_iconst (v := 1) hx hb dX2_openSet_0 (by decide) ?_
  refine lv_aload_n hx hb dX2_openSet_1 rfl (lv_at hl 0 rfl) ?_
  refine va_get (D := k.1) (ci := 2) (v := .int (S_cells S)) (C := RX2) (T := TX2) (N := 16) hx hb hU inlX2 hown hK.1 hP 1 rfl rfl 12 (by decide) (hU _ uF_X2_47) (fun _ h9 => h9) rfl dX2_openSet_2 ?_
  refine lv_ishl hx hb dX2_openSet_5 ?_
  refine lv_iconst (v := 1) hx hb dX2_openSet_6 (by decide) ?_
  refine lv_isub hx hb dX2_openSet_7 ?_
  refine lv_aload_n hx hb dX2_openSet_8 rfl (lv_at hl 0 rfl) ?_
  refine va_get (D := k.1) (ci := 2) (v := .int (S_barred S)) (C := RX2) (T := TX2) (N := 16) hx hb hU inlX2 hown hK.1 hP 1 rfl rfl 14 (by decide) (hU _ uF_X2_55) (fun _ h9 => h9) rfl dX2_openSet_9 ?_
  refine lv_iconst (v := (-1)) hx hb dX2_openSet_12 (by decide) ?_
  refine lv_ixor hx hb dX2_openSet_13 ?_
  refine lv_iand hx hb dX2_openSet_14 ?_
  exact W.iret (v := (((1 <<< ((S_cells S) &&& 31)) - 1) &&& ((S_barred S) ^^^ (-1)))) hx hb hr (fun t ht hW => ⟨by rw [w_X2_openSet], ht⟩) (fun q h => absurd h List.not_mem_nil) dX2_openSet_15

def w_X2_freeSet (S : SeaT) : Int32 := ((w_X2_openSet S) &&& ((S_needed S) ^^^ (-1)))
set_option maxHeartbeats 4000000 in
set_option maxRecDepth 100000 in
theorem c_X2_freeSet (l : Launch) (k : KT) (a : Nat → Nat) (S : SeaT) (T : TalT) (dr : Int64) (tr : Int64) (C : ChoT) (F : (Nat → Int32)) (G : GoT)   : MR l yX2_freeSet cX2_freeSet 1 (some .int) (rz 1 20) k [.ref (a 1)] (xW k a S T dr tr C F G) (.int (w_X2_freeSet S)) := by
  refine Met.ofW (cc := cX2_freeSet) (maxL := 1) (ret := (some .int)) (by decide) rfl ?_
  intro p e s m args below meth c s₁ B hml hv
  obtain ⟨rfl, hP, hK⟩ := hv
  have hx := B.exec
  have hb := B.bytes
  have hr := B.returns
  have hU : ∀ w ∈ wsL_law, w.before [.ref (a 1)].toArray s = true := fun w h => atoms_spec (ws := Cond.code yX2_freeSet cX2_freeSet 1 (some .int) :: wsL_law) B.pre w (List.mem_cons_of_mem _ h)
  have hown : s.vm.findClass RX2 = some m.cls := findClass_of_methodNamed B.named
  have hlocks := B.notSynchronized
  have hF : CF p m c cX2_freeSet 1 s [.ref (a 1)].toArray RX2 := ⟨hx, hb, hml, hown, hU⟩
  have hl := lv_entry ([.ref (a 1)] : List Value) (n := 1) (Nat.le_of_ble_eq_true rfl)
  rw [lg_entry_eq]
  generalize (lg_sl ([.ref (a 1)] : List Value) ++ List.replicate (1 - (lg_sl ([.ref (a 1)] : List Value)).length) Slot.unset).toArray = ls at hl ⊢
  have hl : lv_has ls 1 [(0, .ref (a 1))] := hl
  refine lv_aload_n hx hb dX2_freeSet_0 rfl (lv_at hl 0 rfl) ?_
  refine rcV (n := 0) (As := []) (rest := []) hF (c_X2_openSet l k a S T dr tr C F G  ) (hP) hK 1 (ci := 2) rfl rfl rfl uC_X2_openSet uN_X2 uM_X2_58 uI_X2_openSet uE_X2_openSet (by decide +kernel) rfl ⟨Nat.le_of_ble_eq_true rfl, Nat.le_of_ble_eq_true rfl⟩ ⟨Nat.zero_le _, Nat.zero_le _⟩ hl.1 rfl (Nat.le_of_ble_eq_true rfl) dX2_freeSet_1 ?_
  refine lv_aload_n hx hb dX2_freeSet_4 rfl (lv_at hl 0 rfl) ?_
  refine va_get (D := k.1) (ci := 2) (v := .int (S_needed S)) (C := RX2) (T := TX2) (N := 16) hx hb hU inlX2 hown hK.1 hP 1 rfl rfl 13 (by decide) (hU _ uF_X2_62) (fun _ h9 => h9) rfl dX2_freeSet_5 ?_
  refine lv_iconst (v := (-1)) hx hb dX2_freeSet_8 (by decide) ?_
  refine lv_ixor hx hb dX2_freeSet_9 ?_
  refine lv_iand hx hb dX2_freeSet_10 ?_
  exact W.iret (v := ((w_X2_openSet S) &&& ((S_needed S) ^^^ (-1)))) hx hb hr (fun t ht hW => ⟨by rw [w_X2_freeSet], ht⟩) (fun q h => absurd h List.not_mem_nil) dX2_freeSet_11

def f_costsOf (S : SeaT) (set : Int32) : Nat → Int64 := fun c => if bt set c then S_costs S c else 0
set_option maxHeartbeats 4000000 in
set_option maxRecDepth 100000 in
theorem c_X2_costsOf (l : Launch) (k : KT) (a : Nat → Nat) (S : SeaT) (T : TalT) (dr : Int64) (tr : Int64) (C : ChoT) (F : (Nat → Int32)) (G : GoT) (set : Int32) (n : Nat) (hn : n ≤ 24) (hc : S_cells S = nI n) : MR l yX2_costsOf cX2_costsOf 5 (some .long) (rz 1 21) k [.ref (a 1), .int set] (xW k a S T dr tr C F G) (.long (sm (f_costsOf S set) n)) := by
  refine Met.ofW (cc := cX2_costsOf) (maxL := 5) (ret := (some .long)) (by decide) rfl ?_
  intro p e s m args below meth c s₁ B hml hv
  obtain ⟨rfl, hP, hK⟩ := hv
  have hx := B.exec
  have hb := B.bytes
  have hr := B.returns
  have hU : ∀ w ∈ wsL_law, w.before [.ref (a 1), .int set].toArray s = true := fun w h => atoms_spec (ws := Cond.code yX2_costsOf cX2_costsOf 5 (some .long) :: wsL_law) B.pre w (List.mem_cons_of_mem _ h)
  have hown : s.vm.findClass RX2 = some m.cls := findClass_of_methodNamed B.named
  have hlocks := B.notSynchronized
  have hF : CF p m c cX2_costsOf 5 s [.ref (a 1), .int set].toArray RX2 := ⟨hx, hb, hml, hown, hU⟩
  have hl := lv_entry ([.ref (a 1), .int set] : List Value) (n := 5) (Nat.le_of_ble_eq_true rfl)
  rw [lg_entry_eq]
  generalize (lg_sl ([.ref (a 1), .int set] : List Value) ++ List.replicate (5 - (lg_sl ([.ref (a 1), .int set] : List Value)).length) Slot.unset).toArray = ls at hl ⊢
  have hl : lv_has ls 5 [(0, .ref (a 1)), (1, .int set)] := hl
  refine lv_lconst (v := 0) hx hb dX2_costsOf_0 (by decide) ?_
  refine lv_lstore_n (lv' := [(2, .long 0), (0, .ref (a 1)), (1, .int set)]) hx hb dX2_costsOf_1 rfl hl (by decide) rfl (fun ls hl => ?_)
  refine lv_iconst (v := 0) hx hb dX2_costsOf_2 (by decide) ?_
  refine lv_istore (lv' := [(4, .int 0), (2, .long 0), (0, .ref (a 1)), (1, .int set)]) hx hb dX2_costsOf_3 hl (by decide) rfl (fun ls hl => ?_)
  have loop_i : ∀ (ri i : Nat), i + ri * 1 = n → ∀ (ls : Array Slot) , lv_has ls 5 [(4, .int (nI i)), (2, .long (sm (f_costsOf S set) i)), (0, .ref (a 1)), (1, .int set)] → WR p l e s m below meth c yX2_costsOf cX2_costsOf 5 (some .long) (rz 1 21) [.ref (a 1), .int set] (.long (sm (f_costsOf S set) n)) (F0 m 5 ls []) := by
    intro ri
    induction ri with
    | zero =>
      intro i hi_i ls hl
      have he_i : n = i := by omega
      subst he_i
      refine lv_iload hx hb dX2_costsOf_5 (lv_at hl 0 rfl) ?_
      refine lv_aload_n hx hb dX2_costsOf_7 rfl (lv_at hl 2 rfl) ?_
      refine va_get (D := k.1) (ci := 2) (v := .int (S_cells S)) (C := RX2) (T := TX2) (N := 16) hx hb hU inlX2 hown hK.1 hP 1 rfl rfl 12 (by decide) (hU _ uF_X2_47) (fun _ h9 => h9) rfl dX2_costsOf_8 ?_
      refine xb_ge (tgt := 39) hx hb dX2_costsOf_11 (by decide) (fun c_1 => ?_) (fun c9 => absurd c9 (by rw [hc]; exact nI_nlt (a := n) (b := n) (Nat.le_refl _) (by omega)))
      refine lv_lload_n hx hb dX2_costsOf_39 rfl (lv_at hl 1 rfl) ?_
      exact W.lret (v := (sm (f_costsOf S set) n)) hx hb hr (fun t ht hW => ⟨rfl, ht⟩) (fun q h => absurd h List.not_mem_nil) dX2_costsOf_40
    | succ ri ih_i =>
      intro i hi_i ls hl
      have ht_i : i < n := by omega
      refine lv_iload hx hb dX2_costsOf_5 (lv_at hl 0 rfl) ?_
      refine lv_aload_n hx hb dX2_costsOf_7 rfl (lv_at hl 2 rfl) ?_
      refine va_get (D := k.1) (ci := 2) (v := .int (S_cells S)) (C := RX2) (T := TX2) (N := 16) hx hb hU inlX2 hown hK.1 hP 1 rfl rfl 12 (by decide) (hU _ uF_X2_47) (fun _ h9 => h9) rfl dX2_costsOf_8 ?_
      refine xb_ge (tgt := 39) hx hb dX2_costsOf_11 (by decide) (fun c9 => absurd (by rw [hc]; exact nI_lt (a := i) (b := n) (by omega) (by omega)) c9) (fun c_2 => ?_)
      refine lv_iload_n hx hb dX2_costsOf_14 rfl (lv_at hl 3 rfl) ?_
      refine lv_iload hx hb dX2_costsOf_15 (lv_at hl 0 rfl) ?_
      refine rcSN (n := 2) (As := [.int set, .int (nI i)]) (rest := []) hF (c_X4_hasBit l k set (nI i)) (hP.sub (ws' := []) [] rfl) hK uC_X4_hasBit uN_X4 nM_X2_65 uS_X4_hasBit (by decide +kernel) rfl ⟨Nat.le_of_ble_eq_true rfl, Nat.le_of_ble_eq_true rfl⟩ ⟨Nat.zero_le _, Nat.zero_le _⟩ hl.1 rfl (Nat.le_of_ble_eq_true rfl) dX2_costsOf_17 ?_
      refine lv_if_eq (tgt := 33) hx hb dX2_costsOf_20 (by decide) (fun c_3 => ?_) (fun c_3 => ?_)
      · refine lv_iinc (v := nI (i + 1)) (lv' := [(4, .int (nI (i + 1))), (2, .long (sm (f_costsOf S set) i)), (0, .ref (a 1)), (1, .int set)]) hx hb dX2_costsOf_33 hl (k := 0) rfl (nI_add i 1) (by decide) rfl (fun ls hl => ?_)
        refine lv_goto (tgt := 5) hx hb dX2_costsOf_36 (by decide) ?_
        have eb : bt set i = false := (hb0 set (by omega)).mp c_3
        have hq : (sm (f_costsOf S set) i) = (sm (f_costsOf S set) (i + 1)) := by simp [sm, f_costsOf, eb]
        rw [hq] at hl
        exact ih_i (i + 1) (by omega) ls (lv_sub hl [0, 1, 2, 3] rfl)
      · refine lv_lload_n hx hb dX2_costsOf_23 rfl (lv_at hl 1 rfl) ?_
        refine lv_aload_n hx hb dX2_costsOf_24 rfl (lv_at hl 2 rfl) ?_
        refine va_get (D := k.1) (ci := 2) (v := .ref (a 2)) (C := RX2) (T := TX2) (N := 16) hx hb hU inlX2 hown hK.1 hP 1 rfl rfl 0 (by decide) (hU _ uF_X2_9) (fun _ h9 => h9) rfl dX2_costsOf_25 ?_
        refine lv_iload hx hb dX2_costsOf_28 (lv_at hl 0 rfl) ?_
        refine xa_lald hx hb hK.1 hP 2 1 rfl rfl (j := i) rfl (by omega) (by decide) dX2_costsOf_30 ?_
        refine lv_ladd hx hb dX2_costsOf_31 ?_
        refine lv_lstore_n (lv' := [(2, .long ((sm (f_costsOf S set) i) + ((S_costs S) i))), (4, .int (nI i)), (0, .ref (a 1)), (1, .int set)]) hx hb dX2_costsOf_32 rfl hl (by decide) rfl (fun ls hl => ?_)
        refine lv_iinc (v := nI (i + 1)) (lv' := [(4, .int (nI (i + 1))), (2, .long ((sm (f_costsOf S set) i) + ((S_costs S) i))), (0, .ref (a 1)), (1, .int set)]) hx hb dX2_costsOf_33 hl (k := 1) rfl (nI_add i 1) (by decide) rfl (fun ls hl => ?_)
        refine lv_goto (tgt := 5) hx hb dX2_costsOf_36 (by decide) ?_
        have eb : bt set i = true := (hb1 set (by omega)).mp c_3
        have hq : ((sm (f_costsOf S set) i) + ((S_costs S) i)) = (sm (f_costsOf S set) (i + 1)) := by simp [sm, f_costsOf, eb]
        rw [hq] at hl
        exact ih_i (i + 1) (by omega) ls (lv_sub hl [0, 1, 2, 3] rfl)
  exact loop_i n 0 (by omega) ls (lv_sub hl [0, 1, 2, 3] rfl)

def w_X2_comesBefore (S : SeaT) (ca : Int32) (cb : Int32) (i : Nat) (j : Nat) : Int32 := if ((S_costs S) i) < ((S_costs S) j) then 1 else if ((S_costs S) i) = ((S_costs S) j) then if ca < cb then 1 else 0 else 0
set_option maxHeartbeats 4000000 in
set_option maxRecDepth 100000 in
theorem c_X2_comesBefore (l : Launch) (k : KT) (a : Nat → Nat) (S : SeaT) (T : TalT) (dr : Int64) (tr : Int64) (C : ChoT) (F : (Nat → Int32)) (G : GoT) (ca : Int32) (cb : Int32) (i j : Nat) (hi : i < 24) (hj : j < 24) (ei : ca = nI i) (ej : cb = nI j) : MR l yX2_comesBefore cX2_comesBefore 3 (some .boolean) (rz 0 0) k [.ref (a 1), .int ca, .int cb] (xW k a S T dr tr C F G) (.int (w_X2_comesBefore S ca cb i j)) := by
  refine Met.ofW (cc := cX2_comesBefore) (maxL := 3) (ret := (some .boolean)) (by decide) rfl ?_
  intro p e s m args below meth c s₁ B hml hv
  obtain ⟨rfl, hP, hK⟩ := hv
  have hx := B.exec
  have hb := B.bytes
  have hr := B.returns
  have hU : ∀ w ∈ wsL_law, w.before [.ref (a 1), .int ca, .int cb].toArray s = true := fun w h => atoms_spec (ws := Cond.code yX2_comesBefore cX2_comesBefore 3 (some .boolean) :: wsL_law) B.pre w (List.mem_cons_of_mem _ h)
  have hown : s.vm.findClass RX2 = some m.cls := findClass_of_methodNamed B.named
  have hlocks := B.notSynchronized
  have hF : CF p m c cX2_comesBefore 3 s [.ref (a 1), .int ca, .int cb].toArray RX2 := ⟨hx, hb, hml, hown, hU⟩
  have hl := lv_entry ([.ref (a 1), .int ca, .int cb] : List Value) (n := 3) (Nat.le_of_ble_eq_true rfl)
  rw [lg_entry_eq]
  generalize (lg_sl ([.ref (a 1), .int ca, .int cb] : List Value) ++ List.replicate (3 - (lg_sl ([.ref (a 1), .int ca, .int cb] : List Value)).length) Slot.unset).toArray = ls at hl ⊢
  have hl : lv_has ls 3 [(0, .ref (a 1)), (1, .int ca), (2, .int cb)] := hl
  refine lv_aload_n hx hb dX2_comesBefore_0 rfl (lv_at hl 0 rfl) ?_
  refine va_get (D := k.1) (ci := 2) (v := .ref (a 2)) (C := RX2) (T := TX2) (N := 16) hx hb hU inlX2 hown hK.1 hP 1 rfl rfl 0 (by decide) (hU _ uF_X2_9) (fun _ h9 => h9) rfl dX2_comesBefore_1 ?_
  refine lv_iload_n hx hb dX2_comesBefore_4 rfl (lv_at hl 1 rfl) ?_
  refine xa_lald hx hb hK.1 hP 2 1 rfl rfl (j := i) ei hi (by decide) dX2_comesBefore_5 ?_
  refine lv_aload_n hx hb dX2_comesBefore_6 rfl (lv_at hl 0 rfl) ?_
  refine va_get (D := k.1) (ci := 2) (v := .ref (a 2)) (C := RX2) (T := TX2) (N := 16) hx hb hU inlX2 hown hK.1 hP 1 rfl rfl 0 (by decide) (hU _ uF_X2_9) (fun _ h9 => h9) rfl dX2_comesBefore_7 ?_
  refine lv_iload_n hx hb dX2_comesBefore_10 rfl (lv_at hl 2 rfl) ?_
  refine xa_lald hx hb hK.1 hP 2 1 rfl rfl (j := j) ej hj (by decide) dX2_comesBefore_11 ?_
  refine xl_lt (tgt := 37) hx hb dX2_comesBefore_12 dX2_comesBefore_13 (by decide) (fun c_1 => ?_) (fun c_1 => ?_)
  · refine lv_iconst (v := 1) hx hb dX2_comesBefore_37 (by decide) ?_
    refine lv_goto (tgt := 42) hx hb dX2_comesBefore_38 (by decide) ?_
    exact W.zret (v := 1) hx hb hr rfl (fun t ht hW => ⟨by rw [w_X2_comesBefore, if_pos c_1], ht⟩) (fun q h => absurd h List.not_mem_nil) dX2_comesBefore_42
  · refine lv_aload_n hx hb dX2_comesBefore_16 rfl (lv_at hl 0 rfl) ?_
    refine va_get (D := k.1) (ci := 2) (v := .ref (a 2)) (C := RX2) (T := TX2) (N := 16) hx hb hU inlX2 hown hK.1 hP 1 rfl rfl 0 (by decide) (hU _ uF_X2_9) (fun _ h9 => h9) rfl dX2_comesBefore_17 ?_
    refine lv_iload_n hx hb dX2_comesBefore_20 rfl (lv_at hl 1 rfl) ?_
    refine xa_lald hx hb hK.1 hP 2 1 rfl rfl (j := i) ei hi (by decide) dX2_comesBefore_21 ?_
    refine lv_aload_n hx hb dX2_comesBefore_22 rfl (lv_at hl 0 rfl) ?_
    refine va_get (D := k.1) (ci := 2) (v := .ref (a 2)) (C := RX2) (T := TX2) (N := 16) hx hb hU inlX2 hown hK.1 hP 1 rfl rfl 0 (by decide) (hU _ uF_X2_9) (fun _ h9 => h9) rfl dX2_comesBefore_23 ?_
    refine lv_iload_n hx hb dX2_comesBefore_26 rfl (lv_at hl 2 rfl) ?_
    refine xa_lald hx hb hK.1 hP 2 1 rfl rfl (j := j) ej hj (by decide) dX2_comesBefore_27 ?_
    refine xl_ne (tgt := 41) hx hb dX2_comesBefore_28 dX2_comesBefore_29 (by decide) (fun c_2 => ?_) (fun c_2 => ?_)
    · refine lv_iconst (v := 0) hx hb dX2_comesBefore_41 (by decide) ?_
      exact W.zret (v := 0) hx hb hr rfl (fun t ht hW => ⟨by rw [w_X2_comesBefore, if_neg c_1, if_neg c_2], ht⟩) (fun q h => absurd h List.not_mem_nil) dX2_comesBefore_42
    · refine lv_iload_n hx hb dX2_comesBefore_32 rfl (lv_at hl 1 rfl) ?_
      refine lv_iload_n hx hb dX2_comesBefore_33 rfl (lv_at hl 2 rfl) ?_
      refine xb_ge (tgt := 41) hx hb dX2_comesBefore_34 (by decide) (fun c_3 => ?_) (fun c_3 => ?_)
      · refine lv_iconst (v := 0) hx hb dX2_comesBefore_41 (by decide) ?_
        exact W.zret (v := 0) hx hb hr rfl (fun t ht hW => ⟨by rw [w_X2_comesBefore, if_neg c_1, if_pos c_2, if_neg c_3], ht⟩) (fun q h => absurd h List.not_mem_nil) dX2_comesBefore_42
      · refine lv_iconst (v := 1) hx hb dX2_comesBefore_37 (by decide) ?_
        refine lv_goto (tgt := 42) hx hb dX2_comesBefore_38 (by decide) ?_
        exact W.zret (v := 1) hx hb hr rfl (fun t ht hW => ⟨by rw [w_X2_comesBefore, if_neg c_1, if_pos c_2, if_pos c_3], ht⟩) (fun q h => absurd h List.not_mem_nil) dX2_comesBefore_42

def w_X3_price (S : SeaT) (T : TalT) : Int64 := ((T_cellCosts T) + ((S_borderWeight S) * (T_borderLength T)))
set_option maxHeartbeats 4000000 in
set_option maxRecDepth 100000 in
theorem c_X3_price (l : Launch) (k : KT) (a : Nat → Nat) (S : SeaT) (T : TalT) (dr : Int64) (tr : Int64) (C : ChoT) (F : (Nat → Int32)) (G : GoT)   : MR l yX3_price cX3_price 1 (some .long) (rz 0 0) k [.ref (a 11)] (xW k a S T dr tr C F G) (.long (w_X3_price S T)) := by
  refine Met.ofW (cc := cX3_price) (maxL := 1) (ret := (some .long)) (by decide) rfl ?_
  intro p e s m args below meth c s₁ B hml hv
  obtain ⟨rfl, hP, hK⟩ := hv
  have hx := B.exec
  have hb := B.bytes
  have hr := B.returns
  have hU : ∀ w ∈ wsL_law, w.before [.ref (a 11)].toArray s = true := fun w h => atoms_spec (ws := Cond.code yX3_price cX3_price 1 (some .long) :: wsL_law) B.pre w (List.mem_cons_of_mem _ h)
  have hown : s.vm.findClass RX3 = some m.cls := findClass_of_methodNamed B.named
  have hlocks := B.notSynchronized
  have hF : CF p m c cX3_price 1 s [.ref (a 11)].toArray RX3 := ⟨hx, hb, hml, hown, hU⟩
  have hl := lv_entry ([.ref (a 11)] : List Value) (n := 1) (Nat.le_of_ble_eq_true rfl)
  rw [lg_entry_eq]
  generalize (lg_sl ([.ref (a 11)] : List Value) ++ List.replicate (1 - (lg_sl ([.ref (a 11)] : List Value)).length) Slot.unset).toArray = ls at hl ⊢
  have hl : lv_has ls 1 [(0, .ref (a 11))] := hl
  refine lv_aload_n hx hb dX3_price_0 rfl (lv_at hl 0 rfl) ?_
  refine va_get (D := k.1) (ci := 3) (v := .long (T_cellCosts T)) (C := RX3) (T := TX3) (N := 7) hx hb hU inlX3 hown hK.1 hP 11 rfl rfl 5 (by decide) (hU _ uF_X3_29) (fun _ h9 => h9) rfl dX3_price_1 ?_
  refine lv_aload_n hx hb dX3_price_4 rfl (lv_at hl 0 rfl) ?_
  refine va_get (D := k.1) (ci := 3) (v := .ref (a 1)) (C := RX3) (T := TX3) (N := 7) hx hb hU inlX3 hown hK.1 hP 11 rfl rfl 0 (by decide) (hU _ uF_X3_9) (fun _ h9 => h9) rfl dX3_price_5 ?_
  refine va_getN (D := k.1) (ci := 2) (v := .long (S_borderWeight S)) (C := RX2) (T := TX2) (N := 16) hx hb hU inlX2 hown hK.1 hP 1 rfl rfl 11 (by decide) (hK.nf nF_X3_69) (fun _ h9 => h9) rfl dX3_price_8 ?_
  refine lv_aload_n hx hb dX3_price_11 rfl (lv_at hl 0 rfl) ?_
  refine va_get (D := k.1) (ci := 3) (v := .long (T_borderLength T)) (C := RX3) (T := TX3) (N := 7) hx hb hU inlX3 hown hK.1 hP 11 rfl rfl 6 (by decide) (hU _ uF_X3_33) (fun _ h9 => h9) rfl dX3_price_12 ?_
  refine lv_lmul hx hb dX3_price_15 ?_
  refine lv_ladd hx hb dX3_price_16 ?_
  exact W.lret (v := ((T_cellCosts T) + ((S_borderWeight S) * (T_borderLength T)))) hx hb hr (fun t ht hW => ⟨by rw [w_X3_price], ht⟩) (fun q h => absurd h List.not_mem_nil) dX3_price_17

def w_X3_meetsGoal (S : SeaT) (T : TalT) (j : Nat) : Int32 := if (((T_amounts T) j) * ((S_goalBelow S) j)) < (((S_kindTotals S) j) * ((S_goalAbove S) j)) then 0 else 1
set_option maxHeartbeats 4000000 in
set_option maxRecDepth 100000 in
theorem c_X3_meetsGoal (l : Launch) (k : KT) (a : Nat → Nat) (S : SeaT) (T : TalT) (dr : Int64) (tr : Int64) (C : ChoT) (F : (Nat → Int32)) (G : GoT) (ki : Int32) (j : Nat) (hj : j < 8) (ej : ki = nI j) : MR l yX3_meetsGoal cX3_meetsGoal 2 (some .boolean) (rz 0 0) k [.ref (a 11), .int ki] (xW k a S T dr tr C F G) (.int (w_X3_meetsGoal S T j)) := by
  refine Met.ofW (cc := cX3_meetsGoal) (maxL := 2) (ret := (some .boolean)) (by decide) rfl ?_
  intro p e s m args below meth c s₁ B hml hv
  obtain ⟨rfl, hP, hK⟩ := hv
  have hx := B.exec
  have hb := B.bytes
  have hr := B.returns
  have hU : ∀ w ∈ wsL_law, w.before [.ref (a 11), .int ki].toArray s = true := fun w h => atoms_spec (ws := Cond.code yX3_meetsGoal cX3_meetsGoal 2 (some .boolean) :: wsL_law) B.pre w (List.mem_cons_of_mem _ h)
  have hown : s.vm.findClass RX3 = some m.cls := findClass_of_methodNamed B.named
  have hlocks := B.notSynchronized
  have hF : CF p m c cX3_meetsGoal 2 s [.ref (a 11), .int ki].toArray RX3 := ⟨hx, hb, hml, hown, hU⟩
  have hl := lv_entry ([.ref (a 11), .int ki] : List Value) (n := 2) (Nat.le_of_ble_eq_true rfl)
  rw [lg_entry_eq]
  generalize (lg_sl ([.ref (a 11), .int ki] : List Value) ++ List.replicate (2 - (lg_sl ([.ref (a 11), .int ki] : List Value)).length) Slot.unset).toArray = ls at hl ⊢
  have hl : lv_has ls 2 [(0, .ref (a 11)), (1, .int ki)] := hl
  refine lv_aload_n hx hb dX3_meetsGoal_0 rfl (lv_at hl 0 rfl) ?_
  refine va_get (D := k.1) (ci := 3) (v := .ref (a 12)) (C := RX3) (T := TX3) (N := 7) hx hb hU inlX3 hown hK.1 hP 11 rfl rfl 1 (by decide) (hU _ uF_X3_15) (fun _ h9 => h9) rfl dX3_meetsGoal_1 ?_
  refine lv_iload_n hx hb dX3_meetsGoal_4 rfl (lv_at hl 1 rfl) ?_
  refine xa_lald hx hb hK.1 hP 12 1 rfl rfl (j := j) ej hj (by decide) dX3_meetsGoal_5 ?_
  refine lv_aload_n hx hb dX3_meetsGoal_6 rfl (lv_at hl 0 rfl) ?_
  refine va_get (D := k.1) (ci := 3) (v := .ref (a 1)) (C := RX3) (T := TX3) (N := 7) hx hb hU inlX3 hown hK.1 hP 11 rfl rfl 0 (by decide) (hU _ uF_X3_9) (fun _ h9 => h9) rfl dX3_meetsGoal_7 ?_
  refine va_getN (D := k.1) (ci := 2) (v := .ref (a 10)) (C := RX2) (T := TX2) (N := 16) hx hb hU inlX2 hown hK.1 hP 1 rfl rfl 8 (by decide) (hK.nf nF_X3_92) (fun _ h9 => h9) rfl dX3_meetsGoal_10 ?_
  refine lv_iload_n hx hb dX3_meetsGoal_13 rfl (lv_at hl 1 rfl) ?_
  refine xa_lald hx hb hK.1 hP 10 1 rfl rfl (j := j) ej hj (by decide) dX3_meetsGoal_14 ?_
  refine lv_lmul hx hb dX3_meetsGoal_15 ?_
  refine lv_aload_n hx hb dX3_meetsGoal_16 rfl (lv_at hl 0 rfl) ?_
  refine va_get (D := k.1) (ci := 3) (v := .ref (a 1)) (C := RX3) (T := TX3) (N := 7) hx hb hU inlX3 hown hK.1 hP 11 rfl rfl 0 (by decide) (hU _ uF_X3_9) (fun _ h9 => h9) rfl dX3_meetsGoal_17 ?_
  refine va_getN (D := k.1) (ci := 2) (v := .ref (a 7)) (C := RX2) (T := TX2) (N := 16) hx hb hU inlX2 hown hK.1 hP 1 rfl rfl 5 (by decide) (hK.nf nF_X3_95) (fun _ h9 => h9) rfl dX3_meetsGoal_20 ?_
  refine lv_iload_n hx hb dX3_meetsGoal_23 rfl (lv_at hl 1 rfl) ?_
  refine xa_lald hx hb hK.1 hP 7 1 rfl rfl (j := j) ej hj (by decide) dX3_meetsGoal_24 ?_
  refine lv_aload_n hx hb dX3_meetsGoal_25 rfl (lv_at hl 0 rfl) ?_
  refine va_get (D := k.1) (ci := 3) (v := .ref (a 1)) (C := RX3) (T := TX3) (N := 7) hx hb hU inlX3 hown hK.1 hP 11 rfl rfl 0 (by decide) (hU _ uF_X3_9) (fun _ h9 => h9) rfl dX3_meetsGoal_26 ?_
  refine va_getN (D := k.1) (ci := 2) (v := .ref (a 9)) (C := RX2) (T := TX2) (N := 16) hx hb hU inlX2 hown hK.1 hP 1 rfl rfl 7 (by decide) (hK.nf nF_X3_98) (fun _ h9 => h9) rfl dX3_meetsGoal_29 ?_
  refine lv_iload_n hx hb dX3_meetsGoal_32 rfl (lv_at hl 1 rfl) ?_
  refine xa_lald hx hb hK.1 hP 9 1 rfl rfl (j := j) ej hj (by decide) dX3_meetsGoal_33 ?_
  refine lv_lmul hx hb dX3_meetsGoal_34 ?_
  refine xl_lt (tgt := 43) hx hb dX3_meetsGoal_35 dX3_meetsGoal_36 (by decide) (fun c_1 => ?_) (fun c_1 => ?_)
  · refine lv_iconst (v := 0) hx hb dX3_meetsGoal_43 (by decide) ?_
    exact W.zret (v := 0) hx hb hr rfl (fun t ht hW => ⟨by rw [w_X3_meetsGoal, if_pos c_1], ht⟩) (fun q h => absurd h List.not_mem_nil) dX3_meetsGoal_44
  · refine lv_iconst (v := 1) hx hb dX3_meetsGoal_39 (by decide) ?_
    refine lv_goto (tgt := 44) hx hb dX3_meetsGoal_40 (by decide) ?_
    exact W.zret (v := 1) hx hb hr rfl (fun t ht hW => ⟨by rw [w_X3_meetsGoal, if_neg c_1], ht⟩) (fun q h => absurd h List.not_mem_nil) dX3_meetsGoal_44

def w_X3_meetsGoals (S : SeaT) (T : TalT) : Int32 := if al (fun j => decide (¬ w_X3_meetsGoal S T j = 0)) 8 = true then 1 else 0
set_option maxHeartbeats 4000000 in
set_option maxRecDepth 100000 in
theorem c_X3_meetsGoals (l : Launch) (k : KT) (a : Nat → Nat) (S : SeaT) (T : TalT) (dr : Int64) (tr : Int64) (C : ChoT) (F : (Nat → Int32)) (G : GoT)   : MR l yX3_meetsGoals cX3_meetsGoals 2 (some .boolean) (rz 1 21) k [.ref (a 11)] (xW k a S T dr tr C F G) (.int (w_X3_meetsGoals S T)) := by
  refine Met.ofW (cc := cX3_meetsGoals) (maxL := 2) (ret := (some .boolean)) (by decide) rfl ?_
  intro p e s m args below meth c s₁ B hml hv
  obtain ⟨rfl, hP, hK⟩ := hv
  have hx := B.exec
  have hb := B.bytes
  have hr := B.returns
  have hU : ∀ w ∈ wsL_law, w.before [.ref (a 11)].toArray s = true := fun w h => atoms_spec (ws := Cond.code yX3_meetsGoals cX3_meetsGoals 2 (some .boolean) :: wsL_law) B.pre w (List.mem_cons_of_mem _ h)
  have hown : s.vm.findClass RX3 = some m.cls := findClass_of_methodNamed B.named
  have hlocks := B.notSynchronized
  have hF : CF p m c cX3_meetsGoals 2 s [.ref (a 11)].toArray RX3 := ⟨hx, hb, hml, hown, hU⟩
  have hl := lv_entry ([.ref (a 11)] : List Value) (n := 2) (Nat.le_of_ble_eq_true rfl)
  rw [lg_entry_eq]
  generalize (lg_sl ([.ref (a 11)] : List Value) ++ List.replicate (2 - (lg_sl ([.ref (a 11)] : List Value)).length) Slot.unset).toArray = ls at hl ⊢
  have hl : lv_has ls 2 [(0, .ref (a 11))] := hl
  refine lv_iconst (v := 0) hx hb dX3_meetsGoals_0 (by decide) ?_
  refine lv_istore_n (lv' := [(1, .int 0), (0, .ref (a 11))]) hx hb dX3_meetsGoals_1 rfl hl (by decide) rfl (fun ls hl => ?_)
  have loop_i : ∀ (ri i : Nat), i + ri * 1 = 8 → ∀ (ls : Array Slot) , lv_has ls 2 [(1, .int (nI i)), (0, .ref (a 11))] → (∀ j, j < i → ¬ w_X3_meetsGoal S T j = 0) → WR p l e s m below meth c yX3_meetsGoals cX3_meetsGoals 2 (some .boolean) (rz 1 21) [.ref (a 11)] (.int (w_X3_meetsGoals S T)) (F0 m 2 ls []) := by
    intro ri
    induction ri with
    | zero =>
      intro i hi_i ls hl hv_i
      have he_i : 8 = i := by omega
      subst he_i
      refine lv_iload_n hx hb dX3_meetsGoals_2 rfl (lv_at hl 0 rfl) ?_
      refine lv_bipush (v := 8) hx hb dX3_meetsGoals_3 (by decide) ?_
      refine xb_ge (tgt := 24) hx hb dX3_meetsGoals_5 (by decide) (fun c_1 => ?_) (fun c9 => absurd c9 (nI_nlt (a := 8) (b := 8) (Nat.le_refl _) (by omega)))
      refine lv_iconst (v := 1) hx hb dX3_meetsGoals_24 (by decide) ?_
      exact W.zret (v := 1) hx hb hr rfl (fun t ht hW => ⟨by rw [w_X3_meetsGoals, if_pos (al_iff.mpr (fun j hj => decide_eq_true (hv_i j hj)))], ht⟩) (fun q h => absurd h List.not_mem_nil) dX3_meetsGoals_25
    | succ ri ih_i =>
      intro i hi_i ls hl hv_i
      have ht_i : i < 8 := by omega
      refine lv_iload_n hx hb dX3_meetsGoals_2 rfl (lv_at hl 0 rfl) ?_
      refine lv_bipush (v := 8) hx hb dX3_meetsGoals_3 (by decide) ?_
      refine xb_ge (tgt := 24) hx hb dX3_meetsGoals_5 (by decide) (fun c9 => absurd (nI_lt (a := i) (b := 8) (by omega) (by omega)) c9) (fun c_2 => ?_)
      refine lv_aload_n hx hb dX3_meetsGoals_8 rfl (lv_at hl 1 rfl) ?_
      refine lv_iload_n hx hb dX3_meetsGoals_9 rfl (lv_at hl 0 rfl) ?_
      refine rcV (n := 1) (As := [.int (nI i)]) (rest := []) hF (c_X3_meetsGoal l k a S T dr tr C F G (nI i) i (by omega) rfl) (hP) hK 11 (ci := 3) rfl rfl rfl uC_X3_meetsGoal uN_X3 uM_X3_88 uI_X3_meetsGoal uE_X3_meetsGoal (by decide +kernel) rfl ⟨Nat.le_of_ble_eq_true rfl, Nat.le_of_ble_eq_true rfl⟩ ⟨Nat.zero_le _, Nat.zero_le _⟩ hl.1 rfl (Nat.le_of_ble_eq_true rfl) dX3_meetsGoals_10 ?_
      refine lv_if_ne (tgt := 18) hx hb dX3_meetsGoals_13 (by decide) (fun c_3 => ?_) (fun c_3 => ?_)
      · refine lv_iinc (v := nI (i + 1)) (lv' := [(1, .int (nI (i + 1))), (0, .ref (a 11))]) hx hb dX3_meetsGoals_18 hl (k := 0) rfl (nI_add i 1) (by decide) rfl (fun ls hl => ?_)
        refine lv_goto (tgt := 2) hx hb dX3_meetsGoals_21 (by decide) ?_
        exact ih_i (i + 1) (by omega) ls (lv_sub hl [0, 1] rfl) (lt_s hv_i c_3)
      · refine lv_iconst (v := 0) hx hb dX3_meetsGoals_16 (by decide) ?_
        exact W.zret (v := 0) hx hb hr rfl (fun t ht hW => ⟨by rw [w_X3_meetsGoals, if_neg (by rw [al_not ht_i (by simp [c_3])]; decide)], ht⟩) (fun q h => absurd h List.not_mem_nil) dX3_meetsGoals_17
  exact loop_i 8 0 (by omega) ls (lv_sub hl [0, 1] rfl) (fun j h => absurd h (Nat.not_lt_zero j))

def w_X3_isFair (S : SeaT) (T : TalT) : Int32 := if al (fun j => decide (¬ (S_portTotals S j * S_fairAbove S) < (T_hours T j * S_fairBelow S))) 4 = true then 1 else 0
set_option maxHeartbeats 4000000 in
set_option maxRecDepth 100000 in
theorem c_X3_isFair (l : Launch) (k : KT) (a : Nat → Nat) (S : SeaT) (T : TalT) (dr : Int64) (tr : Int64) (C : ChoT) (F : (Nat → Int32)) (G : GoT)   : MR l yX3_isFair cX3_isFair 2 (some .boolean) (rz 0 0) k [.ref (a 11)] (xW k a S T dr tr C F G) (.int (w_X3_isFair S T)) := by
  refine Met.ofW (cc := cX3_isFair) (maxL := 2) (ret := (some .boolean)) (by decide) rfl ?_
  intro p e s m args below meth c s₁ B hml hv
  obtain ⟨rfl, hP, hK⟩ := hv
  have hx := B.exec
  have hb := B.bytes
  have hr := B.returns
  have hU : ∀ w ∈ wsL_law, w.before [.ref (a 11)].toArray s = true := fun w h => atoms_spec (ws := Cond.code yX3_isFair cX3_isFair 2 (some .boolean) :: wsL_law) B.pre w (List.mem_cons_of_mem _ h)
  have hown : s.vm.findClass RX3 = some m.cls := findClass_of_methodNamed B.named
  have hlocks := B.notSynchronized
  have hF : CF p m c cX3_isFair 2 s [.ref (a 11)].toArray RX3 := ⟨hx, hb, hml, hown, hU⟩
  have hl := lv_entry ([.ref (a 11)] : List Value) (n := 2) (Nat.le_of_ble_eq_true rfl)
  rw [lg_entry_eq]
  generalize (lg_sl ([.ref (a 11)] : List Value) ++ List.replicate (2 - (lg_sl ([.ref (a 11)] : List Value)).length) Slot.unset).toArray = ls at hl ⊢
  have hl : lv_has ls 2 [(0, .ref (a 11))] := hl
  refine lv_iconst (v := 0) hx hb dX3_isFair_0 (by decide) ?_
  refine lv_istore_n (lv' := [(1, .int 0), (0, .ref (a 11))]) hx hb dX3_isFair_1 rfl hl (by decide) rfl (fun ls hl => ?_)
  have loop_i : ∀ (ri i : Nat), i + ri * 1 = 4 → ∀ (ls : Array Slot) , lv_has ls 2 [(1, .int (nI i)), (0, .ref (a 11))] → (∀ j, j < i → ¬ (S_portTotals S j * S_fairAbove S) < (T_hours T j * S_fairBelow S)) → WR p l e s m below meth c yX3_isFair cX3_isFair 2 (some .boolean) (rz 0 0) [.ref (a 11)] (.int (w_X3_isFair S T)) (F0 m 2 ls []) := by
    intro ri
    induction ri with
    | zero =>
      intro i hi_i ls hl hv_i
      have he_i : 4 = i := by omega
      subst he_i
      refine lv_iload_n hx hb dX3_isFair_2 rfl (lv_at hl 0 rfl) ?_
      refine lv_iconst (v := 4) hx hb dX3_isFair_3 (by decide) ?_
      refine xb_ge (tgt := 50) hx hb dX3_isFair_4 (by decide) (fun c_1 => ?_) (fun c9 => absurd c9 (nI_nlt (a := 4) (b := 4) (Nat.le_refl _) (by omega)))
      refine lv_iconst (v := 1) hx hb dX3_isFair_50 (by decide) ?_
      exact W.zret (v := 1) hx hb hr rfl (fun t ht hW => ⟨by rw [w_X3_isFair, if_pos (al_iff.mpr (fun j hj => decide_eq_true (hv_i j hj)))], ht⟩) (fun q h => absurd h List.not_mem_nil) dX3_isFair_51
    | succ ri ih_i =>
      intro i hi_i ls hl hv_i
      have ht_i : i < 4 := by omega
      refine lv_iload_n hx hb dX3_isFair_2 rfl (lv_at hl 0 rfl) ?_
      refine lv_iconst (v := 4) hx hb dX3_isFair_3 (by decide) ?_
      refine xb_ge (tgt := 50) hx hb dX3_isFair_4 (by decide) (fun c9 => absurd (nI_lt (a := i) (b := 4) (by omega) (by omega)) c9) (fun c_2 => ?_)
      refine lv_aload_n hx hb dX3_isFair_7 rfl (lv_at hl 1 rfl) ?_
      refine va_get (D := k.1) (ci := 3) (v := .ref (a 13)) (C := RX3) (T := TX3) (N := 7) hx hb hU inlX3 hown hK.1 hP 11 rfl rfl 2 (by decide) (hU _ uF_X3_19) (fun _ h9 => h9) rfl dX3_isFair_8 ?_
      refine lv_iload_n hx hb dX3_isFair_11 rfl (lv_at hl 0 rfl) ?_
      refine xa_lald hx hb hK.1 hP 13 1 rfl rfl (j := i) rfl (by omega) (by decide) dX3_isFair_12 ?_
      refine lv_aload_n hx hb dX3_isFair_13 rfl (lv_at hl 1 rfl) ?_
      refine va_get (D := k.1) (ci := 3) (v := .ref (a 1)) (C := RX3) (T := TX3) (N := 7) hx hb hU inlX3 hown hK.1 hP 11 rfl rfl 0 (by decide) (hU _ uF_X3_9) (fun _ h9 => h9) rfl dX3_isFair_14 ?_
      refine va_getN (D := k.1) (ci := 2) (v := .long (S_fairBelow S)) (C := RX2) (T := TX2) (N := 16) hx hb hU inlX2 hown hK.1 hP 1 rfl rfl 10 (by decide) (hK.nf nF_X3_101) (fun _ h9 => h9) rfl dX3_isFair_17 ?_
      refine lv_lmul hx hb dX3_isFair_20 ?_
      refine lv_aload_n hx hb dX3_isFair_21 rfl (lv_at hl 1 rfl) ?_
      refine va_get (D := k.1) (ci := 3) (v := .ref (a 1)) (C := RX3) (T := TX3) (N := 7) hx hb hU inlX3 hown hK.1 hP 11 rfl rfl 0 (by decide) (hU _ uF_X3_9) (fun _ h9 => h9) rfl dX3_isFair_22 ?_
      refine va_getN (D := k.1) (ci := 2) (v := .ref (a 8)) (C := RX2) (T := TX2) (N := 16) hx hb hU inlX2 hown hK.1 hP 1 rfl rfl 6 (by decide) (hK.nf nF_X3_104) (fun _ h9 => h9) rfl dX3_isFair_25 ?_
      refine lv_iload_n hx hb dX3_isFair_28 rfl (lv_at hl 0 rfl) ?_
      refine xa_lald hx hb hK.1 hP 8 1 rfl rfl (j := i) rfl (by omega) (by decide) dX3_isFair_29 ?_
      refine lv_aload_n hx hb dX3_isFair_30 rfl (lv_at hl 1 rfl) ?_
      refine va_get (D := k.1) (ci := 3) (v := .ref (a 1)) (C := RX3) (T := TX3) (N := 7) hx hb hU inlX3 hown hK.1 hP 11 rfl rfl 0 (by decide) (hU _ uF_X3_9) (fun _ h9 => h9) rfl dX3_isFair_31 ?_
      refine va_getN (D := k.1) (ci := 2) (v := .long (S_fairAbove S)) (C := RX2) (T := TX2) (N := 16) hx hb hU inlX2 hown hK.1 hP 1 rfl rfl 9 (by decide) (hK.nf nF_X3_107) (fun _ h9 => h9) rfl dX3_isFair_34 ?_
      refine lv_lmul hx hb dX3_isFair_37 ?_
      refine xl_le (tgt := 44) hx hb dX3_isFair_38 dX3_isFair_39 (by decide) (fun c_3 => ?_) (fun c_3 => ?_)
      · refine lv_iinc (v := nI (i + 1)) (lv' := [(1, .int (nI (i + 1))), (0, .ref (a 11))]) hx hb dX3_isFair_44 hl (k := 0) rfl (nI_add i 1) (by decide) rfl (fun ls hl => ?_)
        refine lv_goto (tgt := 2) hx hb dX3_isFair_47 (by decide) ?_
        exact ih_i (i + 1) (by omega) ls (lv_sub hl [0, 1] rfl) (lt_s hv_i c_3)
      · refine lv_iconst (v := 0) hx hb dX3_isFair_42 (by decide) ?_
        exact W.zret (v := 0) hx hb hr rfl (fun t ht hW => ⟨by rw [w_X3_isFair, if_neg (by rw [al_not ht_i (by simp [c_3])]; decide)], ht⟩) (fun q h => absurd h List.not_mem_nil) dX3_isFair_43
  exact loop_i 4 0 (by omega) ls (lv_sub hl [0, 1] rfl) (fun j h => absurd h (Nat.not_lt_zero j))

def w_X3_stands (S : SeaT) (T : TalT) : Int32 := if ((S_needed S) &&& ((T_cells T) ^^^ (-1))) = 0 then if ((S_barred S) &&& (T_cells T)) = 0 then if (w_bitCount (T_cells T)) < (S_fewest S) then 0 else if (T_farPairs T) = 0 then if (w_X3_meetsGoals S T) = 0 then 0 else if (w_X3_isFair S T) = 0 then 0 else 1 else 0 else 0 else 0
set_option maxHeartbeats 4000000 in
set_option maxRecDepth 100000 in
theorem c_X3_stands (l : Launch) (k : KT) (a : Nat → Nat) (S : SeaT) (T : TalT) (dr : Int64) (tr : Int64) (C : ChoT) (F : (Nat → Int32)) (G : GoT)   : MR l yX3_stands cX3_stands 1 (some .boolean) (rz 2 42) k [.ref (a 11)] (xW k a S T dr tr C F G) (.int (w_X3_stands S T)) := by
  refine Met.ofW (cc := cX3_stands) (maxL := 1) (ret := (some .boolean)) (by decide) rfl ?_
  intro p e s m args below meth c s₁ B hml hv
  obtain ⟨rfl, hP, hK⟩ := hv
  have hx := B.exec
  have hb := B.bytes
  have hr := B.returns
  have hU : ∀ w ∈ wsL_law, w.before [.ref (a 11)].toArray s = true := fun w h => atoms_spec (ws := Cond.code yX3_stands cX3_stands 1 (some .boolean) :: wsL_law) B.pre w (List.mem_cons_of_mem _ h)
  have hown : s.vm.findClass RX3 = some m.cls := findClass_of_methodNamed B.named
  have hlocks := B.notSynchronized
  have hF : CF p m c cX3_stands 1 s [.ref (a 11)].toArray RX3 := ⟨hx, hb, hml, hown, hU⟩
  have hl := lv_entry ([.ref (a 11)] : List Value) (n := 1) (Nat.le_of_ble_eq_true rfl)
  rw [lg_entry_eq]
  generalize (lg_sl ([.ref (a 11)] : List Value) ++ List.replicate (1 - (lg_sl ([.ref (a 11)] : List Value)).length) Slot.unset).toArray = ls at hl ⊢
  have hl : lv_has ls 1 [(0, .ref (a 11))] := hl
  refine lv_aload_n hx hb dX3_stands_0 rfl (lv_at hl 0 rfl) ?_
  refine va_get (D := k.1) (ci := 3) (v := .ref (a 1)) (C := RX3) (T := TX3) (N := 7) hx hb hU inlX3 hown hK.1 hP 11 rfl rfl 0 (by decide) (hU _ uF_X3_9) (fun _ h9 => h9) rfl dX3_stands_1 ?_
  refine va_getN (D := k.1) (ci := 2) (v := .int (S_needed S)) (C := RX2) (T := TX2) (N := 16) hx hb hU inlX2 hown hK.1 hP 1 rfl rfl 13 (by decide) (hK.nf nF_X3_72) (fun _ h9 => h9) rfl dX3_stands_4 ?_
  refine lv_aload_n hx hb dX3_stands_7 rfl (lv_at hl 0 rfl) ?_
  refine va_get (D := k.1) (ci := 3) (v := .int (T_cells T)) (C := RX3) (T := TX3) (N := 7) hx hb hU inlX3 hown hK.1 hP 11 rfl rfl 3 (by decide) (hU _ uF_X3_22) (fun _ h9 => h9) rfl dX3_stands_8 ?_
  refine lv_iconst (v := (-1)) hx hb dX3_stands_11 (by decide) ?_
  refine lv_ixor hx hb dX3_stands_12 ?_
  refine lv_iand hx hb dX3_stands_13 ?_
  refine lv_if_ne (tgt := 74) hx hb dX3_stands_14 (by decide) (fun c_1 => ?_) (fun c_1 => ?_)
  · refine lv_iconst (v := 0) hx hb dX3_stands_74 (by decide) ?_
    exact W.zret (v := 0) hx hb hr rfl (fun t ht hW => ⟨by rw [w_X3_stands, if_neg c_1], ht⟩) (fun q h => absurd h List.not_mem_nil) dX3_stands_75
  · refine lv_aload_n hx hb dX3_stands_17 rfl (lv_at hl 0 rfl) ?_
    refine va_get (D := k.1) (ci := 3) (v := .ref (a 1)) (C := RX3) (T := TX3) (N := 7) hx hb hU inlX3 hown hK.1 hP 11 rfl rfl 0 (by decide) (hU _ uF_X3_9) (fun _ h9 => h9) rfl dX3_stands_18 ?_
    refine va_getN (D := k.1) (ci := 2) (v := .int (S_barred S)) (C := RX2) (T := TX2) (N := 16) hx hb hU inlX2 hown hK.1 hP 1 rfl rfl 14 (by decide) (hK.nf nF_X3_75) (fun _ h9 => h9) rfl dX3_stands_21 ?_
    refine lv_aload_n hx hb dX3_stands_24 rfl (lv_at hl 0 rfl) ?_
    refine va_get (D := k.1) (ci := 3) (v := .int (T_cells T)) (C := RX3) (T := TX3) (N := 7) hx hb hU inlX3 hown hK.1 hP 11 rfl rfl 3 (by decide) (hU _ uF_X3_22) (fun _ h9 => h9) rfl dX3_stands_25 ?_
    refine lv_iand hx hb dX3_stands_28 ?_
    refine lv_if_ne (tgt := 74) hx hb dX3_stands_29 (by decide) (fun c_2 => ?_) (fun c_2 => ?_)
    · refine lv_iconst (v := 0) hx hb dX3_stands_74 (by decide) ?_
      exact W.zret (v := 0) hx hb hr rfl (fun t ht hW => ⟨by rw [w_X3_stands, if_pos c_1, if_neg c_2], ht⟩) (fun q h => absurd h List.not_mem_nil) dX3_stands_75
    · refine lv_aload_n hx hb dX3_stands_32 rfl (lv_at hl 0 rfl) ?_
      refine va_get (D := k.1) (ci := 3) (v := .int (T_cells T)) (C := RX3) (T := TX3) (N := 7) hx hb hU inlX3 hown hK.1 hP 11 rfl rfl 3 (by decide) (hU _ uF_X3_22) (fun _ h9 => h9) rfl dX3_stands_33 ?_
      refine rcS (n := 1) (As := [.int (T_cells T)]) (rest := []) hF (c_J6_bitCount_0f7a4 l k (T_cells T)) (hP.sub (ws' := []) [] rfl) hK uC_J6_bitCount_0f7a4 uN_J6 uM_X3_51 uS_J6_bitCount_0f7a4 (by decide +kernel) rfl ⟨Nat.le_of_ble_eq_true rfl, Nat.le_of_ble_eq_true rfl⟩ ⟨Nat.zero_le _, Nat.zero_le _⟩ hl.1 rfl (Nat.le_of_ble_eq_true rfl) dX3_stands_36 ?_
      refine lv_aload_n hx hb dX3_stands_39 rfl (lv_at hl 0 rfl) ?_
      refine va_get (D := k.1) (ci := 3) (v := .ref (a 1)) (C := RX3) (T := TX3) (N := 7) hx hb hU inlX3 hown hK.1 hP 11 rfl rfl 0 (by decide) (hU _ uF_X3_9) (fun _ h9 => h9) rfl dX3_stands_40 ?_
      refine va_getN (D := k.1) (ci := 2) (v := .int (S_fewest S)) (C := RX2) (T := TX2) (N := 16) hx hb hU inlX2 hown hK.1 hP 1 rfl rfl 15 (by decide) (hK.nf nF_X3_78) (fun _ h9 => h9) rfl dX3_stands_43 ?_
      refine xb_lt (tgt := 74) hx hb dX3_stands_46 (by decide) (fun c_3 => ?_) (fun c_3 => ?_)
      · refine lv_iconst (v := 0) hx hb dX3_stands_74 (by decide) ?_
        exact W.zret (v := 0) hx hb hr rfl (fun t ht hW => ⟨by rw [w_X3_stands, if_pos c_1, if_pos c_2, if_pos c_3], ht⟩) (fun q h => absurd h List.not_mem_nil) dX3_stands_75
      · refine lv_aload_n hx hb dX3_stands_49 rfl (lv_at hl 0 rfl) ?_
        refine va_get (D := k.1) (ci := 3) (v := .int (T_farPairs T)) (C := RX3) (T := TX3) (N := 7) hx hb hU inlX3 hown hK.1 hP 11 rfl rfl 4 (by decide) (hU _ uF_X3_26) (fun _ h9 => h9) rfl dX3_stands_50 ?_
        refine lv_if_ne (tgt := 74) hx hb dX3_stands_53 (by decide) (fun c_4 => ?_) (fun c_4 => ?_)
        · refine lv_iconst (v := 0) hx hb dX3_stands_74 (by decide) ?_
          exact W.zret (v := 0) hx hb hr rfl (fun t ht hW => ⟨by rw [w_X3_stands, if_pos c_1, if_pos c_2, if_neg c_3, if_neg c_4], ht⟩) (fun q h => absurd h List.not_mem_nil) dX3_stands_75
        · refine lv_aload_n hx hb dX3_stands_56 rfl (lv_at hl 0 rfl) ?_
          refine rcV (n := 0) (As := []) (rest := []) hF (c_X3_meetsGoals l k a S T dr tr C F G  ) (hP) hK 11 (ci := 3) rfl rfl rfl uC_X3_meetsGoals uN_X3 uM_X3_81 uI_X3_meetsGoals uE_X3_meetsGoals (by decide +kernel) rfl ⟨Nat.le_of_ble_eq_true rfl, Nat.le_of_ble_eq_true rfl⟩ ⟨Nat.zero_le _, Nat.zero_le _⟩ hl.1 rfl (Nat.le_of_ble_eq_true rfl) dX3_stands_57 ?_
          refine lv_if_eq (tgt := 74) hx hb dX3_stands_60 (by decide) (fun c_5 => ?_) (fun c_5 => ?_)
          · refine lv_iconst (v := 0) hx hb dX3_stands_74 (by decide) ?_
            exact W.zret (v := 0) hx hb hr rfl (fun t ht hW => ⟨by rw [w_X3_stands, if_pos c_1, if_pos c_2, if_neg c_3, if_pos c_4, if_pos c_5], ht⟩) (fun q h => absurd h List.not_mem_nil) dX3_stands_75
          · refine lv_aload_n hx hb dX3_stands_63 rfl (lv_at hl 0 rfl) ?_
            refine rcV (n := 0) (As := []) (rest := []) hF (c_X3_isFair l k a S T dr tr C F G  ) (hP) hK 11 (ci := 3) rfl rfl rfl uC_X3_isFair uN_X3 uM_X3_85 uI_X3_isFair uE_X3_isFair (by decide +kernel) rfl ⟨Nat.le_of_ble_eq_true rfl, Nat.le_of_ble_eq_true rfl⟩ ⟨Nat.zero_le _, Nat.zero_le _⟩ hl.1 rfl (Nat.le_of_ble_eq_true rfl) dX3_stands_64 ?_
            refine lv_if_eq (tgt := 74) hx hb dX3_stands_67 (by decide) (fun c_6 => ?_) (fun c_6 => ?_)
            · refine lv_iconst (v := 0) hx hb dX3_stands_74 (by decide) ?_
              exact W.zret (v := 0) hx hb hr rfl (fun t ht hW => ⟨by rw [w_X3_stands, if_pos c_1, if_pos c_2, if_neg c_3, if_pos c_4, if_neg c_5, if_pos c_6], ht⟩) (fun q h => absurd h List.not_mem_nil) dX3_stands_75
            · refine lv_iconst (v := 1) hx hb dX3_stands_70 (by decide) ?_
              refine lv_goto (tgt := 75) hx hb dX3_stands_71 (by decide) ?_
              exact W.zret (v := 1) hx hb hr rfl (fun t ht hW => ⟨by rw [w_X3_stands, if_pos c_1, if_pos c_2, if_neg c_3, if_pos c_4, if_neg c_5, if_neg c_6], ht⟩) (fun q h => absurd h List.not_mem_nil) dX3_stands_75

def f_bg (S : SeaT) (j : Nat) (oth : Int32) : Nat → Int64 := fun b => if bt oth b then -(S_borders S (j * 24 + b)) else S_borders S (j * 24 + b)
set_option maxHeartbeats 4000000 in
set_option maxRecDepth 100000 in
theorem c_X3_borderGainedBy (l : Launch) (k : KT) (a : Nat → Nat) (S : SeaT) (T : TalT) (dr : Int64) (tr : Int64) (C : ChoT) (F : (Nat → Int32)) (G : GoT) (ce : Int32) (oth : Int32) (n : Nat) (hn : n ≤ 24) (hc : S_cells S = nI n) (j : Nat) (hj : j < 24) (ej : ce = nI j) : MR l yX3_borderGainedBy cX3_borderGainedBy 8 (some .long) (rz 1 21) k [.ref (a 11), .int ce, .int oth] (xW k a S T dr tr C F G) (.long (sm (f_bg S j oth) n)) := by
  refine Met.ofW (cc := cX3_borderGainedBy) (maxL := 8) (ret := (some .long)) (by decide) rfl ?_
  intro p e s m args below meth c s₁ B hml hv
  obtain ⟨rfl, hP, hK⟩ := hv
  have hx := B.exec
  have hb := B.bytes
  have hr := B.returns
  have hU : ∀ w ∈ wsL_law, w.before [.ref (a 11), .int ce, .int oth].toArray s = true := fun w h => atoms_spec (ws := Cond.code yX3_borderGainedBy cX3_borderGainedBy 8 (some .long) :: wsL_law) B.pre w (List.mem_cons_of_mem _ h)
  have hown : s.vm.findClass RX3 = some m.cls := findClass_of_methodNamed B.named
  have hlocks := B.notSynchronized
  have hF : CF p m c cX3_borderGainedBy 8 s [.ref (a 11), .int ce, .int oth].toArray RX3 := ⟨hx, hb, hml, hown, hU⟩
  have hl := lv_entry ([.ref (a 11), .int ce, .int oth] : List Value) (n := 8) (Nat.le_of_ble_eq_true rfl)
  rw [lg_entry_eq]
  generalize (lg_sl ([.ref (a 11), .int ce, .int oth] : List Value) ++ List.replicate (8 - (lg_sl ([.ref (a 11), .int ce, .int oth] : List Value)).length) Slot.unset).toArray = ls at hl ⊢
  have hl : lv_has ls 8 [(0, .ref (a 11)), (1, .int ce), (2, .int oth)] := hl
  refine lv_lconst (v := 0) hx hb dX3_borderGainedBy_0 (by decide) ?_
  refine lv_lstore_n (lv' := [(3, .long 0), (0, .ref (a 11)), (1, .int ce), (2, .int oth)]) hx hb dX3_borderGainedBy_1 rfl hl (by decide) rfl (fun ls hl => ?_)
  refine lv_iconst (v := 0) hx hb dX3_borderGainedBy_2 (by decide) ?_
  refine lv_istore (lv' := [(5, .int 0), (3, .long 0), (0, .ref (a 11)), (1, .int ce), (2, .int oth)]) hx hb dX3_borderGainedBy_3 hl (by decide) rfl (fun ls hl => ?_)
  have loop_i : ∀ (ri i : Nat), i + ri * 1 = n → ∀ (ls : Array Slot) , lv_has ls 8 [(5, .int (nI i)), (3, .long (sm (f_bg S j oth) i)), (0, .ref (a 11)), (1, .int ce), (2, .int oth)] → WR p l e s m below meth c yX3_borderGainedBy cX3_borderGainedBy 8 (some .long) (rz 1 21) [.ref (a 11), .int ce, .int oth] (.long (sm (f_bg S j oth) n)) (F0 m 5 ls []) := by
    intro ri
    induction ri with
    | zero =>
      intro i hi_i ls hl
      have he_i : n = i := by omega
      subst he_i
      refine lv_iload hx hb dX3_borderGainedBy_5 (lv_at hl 0 rfl) ?_
      refine lv_aload_n hx hb dX3_borderGainedBy_7 rfl (lv_at hl 2 rfl) ?_
      refine va_get (D := k.1) (ci := 3) (v := .ref (a 1)) (C := RX3) (T := TX3) (N := 7) hx hb hU inlX3 hown hK.1 hP 11 rfl rfl 0 (by decide) (hU _ uF_X3_9) (fun _ h9 => h9) rfl dX3_borderGainedBy_8 ?_
      refine va_getN (D := k.1) (ci := 2) (v := .int (S_cells S)) (C := RX2) (T := TX2) (N := 16) hx hb hU inlX2 hown hK.1 hP 1 rfl rfl 12 (by decide) (hK.nf nF_X3_36) (fun _ h9 => h9) rfl dX3_borderGainedBy_11 ?_
      refine xb_ge (tgt := 60) hx hb dX3_borderGainedBy_14 (by decide) (fun c_1 => ?_) (fun c9 => absurd c9 (by rw [hc]; exact nI_nlt (a := n) (b := n) (Nat.le_refl _) (by omega)))
      refine lv_lload_n hx hb dX3_borderGainedBy_60 rfl (lv_at hl 1 rfl) ?_
      exact W.lret (v := (sm (f_bg S j oth) n)) hx hb hr (fun t ht hW => ⟨rfl, ht⟩) (fun q h => absurd h List.not_mem_nil) dX3_borderGainedBy_61
    | succ ri ih_i =>
      intro i hi_i ls hl
      have ht_i : i < n := by omega
      refine lv_iload hx hb dX3_borderGainedBy_5 (lv_at hl 0 rfl) ?_
      refine lv_aload_n hx hb dX3_borderGainedBy_7 rfl (lv_at hl 2 rfl) ?_
      refine va_get (D := k.1) (ci := 3) (v := .ref (a 1)) (C := RX3) (T := TX3) (N := 7) hx hb hU inlX3 hown hK.1 hP 11 rfl rfl 0 (by decide) (hU _ uF_X3_9) (fun _ h9 => h9) rfl dX3_borderGainedBy_8 ?_
      refine va_getN (D := k.1) (ci := 2) (v := .int (S_cells S)) (C := RX2) (T := TX2) (N := 16) hx hb hU inlX2 hown hK.1 hP 1 rfl rfl 12 (by decide) (hK.nf nF_X3_36) (fun _ h9 => h9) rfl dX3_borderGainedBy_11 ?_
      refine xb_ge (tgt := 60) hx hb dX3_borderGainedBy_14 (by decide) (fun c9 => absurd (by rw [hc]; exact nI_lt (a := i) (b := n) (by omega) (by omega)) c9) (fun c_2 => ?_)
      refine lv_aload_n hx hb dX3_borderGainedBy_17 rfl (lv_at hl 2 rfl) ?_
      refine va_get (D := k.1) (ci := 3) (v := .ref (a 1)) (C := RX3) (T := TX3) (N := 7) hx hb hU inlX3 hown hK.1 hP 11 rfl rfl 0 (by decide) (hU _ uF_X3_9) (fun _ h9 => h9) rfl dX3_borderGainedBy_18 ?_
      refine va_getN (D := k.1) (ci := 2) (v := .ref (a 5)) (C := RX2) (T := TX2) (N := 16) hx hb hU inlX2 hown hK.1 hP 1 rfl rfl 3 (by decide) (hK.nf nF_X3_66) (fun _ h9 => h9) rfl dX3_borderGainedBy_21 ?_
      refine lv_iload_n hx hb dX3_borderGainedBy_24 rfl (lv_at hl 3 rfl) ?_
      refine lv_bipush (v := 24) hx hb dX3_borderGainedBy_25 (by decide) ?_
      refine lv_imul hx hb dX3_borderGainedBy_27 ?_
      refine lv_iload hx hb dX3_borderGainedBy_28 (lv_at hl 0 rfl) ?_
      refine lv_iadd hx hb dX3_borderGainedBy_30 ?_
      refine xa_lald hx hb hK.1 hP 5 1 rfl rfl (j := j * 24 + i) (by rw [ej]; exact ix24 j i) (by omega) (by decide) dX3_borderGainedBy_31 ?_
      refine lv_lstore (lv' := [(6, .long ((S_borders S) (j * 24 + i))), (5, .int (nI i)), (3, .long (sm (f_bg S j oth) i)), (0, .ref (a 11)), (1, .int ce), (2, .int oth)]) hx hb dX3_borderGainedBy_32 hl (by decide) rfl (fun ls hl => ?_)
      refine lv_lload_n hx hb dX3_borderGainedBy_34 rfl (lv_at hl 2 rfl) ?_
      refine lv_iload_n hx hb dX3_borderGainedBy_35 rfl (lv_at hl 5 rfl) ?_
      refine lv_iload hx hb dX3_borderGainedBy_36 (lv_at hl 1 rfl) ?_
      refine rcSN (n := 2) (As := [.int oth, .int (nI i)]) (rest := [.long (sm (f_bg S j oth) i)]) hF (c_X4_hasBit l k oth (nI i)) (hP.sub (ws' := []) [] rfl) hK uC_X4_hasBit uN_X4 nM_X3_39 uS_X4_hasBit (by decide +kernel) rfl ⟨Nat.le_of_ble_eq_true rfl, Nat.le_of_ble_eq_true rfl⟩ ⟨Nat.zero_le _, Nat.zero_le _⟩ hl.1 rfl (Nat.le_of_ble_eq_true rfl) dX3_borderGainedBy_38 ?_
      refine lv_if_eq (tgt := 50) hx hb dX3_borderGainedBy_41 (by decide) (fun c_3 => ?_) (fun c_3 => ?_)
      · refine lv_lload hx hb dX3_borderGainedBy_50 (lv_at hl 0 rfl) ?_
        refine lv_ladd hx hb dX3_borderGainedBy_52 ?_
        refine lv_lstore_n (lv' := [(3, .long ((sm (f_bg S j oth) i) + ((S_borders S) (j * 24 + i)))), (6, .long ((S_borders S) (j * 24 + i))), (5, .int (nI i)), (0, .ref (a 11)), (1, .int ce), (2, .int oth)]) hx hb dX3_borderGainedBy_53 rfl hl (by decide) rfl (fun ls hl => ?_)
        refine lv_iinc (v := nI (i + 1)) (lv' := [(5, .int (nI (i + 1))), (3, .long ((sm (f_bg S j oth) i) + ((S_borders S) (j * 24 + i)))), (6, .long ((S_borders S) (j * 24 + i))), (0, .ref (a 11)), (1, .int ce), (2, .int oth)]) hx hb dX3_borderGainedBy_54 hl (k := 2) rfl (nI_add i 1) (by decide) rfl (fun ls hl => ?_)
        refine lv_goto (tgt := 5) hx hb dX3_borderGainedBy_57 (by decide) ?_
        have eb : bt oth i = false := (hb0 oth (by omega)).mp c_3
        have hq : ((sm (f_bg S j oth) i) + ((S_borders S) (j * 24 + i))) = (sm (f_bg S j oth) (i + 1)) := by simp [sm, f_bg, eb]
        rw [hq] at hl
        exact ih_i (i + 1) (by omega) ls (lv_sub hl [0, 1, 3, 4, 5] rfl)
      · refine lv_lload hx hb dX3_borderGainedBy_44 (lv_at hl 0 rfl) ?_
        refine lv_lneg hx hb dX3_borderGainedBy_46 ?_
        refine lv_goto (tgt := 52) hx hb dX3_borderGainedBy_47 (by decide) ?_
        refine lv_ladd hx hb dX3_borderGainedBy_52 ?_
        refine lv_lstore_n (lv' := [(3, .long ((sm (f_bg S j oth) i) + (-((S_borders S) (j * 24 + i))))), (6, .long ((S_borders S) (j * 24 + i))), (5, .int (nI i)), (0, .ref (a 11)), (1, .int ce), (2, .int oth)]) hx hb dX3_borderGainedBy_53 rfl hl (by decide) rfl (fun ls hl => ?_)
        refine lv_iinc (v := nI (i + 1)) (lv' := [(5, .int (nI (i + 1))), (3, .long ((sm (f_bg S j oth) i) + (-((S_borders S) (j * 24 + i))))), (6, .long ((S_borders S) (j * 24 + i))), (0, .ref (a 11)), (1, .int ce), (2, .int oth)]) hx hb dX3_borderGainedBy_54 hl (k := 2) rfl (nI_add i 1) (by decide) rfl (fun ls hl => ?_)
        refine lv_goto (tgt := 5) hx hb dX3_borderGainedBy_57 (by decide) ?_
        have eb : bt oth i = true := (hb1 oth (by omega)).mp c_3
        have hq : ((sm (f_bg S j oth) i) + (-((S_borders S) (j * 24 + i)))) = (sm (f_bg S j oth) (i + 1)) := by simp [sm, f_bg, eb]
        rw [hq] at hl
        exact ih_i (i + 1) (by omega) ls (lv_sub hl [0, 1, 3, 4, 5] rfl)
  exact loop_i n 0 (by omega) ls (lv_sub hl [0, 1, 2, 3, 4] rfl)
