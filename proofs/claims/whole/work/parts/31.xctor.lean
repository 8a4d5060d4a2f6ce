set_option maxHeartbeats 4000000 in
set_option maxRecDepth 100000 in
theorem c_X0_init (l : Launch) (k : KT) (h0 : Nat)   : MC l yX0_init cX0_init 1 (rc 1 12 0 0) k [.ref h0] [(h0, .inr (0, [.int 0, .int 0, .long 0]))] (fun ws => ws = [(h0, .inr (0, [.int 0, .int 0, .long (-1)]))]) 0 0 := by
  intro sz
  refine Met.ofW (cc := cX0_init) (maxL := 1) (ret := none) (by decide) rfl ?_
  intro p e s m args below meth c s₁ B hml hv
  obtain ⟨rfl, hsz, hP, hK, hD0⟩ := hv
  have hx := B.exec
  have hb := B.bytes
  have hr := B.returns
  have hU : ∀ w ∈ wsL_law, w.before [.ref h0].toArray s = true := fun w h => atoms_spec (ws := Cond.code yX0_init cX0_init 1 none :: wsL_law) B.pre w (List.mem_cons_of_mem _ h)
  have hown : s.vm.findClass RX0 = some m.cls := findClass_of_methodNamed B.named
  have hlocks := B.notSynchronized
  have hin : meth.name = "<init>" := (name_of_methodNamed B.named B.method).1
  have hF : CF p m c cX0_init 1 s [.ref h0].toArray RX0 := ⟨hx, hb, hml, hown, hU⟩
  subst hsz
  have hD := hD0.self (sz := s.heap.size)
  generalize hAe : va_A [(h0, .inr (0, [.int 0, .int 0, .long 0]))] s.heap.size = A at hD ⊢
  have hA : ∀ q : Nat, s.heap.size ≤ q → A q := fun q h => by rw [← hAe]; exact Or.inr h
  have hS : va_S A s.heap s.heap [] := va_S.rf
  have hl := lv_entry ([.ref h0] : List Value) (n := 1) (Nat.le_of_ble_eq_true rfl)
  rw [lg_entry_eq]
  generalize (lg_sl ([.ref h0] : List Value) ++ List.replicate (1 - (lg_sl ([.ref h0] : List Value)).length) Slot.unset).toArray = ls at hl ⊢
  have hl : lv_has ls 1 [(0, .ref h0)] := hl
  refine lv_aload_n hx hb dX0_init_0 rfl (lv_at hl 0 rfl) ?_
  refine W.objInit hx hb hown (hU _ uM_X0_3) (hU _ uI_obj) (hU _ uC_obj) rfl (by rw [hml]; exact hl.1) rfl dX0_init_1 (Nat.le_of_ble_eq_true rfl) (Nat.le_of_ble_eq_true rfl) ?_
  refine W.eq (g2 := F0 m 4 ls []) rfl ?_
  refine lv_aload_n hx hb dX0_init_4 rfl (lv_at hl 0 rfl) ?_
  refine lv_ldc2 hx hb hown (hU _ uK_X0_9) dX0_init_5 ?_
  refine va_put (D := k.1) (ci := 0) (v := .long (-1)) (ty := .long) (C := RX0) (T := TX0) (N := 3) hx hb hU inlX0 tyX0 tyX0_ok nmX0 hown hK.1 hP hD hS 0 rfl rfl 2 (by decide) (hU _ uF_X0_11) (fun _ h9 => h9) rfl (by decide +kernel) rfl rfl (Nat.le_of_ble_eq_true rfl) dX0_init_8 (fun H locs hP hD hS => ?_)
  have hP : va_P k.1 vwCl [(h0, .inr (0, [.int 0, .int 0, .long (-1)]))] H := hP
  have hD : va_D A [(h0, .inr (0, [.int 0, .int 0, .long (-1)]))] := hD
  exact W.vret hx hb hr (fun t ht hW => ⟨⟨rfl, _, rfl, by rw [ht]; exact hP, hD⟩, hS.F ht⟩) hS.2.2 dX0_init_11

set_option maxHeartbeats 4000000 in
set_option maxRecDepth 100000 in
theorem c_X1_init (l : Launch) (k : KT) (h0 : Nat)   : MC l yX1_init cX1_init 1 (rc 1 12 0 0) k [.ref h0] [(h0, .inr (1, [.long 0]))] (fun ws => ws = [(h0, .inr (1, [.long 0]))]) 0 0 := by
  intro sz
  refine Met.ofW (cc := cX1_init) (maxL := 1) (ret := none) (by decide) rfl ?_
  intro p e s m args below meth c s₁ B hml hv
  obtain ⟨rfl, hsz, hP, hK, hD0⟩ := hv
  have hx := B.exec
  have hb := B.bytes
  have hr := B.returns
  have hU : ∀ w ∈ wsL_law, w.before [.ref h0].toArray s = true := fun w h => atoms_spec (ws := Cond.code yX1_init cX1_init 1 none :: wsL_law) B.pre w (List.mem_cons_of_mem _ h)
  have hown : s.vm.findClass RX1 = some m.cls := findClass_of_methodNamed B.named
  have hlocks := B.notSynchronized
  have hin : meth.name = "<init>" := (name_of_methodNamed B.named B.method).1
  have hF : CF p m c cX1_init 1 s [.ref h0].toArray RX1 := ⟨hx, hb, hml, hown, hU⟩
  subst hsz
  have hD := hD0.self (sz := s.heap.size)
  generalize hAe : va_A [(h0, .inr (1, [.long 0]))] s.heap.size = A at hD ⊢
  have hA : ∀ q : Nat, s.heap.size ≤ q → A q := fun q h => by rw [← hAe]; exact Or.inr h
  have hS : va_S A s.heap s.heap [] := va_S.rf
  have hl := lv_entry ([.ref h0] : List Value) (n := 1) (Nat.le_of_ble_eq_true rfl)
  rw [lg_entry_eq]
  generalize (lg_sl ([.ref h0] : List Value) ++ List.replicate (1 - (lg_sl ([.ref h0] : List Value)).length) Slot.unset).toArray = ls at hl ⊢
  have hl : lv_has ls 1 [(0, .ref h0)] := hl
  refine lv_aload_n hx hb dX1_init_0 rfl (lv_at hl 0 rfl) ?_
  refine W.objInit hx hb hown (hU _ uM_X1_1) (hU _ uI_obj) (hU _ uC_obj) rfl (by rw [hml]; exact hl.1) rfl dX1_init_1 (Nat.le_of_ble_eq_true rfl) (Nat.le_of_ble_eq_true rfl) ?_
  refine W.eq (g2 := F0 m 4 ls []) rfl ?_
  exact W.vret hx hb hr (fun t ht hW => ⟨⟨rfl, _, rfl, by rw [ht]; exact hP, hD⟩, hS.F ht⟩) hS.2.2 dX1_init_4

def seaW (k : KT) (a : Nat → Nat) (S : SeaT) : va_W := [(a 1, .inr (2, [.ref (a 2), .ref (a 3), .ref (a 4), .ref (a 5), .ref (a 6), .ref (a 7), .ref (a 8), .ref (a 9), .ref (a 10), .long (S_fairAbove S), .long (S_fairBelow S), .long (S_borderWeight S), .int (S_cells S), .int (S_needed S), .int (S_barred S), .int (S_fewest S)])), (a 2, .inl (k.2.2.1, 24, .inr (.inl (S_costs S)))), (a 3, .inl (k.2.2.1, 192, .inr (.inl (S_amounts S)))), (a 4, .inl (k.2.2.1, 96, .inr (.inl (S_hours S)))), (a 5, .inl (k.2.2.1, 576, .inr (.inl (S_borders S)))), (a 6, .inl (k.2.1, 24, .inl (S_tooFar S))), (a 7, .inl (k.2.2.1, 8, .inr (.inl (S_kindTotals S)))), (a 8, .inl (k.2.2.1, 4, .inr (.inl (S_portTotals S)))), (a 9, .inl (k.2.2.1, 8, .inr (.inl (S_goalAbove S)))), (a 10, .inl (k.2.2.1, 8, .inr (.inl (S_goalBelow S))))]
def talW (k : KT) (a : Nat → Nat) (T : TalT) : va_W := [(a 11, .inr (3, [.ref (a 1), .ref (a 12), .ref (a 13), .int (T_cells T), .int (T_farPairs T), .long (T_cellCosts T), .long (T_borderLength T)])), (a 12, .inl (k.2.2.1, 8, .inr (.inl (T_amounts T)))), (a 13, .inl (k.2.2.1, 4, .inr (.inl (T_hours T))))]
def gb1 : Nat → Nat → Int64
  | 0 => fun _ => 0
  | i + 1 => vp_updL (gb1 i) i 1
def seaS : SeaT := (fun _ => 0, fun _ => 0, fun _ => 0, fun _ => 0, fun _ => 0, fun _ => 0, fun _ => 0, fun _ => 0, gb1 8, 1, 1, 0, 0, 0, 0, 0)
def talS : TalT := (fun _ => 0, fun _ => 0, 0, 0, 0, 0)
set_option maxHeartbeats 4000000 in
set_option maxRecDepth 100000 in
theorem c_X2_init (l : Launch) (k : KT) (h0 : Nat) : MC l yX2_init cX2_init 2 (rc 1 12 9 940) k [.ref h0] [(h0, .inr (2, [.null, .null, .null, .null, .null, .null, .null, .null, .null, .long 0, .long 0, .long 0, .int 0, .int 0, .int 0, .int 0]))] (fun ws => ∃ a : Nat → Nat, a 1 = h0 ∧ ws = seaW k a seaS) 9 940 := by
  intro sz
  refine Met.ofW (cc := cX2_init) (maxL := 2) (ret := none) (by decide) rfl ?_
  intro p e s m args below meth c s₁ B hml hv
  obtain ⟨rfl, hsz, hP, hK, hD0⟩ := hv
  have hx := B.exec
  have hb := B.bytes
  have hr := B.returns
  have hU : ∀ w ∈ wsL_law, w.before [.ref h0].toArray s = true := fun w h => atoms_spec (ws := Cond.code yX2_init cX2_init 2 none :: wsL_law) B.pre w (List.mem_cons_of_mem _ h)
  have hown : s.vm.findClass RX2 = some m.cls := findClass_of_methodNamed B.named
  have hlocks := B.notSynchronized
  have hin : meth.name = "<init>" := (name_of_methodNamed B.named B.method).1
  have hF : CF p m c cX2_init 2 s [.ref h0].toArray RX2 := ⟨hx, hb, hml, hown, hU⟩
  subst hsz
  have hD := hD0.self (sz := s.heap.size)
  generalize hAe : va_A [(h0, .inr (2, [.null, .null, .null, .null, .null, .null, .null, .null, .null, .long 0, .long 0, .long 0, .int 0, .int 0, .int 0, .int 0]))] s.heap.size = A at hD ⊢
  have hA : ∀ q : Nat, s.heap.size ≤ q → A q := fun q h => by rw [← hAe]; exact Or.inr h
  have hS : va_S A s.heap s.heap [] := va_S.rf
  have hl := lv_entry ([.ref h0] : List Value) (n := 2) (Nat.le_of_ble_eq_true rfl)
  rw [lg_entry_eq]
  generalize (lg_sl ([.ref h0] : List Value) ++ List.replicate (2 - (lg_sl ([.ref h0] : List Value)).length) Slot.unset).toArray = ls at hl ⊢
  have hl : lv_has ls 2 [(0, .ref h0)] := hl
  refine lv_aload_n hx hb dX2_init_0 rfl (lv_at hl 0 rfl) ?_
  refine W.objInit hx hb hown (hU _ uM_X2_3) (hU _ uI_obj) (hU _ uC_obj) rfl (by rw [hml]; exact hl.1) rfl dX2_init_1 (Nat.le_of_ble_eq_true rfl) (Nat.le_of_ble_eq_true rfl) ?_
  refine W.eq (g2 := F0 m 4 ls []) rfl ?_
  refine lv_aload_n hx hb dX2_init_4 rfl (lv_at hl 0 rfl) ?_
  refine lv_bipush (v := 24) hx hb dX2_init_5 (by decide) ?_
  refine x_newa (atype := .long) (a0 := (24, .inr (.inl (fun _ => 0)))) (ty := .long) hx hb (hU _ uA_long) rfl hK 1 rfl (by decide) hP hD hS hA (fun _ => rfl) (by decide) (by decide) (by decide) (Nat.le_of_ble_eq_true rfl) (Nat.le_of_ble_eq_true rfl) dX2_init_7 (fun q1 H hP hD hS => ?_)
  have hP : va_P k.1 vwCl [(h0, .inr (2, [.null, .null, .null, .null, .null, .null, .null, .null, .null, .long 0, .long 0, .long 0, .int 0, .int 0, .int 0, .int 0])), (q1, .inl (k.2.2.1, 24, .inr (.inl (fun _ => 0))))] H := hP
  have hD : va_D A [(h0, .inr (2, [.null, .null, .null, .null, .null, .null, .null, .null, .null, .long 0, .long 0, .long 0, .int 0, .int 0, .int 0, .int 0])), (q1, .inl (k.2.2.1, 24, .inr (.inl (fun _ => 0))))] := hD
  refine va_putF (D := k.1) (ci := 2) (v := .ref q1) (ty := .array .long) (C := RX2) (T := TX2) (N := 16) hx hb hU inlX2 tyX2 tyX2_ok nmX2 hown hK.1 hP hD hS 0 rfl rfl 0 (by decide) (hU _ uF_X2_9) (fun _ h9 => h9) rfl hin rfl (by decide +kernel) rfl rfl (Nat.le_of_ble_eq_true rfl) dX2_init_9 (fun H locs hP hD hS => ?_)
  have hP : va_P k.1 vwCl [(h0, .inr (2, [.ref q1, .null, .null, .null, .null, .null, .null, .null, .null, .long 0, .long 0, .long 0, .int 0, .int 0, .int 0, .int 0])), (q1, .inl (k.2.2.1, 24, .inr (.inl (fun _ => 0))))] H := hP
  have hD : va_D A [(h0, .inr (2, [.ref q1, .null, .null, .null, .null, .null, .null, .null, .null, .long 0, .long 0, .long 0, .int 0, .int 0, .int 0, .int 0])), (q1, .inl (k.2.2.1, 24, .inr (.inl (fun _ => 0))))] := hD
  refine lv_aload_n hx hb dX2_init_12 rfl (lv_at hl 0 rfl) ?_
  refine lv_sipush (v := 192) hx hb dX2_init_13 (by decide) ?_
  refine x_newa (atype := .long) (a0 := (192, .inr (.inl (fun _ => 0)))) (ty := .long) hx hb (hU _ uA_long) rfl hK 1 rfl (by decide) hP hD hS hA (fun _ => rfl) (by decide) (by decide) (by decide) (Nat.le_of_ble_eq_true rfl) (Nat.le_of_ble_eq_true rfl) dX2_init_16 (fun q2 H hP hD hS => ?_)
  have hP : va_P k.1 vwCl [(h0, .inr (2, [.ref q1, .null, .null, .null, .null, .null, .null, .null, .null, .long 0, .long 0, .long 0, .int 0, .int 0, .int 0, .int 0])), (q1, .inl (k.2.2.1, 24, .inr (.inl (fun _ => 0)))), (q2, .inl (k.2.2.1, 192, .inr (.inl (fun _ => 0))))] H := hP
  have hD : va_D A [(h0, .inr (2, [.ref q1, .null, .null, .null, .null, .null, .null, .null, .null, .long 0, .long 0, .long 0, .int 0, .int 0, .int 0, .int 0])), (q1, .inl (k.2.2.1, 24, .inr (.inl (fun _ => 0)))), (q2, .inl (k.2.2.1, 192, .inr (.inl (fun _ => 0))))] := hD
  refine va_putF (D := k.1) (ci := 2) (v := .ref q2) (ty := .array .long) (C := RX2) (T := TX2) (N := 16) hx hb hU inlX2 tyX2 tyX2_ok nmX2 hown hK.1 hP hD hS 0 rfl rfl 1 (by decide) (hU _ uF_X2_15) (fun _ h9 => h9) rfl hin rfl (by decide +kernel) rfl rfl (Nat.le_of_ble_eq_true rfl) dX2_init_18 (fun H locs hP hD hS => ?_)
  have hP : va_P k.1 vwCl [(h0, .inr (2, [.ref q1, .ref q2, .null, .null, .null, .null, .null, .null, .null, .long 0, .long 0, .long 0, .int 0, .int 0, .int 0, .int 0])), (q1, .inl (k.2.2.1, 24, .inr (.inl (fun _ => 0)))), (q2, .inl (k.2.2.1, 192, .inr (.inl (fun _ => 0))))] H := hP
  have hD : va_D A [(h0, .inr (2, [.ref q1, .ref q2, .null, .null, .null, .null, .null, .null, .null, .long 0, .long 0, .long 0, .int 0, .int 0, .int 0, .int 0])), (q1, .inl (k.2.2.1, 24, .inr (.inl (fun _ => 0)))), (q2, .inl (k.2.2.1, 192, .inr (.inl (fun _ => 0))))] := hD
  refine lv_aload_n hx hb dX2_init_21 rfl (lv_at hl 0 rfl) ?_
  refine lv_bipush (v := 96) hx hb dX2_init_22 (by decide) ?_
  refine x_newa (atype := .long) (a0 := (96, .inr (.inl (fun _ => 0)))) (ty := .long) hx hb (hU _ uA_long) rfl hK 1 rfl (by decide) hP hD hS hA (fun _ => rfl) (by decide) (by decide) (by decide) (Nat.le_of_ble_eq_true rfl) (Nat.le_of_ble_eq_true rfl) dX2_init_24 (fun q3 H hP hD hS => ?_)
  have hP : va_P k.1 vwCl [(h0, .inr (2, [.ref q1, .ref q2, .null, .null, .null, .null, .null, .null, .null, .long 0, .long 0, .long 0, .int 0, .int 0, .int 0, .int 0])), (q1, .inl (k.2.2.1, 24, .inr (.inl (fun _ => 0)))), (q2, .inl (k.2.2.1, 192, .inr (.inl (fun _ => 0)))), (q3, .inl (k.2.2.1, 96, .inr (.inl (fun _ => 0))))] H := hP
  have hD : va_D A [(h0, .inr (2, [.ref q1, .ref q2, .null, .null, .null, .null, .null, .null, .null, .long 0, .long 0, .long 0, .int 0, .int 0, .int 0, .int 0])), (q1, .inl (k.2.2.1, 24, .inr (.inl (fun _ => 0)))), (q2, .inl (k.2.2.1, 192, .inr (.inl (fun _ => 0)))), (q3, .inl (k.2.2.1, 96, .inr (.inl (fun _ => 0))))] := hD
  refine va_putF (D := k.1) (ci := 2) (v := .ref q3) (ty := .array .long) (C := RX2) (T := TX2) (N := 16) hx hb hU inlX2 tyX2 tyX2_ok nmX2 hown hK.1 hP hD hS 0 rfl rfl 2 (by decide) (hU _ uF_X2_18) (fun _ h9 => h9) rfl hin rfl (by decide +kernel) rfl rfl (Nat.le_of_ble_eq_true rfl) dX2_init_26 (fun H locs hP hD hS => ?_)
  have hP : va_P k.1 vwCl [(h0, .inr (2, [.ref q1, .ref q2, .ref q3, .null, .null, .null, .null, .null, .null, .long 0, .long 0, .long 0, .int 0, .int 0, .int 0, .int 0])), (q1, .inl (k.2.2.1, 24, .inr (.inl (fun _ => 0)))), (q2, .inl (k.2.2.1, 192, .inr (.inl (fun _ => 0)))), (q3, .inl (k.2.2.1, 96, .inr (.inl (fun _ => 0))))] H := hP
  have hD : va_D A [(h0, .inr (2, [.ref q1, .ref q2, .ref q3, .null, .null, .null, .null, .null, .null, .long 0, .long 0, .long 0, .int 0, .int 0, .int 0, .int 0])), (q1, .inl (k.2.2.1, 24, .inr (.inl (fun _ => 0)))), (q2, .inl (k.2.2.1, 192, .inr (.inl (fun _ => 0)))), (q3, .inl (k.2.2.1, 96, .inr (.inl (fun _ => 0))))] := hD
  refine lv_aload_n hx hb dX2_init_29 rfl (lv_at hl 0 rfl) ?_
  refine lv_sipush (v := 576) hx hb dX2_init_30 (by decide) ?_
  refine x_newa (atype := .long) (a0 := (576, .inr (.inl (fun _ => 0)))) (ty := .long) hx hb (hU _ uA_long) rfl hK 1 rfl (by decide) hP hD hS hA (fun _ => rfl) (by decide) (by decide) (by decide) (Nat.le_of_ble_eq_true rfl) (Nat.le_of_ble_eq_true rfl) dX2_init_33 (fun q4 H hP hD hS => ?_)
  have hP : va_P k.1 vwCl [(h0, .inr (2, [.ref q1, .ref q2, .ref q3, .null, .null, .null, .null, .null, .null, .long 0, .long 0, .long 0, .int 0, .int 0, .int 0, .int 0])), (q1, .inl (k.2.2.1, 24, .inr (.inl (fun _ => 0)))), (q2, .inl (k.2.2.1, 192, .inr (.inl (fun _ => 0)))), (q3, .inl (k.2.2.1, 96, .inr (.inl (fun _ => 0)))), (q4, .inl (k.2.2.1, 576, .inr (.inl (fun _ => 0))))] H := hP
  have hD : va_D A [(h0, .inr (2, [.ref q1, .ref q2, .ref q3, .null, .null, .null, .null, .null, .null, .long 0, .long 0, .long 0, .int 0, .int 0, .int 0, .int 0])), (q1, .inl (k.2.2.1, 24, .inr (.inl (fun _ => 0)))), (q2, .inl (k.2.2.1, 192, .inr (.inl (fun _ => 0)))), (q3, .inl (k.2.2.1, 96, .inr (.inl (fun _ => 0)))), (q4, .inl (k.2.2.1, 576, .inr (.inl (fun _ => 0))))] := hD
  refine va_putF (D := k.1) (ci := 2) (v := .ref q4) (ty := .array .long) (C := RX2) (T := TX2) (N := 16) hx hb hU inlX2 tyX2 tyX2_ok nmX2 hown hK.1 hP hD hS 0 rfl rfl 3 (by decide) (hU _ uF_X2_21) (fun _ h9 => h9) rfl hin rfl (by decide +kernel) rfl rfl (Nat.le_of_ble_eq_true rfl) dX2_init_35 (fun H locs hP hD hS => ?_)
  have hP : va_P k.1 vwCl [(h0, .inr (2, [.ref q1, .ref q2, .ref q3, .ref q4, .null, .null, .null, .null, .null, .long 0, .long 0, .long 0, .int 0, .int 0, .int 0, .int 0])), (q1, .inl (k.2.2.1, 24, .inr (.inl (fun _ => 0)))), (q2, .inl (k.2.2.1, 192, .inr (.inl (fun _ => 0)))), (q3, .inl (k.2.2.1, 96, .inr (.inl (fun _ => 0)))), (q4, .inl (k.2.2.1, 576, .inr (.inl (fun _ => 0))))] H := hP
  have hD : va_D A [(h0, .inr (2, [.ref q1, .ref q2, .ref q3, .ref q4, .null, .null, .null, .null, .null, .long 0, .long 0, .long 0, .int 0, .int 0, .int 0, .int 0])), (q1, .inl (k.2.2.1, 24, .inr (.inl (fun _ => 0)))), (q2, .inl (k.2.2.1, 192, .inr (.inl (fun _ => 0)))), (q3, .inl (k.2.2.1, 96, .inr (.inl (fun _ => 0)))), (q4, .inl (k.2.2.1, 576, .inr (.inl (fun _ => 0))))] := hD
  refine lv_aload_n hx hb dX2_init_38 rfl (lv_at hl 0 rfl) ?_
  refine lv_bipush (v := 24) hx hb dX2_init_39 (by decide) ?_
  refine x_newa (atype := .int) (a0 := (24, .inl (fun _ => 0))) (ty := .int) hx hb (hU _ uA_int) rfl hK 0 rfl (by decide) hP hD hS hA (fun _ => rfl) (by decide) (by decide) (by decide) (Nat.le_of_ble_eq_true rfl) (Nat.le_of_ble_eq_true rfl) dX2_init_41 (fun q5 H hP hD hS => ?_)
  have hP : va_P k.1 vwCl [(h0, .inr (2, [.ref q1, .ref q2, .ref q3, .ref q4, .null, .null, .null, .null, .null, .long 0, .long 0, .long 0, .int 0, .int 0, .int 0, .int 0])), (q1, .inl (k.2.2.1, 24, .inr (.inl (fun _ => 0)))), (q2, .inl (k.2.2.1, 192, .inr (.inl (fun _ => 0)))), (q3, .inl (k.2.2.1, 96, .inr (.inl (fun _ => 0)))), (q4, .inl (k.2.2.1, 576, .inr (.inl (fun _ => 0)))), (q5, .inl (k.2.1, 24, .inl (fun _ => 0)))] H := hP
  have hD : va_D A [(h0, .inr (2, [.ref q1, .ref q2, .ref q3, .ref q4, .null, .null, .null, .null, .null, .long 0, .long 0, .long 0, .int 0, .int 0, .int 0, .int 0])), (q1, .inl (k.2.2.1, 24, .inr (.inl (fun _ => 0)))), (q2, .inl (k.2.2.1, 192, .inr (.inl (fun _ => 0)))), (q3, .inl (k.2.2.1, 96, .inr (.inl (fun _ => 0)))), (q4, .inl (k.2.2.1, 576, .inr (.inl (fun _ => 0)))), (q5, .inl (k.2.1, 24, .inl (fun _ => 0)))] := hD
  refine va_putF (D := k.1) (ci := 2) (v := .ref q5) (ty := .array .int) (C := RX2) (T := TX2) (N := 16) hx hb hU inlX2 tyX2 tyX2_ok nmX2 hown hK.1 hP hD hS 0 rfl rfl 4 (by decide) (hU _ uF_X2_24) (fun _ h9 => h9) rfl hin rfl (by decide +kernel) rfl rfl (Nat.le_of_ble_eq_true rfl) dX2_init_43 (fun H locs hP hD hS => ?_)
  have hP : va_P k.1 vwCl [(h0, .inr (2, [.ref q1, .ref q2, .ref q3, .ref q4, .ref q5, .null, .null, .null, .null, .long 0, .long 0, .long 0, .int 0, .int 0, .int 0, .int 0])), (q1, .inl (k.2.2.1, 24, .inr (.inl (fun _ => 0)))), (q2, .inl (k.2.2.1, 192, .inr (.inl (fun _ => 0)))), (q3, .inl (k.2.2.1, 96, .inr (.inl (fun _ => 0)))), (q4, .inl (k.2.2.1, 576, .inr (.inl (fun _ => 0)))), (q5, .inl (k.2.1, 24, .inl (fun _ => 0)))] H := hP
  have hD : va_D A [(h0, .inr (2, [.ref q1, .ref q2, .ref q3, .ref q4, .ref q5, .null, .null, .null, .null, .long 0, .long 0, .long 0, .int 0, .int 0, .int 0, .int 0])), (q1, .inl (k.2.2.1, 24, .inr (.inl (fun _ => 0)))), (q2, .inl (k.2.2.1, 192, .inr (.inl (fun _ => 0)))), (q3, .inl (k.2.2.1, 96, .inr (.inl (fun _ => 0)))), (q4, .inl (k.2.2.1, 576, .inr (.inl (fun _ => 0)))), (q5, .inl (k.2.1, 24, .inl (fun _ => 0)))] := hD
  refine lv_aload_n hx hb dX2_init_46 rfl (lv_at hl 0 rfl) ?_
  refine lv_bipush (v := 8) hx hb dX2_init_47 (by decide) ?_
  refine x_newa (atype := .long) (a0 := (8, .inr (.inl (fun _ => 0)))) (ty := .long) hx hb (hU _ uA_long) rfl hK 1 rfl (by decide) hP hD hS hA (fun _ => rfl) (by decide) (by decide) (by decide) (Nat.le_of_ble_eq_true rfl) (Nat.le_of_ble_eq_true rfl) dX2_init_49 (fun q6 H hP hD hS => ?_)
  have hP : va_P k.1 vwCl [(h0, .inr (2, [.ref q1, .ref q2, .ref q3, .ref q4, .ref q5, .null, .null, .null, .null, .long 0, .long 0, .long 0, .int 0, .int 0, .int 0, .int 0])), (q1, .inl (k.2.2.1, 24, .inr (.inl (fun _ => 0)))), (q2, .inl (k.2.2.1, 192, .inr (.inl (fun _ => 0)))), (q3, .inl (k.2.2.1, 96, .inr (.inl (fun _ => 0)))), (q4, .inl (k.2.2.1, 576, .inr (.inl (fun _ => 0)))), (q5, .inl (k.2.1, 24, .inl (fun _ => 0))), (q6, .inl (k.2.2.1, 8, .inr (.inl (fun _ => 0))))] H := hP
  have hD : va_D A [(h0, .inr (2, [.ref q1, .ref q2, .ref q3, .ref q4, .ref q5, .null, .null, .null, .null, .long 0, .long 0, .long 0, .int 0, .int 0, .int 0, .int 0])), (q1, .inl (k.2.2.1, 24, .inr (.inl (fun _ => 0)))), (q2, .inl (k.2.2.1, 192, .inr (.inl (fun _ => 0)))), (q3, .inl (k.2.2.1, 96, .inr (.inl (fun _ => 0)))), (q4, .inl (k.2.2.1, 576, .inr (.inl (fun _ => 0)))), (q5, .inl (k.2.1, 24, .inl (fun _ => 0))), (q6, .inl (k.2.2.1, 8, .inr (.inl (fun _ => 0))))] := hD
  refine va_putF (D := k.1) (ci := 2) (v := .ref q6) (ty := .array .long) (C := RX2) (T := TX2) (N := 16) hx hb hU inlX2 tyX2 tyX2_ok nmX2 hown hK.1 hP hD hS 0 rfl rfl 5 (by decide) (hU _ uF_X2_28) (fun _ h9 => h9) rfl hin rfl (by decide +kernel) rfl rfl (Nat.le_of_ble_eq_true rfl) dX2_init_51 (fun H locs hP hD hS => ?_)
  have hP : va_P k.1 vwCl [(h0, .inr (2, [.ref q1, .ref q2, .ref q3, .ref q4, .ref q5, .ref q6, .null, .null, .null, .long 0, .long 0, .long 0, .int 0, .int 0, .int 0, .int 0])), (q1, .inl (k.2.2.1, 24, .inr (.inl (fun _ => 0)))), (q2, .inl (k.2.2.1, 192, .inr (.inl (fun _ => 0)))), (q3, .inl (k.2.2.1, 96, .inr (.inl (fun _ => 0)))), (q4, .inl (k.2.2.1, 576, .inr (.inl (fun _ => 0)))), (q5, .inl (k.2.1, 24, .inl (fun _ => 0))), (q6, .inl (k.2.2.1, 8, .inr (.inl (fun _ => 0))))] H := hP
  have hD : va_D A [(h0, .inr (2, [.ref q1, .ref q2, .ref q3, .ref q4, .ref q5, .ref q6, .null, .null, .null, .long 0, .long 0, .long 0, .int 0, .int 0, .int 0, .int 0])), (q1, .inl (k.2.2.1, 24, .inr (.inl (fun _ => 0)))), (q2, .inl (k.2.2.1, 192, .inr (.inl (fun _ => 0)))), (q3, .inl (k.2.2.1, 96, .inr (.inl (fun _ => 0)))), (q4, .inl (k.2.2.1, 576, .inr (.inl (fun _ => 0)))), (q5, .inl (k.2.1, 24, .inl (fun _ => 0))), (q6, .inl (k.2.2.1, 8, .inr (.inl (fun _ => 0))))] := hD
  refine lv_aload_n hx hb dX2_init_54 rfl (lv_at hl 0 rfl) ?_
  refine lv_iconst (v := 4) hx hb dX2_init_55 (by decide) ?_
  refine x_newa (atype := .long) (a0 := (4, .inr (.inl (fun _ => 0)))) (ty := .long) hx hb (hU _ uA_long) rfl hK 1 rfl (by decide) hP hD hS hA (fun _ => rfl) (by decide) (by decide) (by decide) (Nat.le_of_ble_eq_true rfl) (Nat.le_of_ble_eq_true rfl) dX2_init_56 (fun q7 H hP hD hS => ?_)
  have hP : va_P k.1 vwCl [(h0, .inr (2, [.ref q1, .ref q2, .ref q3, .ref q4, .ref q5, .ref q6, .null, .null, .null, .long 0, .long 0, .long 0, .int 0, .int 0, .int 0, .int 0])), (q1, .inl (k.2.2.1, 24, .inr (.inl (fun _ => 0)))), (q2, .inl (k.2.2.1, 192, .inr (.inl (fun _ => 0)))), (q3, .inl (k.2.2.1, 96, .inr (.inl (fun _ => 0)))), (q4, .inl (k.2.2.1, 576, .inr (.inl (fun _ => 0)))), (q5, .inl (k.2.1, 24, .inl (fun _ => 0))), (q6, .inl (k.2.2.1, 8, .inr (.inl (fun _ => 0)))), (q7, .inl (k.2.2.1, 4, .inr (.inl (fun _ => 0))))] H := hP
  have hD : va_D A [(h0, .inr (2, [.ref q1, .ref q2, .ref q3, .ref q4, .ref q5, .ref q6, .null, .null, .null, .long 0, .long 0, .long 0, .int 0, .int 0, .int 0, .int 0])), (q1, .inl (k.2.2.1, 24, .inr (.inl (fun _ => 0)))), (q2, .inl (k.2.2.1, 192, .inr (.inl (fun _ => 0)))), (q3, .inl (k.2.2.1, 96, .inr (.inl (fun _ => 0)))), (q4, .inl (k.2.2.1, 576, .inr (.inl (fun _ => 0)))), (q5, .inl (k.2.1, 24, .inl (fun _ => 0))), (q6, .inl (k.2.2.1, 8, .inr (.inl (fun _ => 0)))), (q7, .inl (k.2.2.1, 4, .inr (.inl (fun _ => 0))))] := hD
  refine va_putF (D := k.1) (ci := 2) (v := .ref q7) (ty := .array .long) (C := RX2) (T := TX2) (N := 16) hx hb hU inlX2 tyX2 tyX2_ok nmX2 hown hK.1 hP hD hS 0 rfl rfl 6 (by decide) (hU _ uF_X2_31) (fun _ h9 => h9) rfl hin rfl (by decide +kernel) rfl rfl (Nat.le_of_ble_eq_true rfl) dX2_init_58 (fun H locs hP hD hS => ?_)
  have hP : va_P k.1 vwCl [(h0, .inr (2, [.ref q1, .ref q2, .ref q3, .ref q4, .ref q5, .ref q6, .ref q7, .null, .null, .long 0, .long 0, .long 0, .int 0, .int 0, .int 0, .int 0])), (q1, .inl (k.2.2.1, 24, .inr (.inl (fun _ => 0)))), (q2, .inl (k.2.2.1, 192, .inr (.inl (fun _ => 0)))), (q3, .inl (k.2.2.1, 96, .inr (.inl (fun _ => 0)))), (q4, .inl (k.2.2.1, 576, .inr (.inl (fun _ => 0)))), (q5, .inl (k.2.1, 24, .inl (fun _ => 0))), (q6, .inl (k.2.2.1, 8, .inr (.inl (fun _ => 0)))), (q7, .inl (k.2.2.1, 4, .inr (.inl (fun _ => 0))))] H := hP
  have hD : va_D A [(h0, .inr (2, [.ref q1, .ref q2, .ref q3, .ref q4, .ref q5, .ref q6, .ref q7, .null, .null, .long 0, .long 0, .long 0, .int 0, .int 0, .int 0, .int 0])), (q1, .inl (k.2.2.1, 24, .inr (.inl (fun _ => 0)))), (q2, .inl (k.2.2.1, 192, .inr (.inl (fun _ => 0)))), (q3, .inl (k.2.2.1, 96, .inr (.inl (fun _ => 0)))), (q4, .inl (k.2.2.1, 576, .inr (.inl (fun _ => 0)))), (q5, .inl (k.2.1, 24, .inl (fun _ => 0))), (q6, .inl (k.2.2.1, 8, .inr (.inl (fun _ => 0)))), (q7, .inl (k.2.2.1, 4, .inr (.inl (fun _ => 0))))] := hD
  refine lv_aload_n hx hb dX2_init_61 rfl (lv_at hl 0 rfl) ?_
  refine lv_bipush (v := 8) hx hb dX2_init_62 (by decide) ?_
  refine x_newa (atype := .long) (a0 := (8, .inr (.inl (fun _ => 0)))) (ty := .long) hx hb (hU _ uA_long) rfl hK 1 rfl (by decide) hP hD hS hA (fun _ => rfl) (by decide) (by decide) (by decide) (Nat.le_of_ble_eq_true rfl) (Nat.le_of_ble_eq_true rfl) dX2_init_64 (fun q8 H hP hD hS => ?_)
  have hP : va_P k.1 vwCl [(h0, .inr (2, [.ref q1, .ref q2, .ref q3, .ref q4, .ref q5, .ref q6, .ref q7, .null, .null, .long 0, .long 0, .long 0, .int 0, .int 0, .int 0, .int 0])), (q1, .inl (k.2.2.1, 24, .inr (.inl (fun _ => 0)))), (q2, .inl (k.2.2.1, 192, .inr (.inl (fun _ => 0)))), (q3, .inl (k.2.2.1, 96, .inr (.inl (fun _ => 0)))), (q4, .inl (k.2.2.1, 576, .inr (.inl (fun _ => 0)))), (q5, .inl (k.2.1, 24, .inl (fun _ => 0))), (q6, .inl (k.2.2.1, 8, .inr (.inl (fun _ => 0)))), (q7, .inl (k.2.2.1, 4, .inr (.inl (fun _ => 0)))), (q8, .inl (k.2.2.1, 8, .inr (.inl (fun _ => 0))))] H := hP
  have hD : va_D A [(h0, .inr (2, [.ref q1, .ref q2, .ref q3, .ref q4, .ref q5, .ref q6, .ref q7, .null, .null, .long 0, .long 0, .long 0, .int 0, .int 0, .int 0, .int 0])), (q1, .inl (k.2.2.1, 24, .inr (.inl (fun _ => 0)))), (q2, .inl (k.2.2.1, 192, .inr (.inl (fun _ => 0)))), (q3, .inl (k.2.2.1, 96, .inr (.inl (fun _ => 0)))), (q4, .inl (k.2.2.1, 576, .inr (.inl (fun _ => 0)))), (q5, .inl (k.2.1, 24, .inl (fun _ => 0))), (q6, .inl (k.2.2.1, 8, .inr (.inl (fun _ => 0)))), (q7, .inl (k.2.2.1, 4, .inr (.inl (fun _ => 0)))), (q8, .inl (k.2.2.1, 8, .inr (.inl (fun _ => 0))))] := hD
  refine va_putF (D := k.1) (ci := 2) (v := .ref q8) (ty := .array .long) (C := RX2) (T := TX2) (N := 16) hx hb hU inlX2 tyX2 tyX2_ok nmX2 hown hK.1 hP hD hS 0 rfl rfl 7 (by decide) (hU _ uF_X2_34) (fun _ h9 => h9) rfl hin rfl (by decide +kernel) rfl rfl (Nat.le_of_ble_eq_true rfl) dX2_init_66 (fun H locs hP hD hS => ?_)
  have hP : va_P k.1 vwCl [(h0, .inr (2, [.ref q1, .ref q2, .ref q3, .ref q4, .ref q5, .ref q6, .ref q7, .ref q8, .null, .long 0, .long 0, .long 0, .int 0, .int 0, .int 0, .int 0])), (q1, .inl (k.2.2.1, 24, .inr (.inl (fun _ => 0)))), (q2, .inl (k.2.2.1, 192, .inr (.inl (fun _ => 0)))), (q3, .inl (k.2.2.1, 96, .inr (.inl (fun _ => 0)))), (q4, .inl (k.2.2.1, 576, .inr (.inl (fun _ => 0)))), (q5, .inl (k.2.1, 24, .inl (fun _ => 0))), (q6, .inl (k.2.2.1, 8, .inr (.inl (fun _ => 0)))), (q7, .inl (k.2.2.1, 4, .inr (.inl (fun _ => 0)))), (q8, .inl (k.2.2.1, 8, .inr (.inl (fun _ => 0))))] H := hP
  have hD : va_D A [(h0, .inr (2, [.ref q1, .ref q2, .ref q3, .ref q4, .ref q5, .ref q6, .ref q7, .ref q8, .null, .long 0, .long 0, .long 0, .int 0, .int 0, .int 0, .int 0])), (q1, .inl (k.2.2.1, 24, .inr (.inl (fun _ => 0)))), (q2, .inl (k.2.2.1, 192, .inr (.inl (fun _ => 0)))), (q3, .inl (k.2.2.1, 96, .inr (.inl (fun _ => 0)))), (q4, .inl (k.2.2.1, 576, .inr (.inl (fun _ => 0)))), (q5, .inl (k.2.1, 24, .inl (fun _ => 0))), (q6, .inl (k.2.2.1, 8, .inr (.inl (fun _ => 0)))), (q7, .inl (k.2.2.1, 4, .inr (.inl (fun _ => 0)))), (q8, .inl (k.2.2.1, 8, .inr (.inl (fun _ => 0))))] := hD
  refine lv_aload_n hx hb dX2_init_69 rfl (lv_at hl 0 rfl) ?_
  refine lv_bipush (v := 8) hx hb dX2_init_70 (by decide) ?_
  refine x_newa (atype := .long) (a0 := (8, .inr (.inl (fun _ => 0)))) (ty := .long) hx hb (hU _ uA_long) rfl hK 1 rfl (by decide) hP hD hS hA (fun _ => rfl) (by decide) (by decide) (by decide) (Nat.le_of_ble_eq_true rfl) (Nat.le_of_ble_eq_true rfl) dX2_init_72 (fun q9 H hP hD hS => ?_)
  have hP : va_P k.1 vwCl [(h0, .inr (2, [.ref q1, .ref q2, .ref q3, .ref q4, .ref q5, .ref q6, .ref q7, .ref q8, .null, .long 0, .long 0, .long 0, .int 0, .int 0, .int 0, .int 0])), (q1, .inl (k.2.2.1, 24, .inr (.inl (fun _ => 0)))), (q2, .inl (k.2.2.1, 192, .inr (.inl (fun _ => 0)))), (q3, .inl (k.2.2.1, 96, .inr (.inl (fun _ => 0)))), (q4, .inl (k.2.2.1, 576, .inr (.inl (fun _ => 0)))), (q5, .inl (k.2.1, 24, .inl (fun _ => 0))), (q6, .inl (k.2.2.1, 8, .inr (.inl (fun _ => 0)))), (q7, .inl (k.2.2.1, 4, .inr (.inl (fun _ => 0)))), (q8, .inl (k.2.2.1, 8, .inr (.inl (fun _ => 0)))), (q9, .inl (k.2.2.1, 8, .inr (.inl (fun _ => 0))))] H := hP
  have hD : va_D A [(h0, .inr (2, [.ref q1, .ref q2, .ref q3, .ref q4, .ref q5, .ref q6, .ref q7, .ref q8, .null, .long 0, .long 0, .long 0, .int 0, .int 0, .int 0, .int 0])), (q1, .inl (k.2.2.1, 24, .inr (.inl (fun _ => 0)))), (q2, .inl (k.2.2.1, 192, .inr (.inl (fun _ => 0)))), (q3, .inl (k.2.2.1, 96, .inr (.inl (fun _ => 0)))), (q4, .inl (k.2.2.1, 576, .inr (.inl (fun _ => 0)))), (q5, .inl (k.2.1, 24, .inl (fun _ => 0))), (q6, .inl (k.2.2.1, 8, .inr (.inl (fun _ => 0)))), (q7, .inl (k.2.2.1, 4, .inr (.inl (fun _ => 0)))), (q8, .inl (k.2.2.1, 8, .inr (.inl (fun _ => 0)))), (q9, .inl (k.2.2.1, 8, .inr (.inl (fun _ => 0))))] := hD
  refine va_putF (D := k.1) (ci := 2) (v := .ref q9) (ty := .array .long) (C := RX2) (T := TX2) (N := 16) hx hb hU inlX2 tyX2 tyX2_ok nmX2 hown hK.1 hP hD hS 0 rfl rfl 8 (by decide) (hU _ uF_X2_37) (fun _ h9 => h9) rfl hin rfl (by decide +kernel) rfl rfl (Nat.le_of_ble_eq_true rfl) dX2_init_74 (fun H locs hP hD hS => ?_)
  have hP : va_P k.1 vwCl [(h0, .inr (2, [.ref q1, .ref q2, .ref q3, .ref q4, .ref q5, .ref q6, .ref q7, .ref q8, .ref q9, .long 0, .long 0, .long 0, .int 0, .int 0, .int 0, .int 0])), (q1, .inl (k.2.2.1, 24, .inr (.inl (fun _ => 0)))), (q2, .inl (k.2.2.1, 192, .inr (.inl (fun _ => 0)))), (q3, .inl (k.2.2.1, 96, .inr (.inl (fun _ => 0)))), (q4, .inl (k.2.2.1, 576, .inr (.inl (fun _ => 0)))), (q5, .inl (k.2.1, 24, .inl (fun _ => 0))), (q6, .inl (k.2.2.1, 8, .inr (.inl (fun _ => 0)))), (q7, .inl (k.2.2.1, 4, .inr (.inl (fun _ => 0)))), (q8, .inl (k.2.2.1, 8, .inr (.inl (fun _ => 0)))), (q9, .inl (k.2.2.1, 8, .inr (.inl (fun _ => 0))))] H := hP
  have hD : va_D A [(h0, .inr (2, [.ref q1, .ref q2, .ref q3, .ref q4, .ref q5, .ref q6, .ref q7, .ref q8, .ref q9, .long 0, .long 0, .long 0, .int 0, .int 0, .int 0, .int 0])), (q1, .inl (k.2.2.1, 24, .inr (.inl (fun _ => 0)))), (q2, .inl (k.2.2.1, 192, .inr (.inl (fun _ => 0)))), (q3, .inl (k.2.2.1, 96, .inr (.inl (fun _ => 0)))), (q4, .inl (k.2.2.1, 576, .inr (.inl (fun _ => 0)))), (q5, .inl (k.2.1, 24, .inl (fun _ => 0))), (q6, .inl (k.2.2.1, 8, .inr (.inl (fun _ => 0)))), (q7, .inl (k.2.2.1, 4, .inr (.inl (fun _ => 0)))), (q8, .inl (k.2.2.1, 8, .inr (.inl (fun _ => 0)))), (q9, .inl (k.2.2.1, 8, .inr (.inl (fun _ => 0))))] := hD
  refine lv_iconst (v := 0) hx hb dX2_init_77 (by decide) ?_
  refine lv_istore_n (lv' := [(1, .int 0), (0, .ref h0)]) hx hb dX2_init_78 rfl hl (by decide) rfl (fun ls hl => ?_)
  have loop_i : ∀ (r i : Nat), i + r = 8 → ∀ (ls : Array Slot) (H : Heap) (locs : List Loc), lv_has ls 2 [(1, .int (nI i)), (0, .ref h0)] → va_P k.1 vwCl [(h0, .inr (2, [.ref q1, .ref q2, .ref q3, .ref q4, .ref q5, .ref q6, .ref q7, .ref q8, .ref q9, .long 0, .long 0, .long 0, .int 0, .int 0, .int 0, .int 0])), (q1, .inl (k.2.2.1, 24, .inr (.inl (fun _ => 0)))), (q2, .inl (k.2.2.1, 192, .inr (.inl (fun _ => 0)))), (q3, .inl (k.2.2.1, 96, .inr (.inl (fun _ => 0)))), (q4, .inl (k.2.2.1, 576, .inr (.inl (fun _ => 0)))), (q5, .inl (k.2.1, 24, .inl (fun _ => 0))), (q6, .inl (k.2.2.1, 8, .inr (.inl (fun _ => 0)))), (q7, .inl (k.2.2.1, 4, .inr (.inl (fun _ => 0)))), (q8, .inl (k.2.2.1, 8, .inr (.inl (fun _ => 0)))), (q9, .inl (k.2.2.1, 8, .inr (.inl (gb1 i))))] H → va_D A [(h0, .inr (2, [.ref q1, .ref q2, .ref q3, .ref q4, .ref q5, .ref q6, .ref q7, .ref q8, .ref q9, .long 0, .long 0, .long 0, .int 0, .int 0, .int 0, .int 0])), (q1, .inl (k.2.2.1, 24, .inr (.inl (fun _ => 0)))), (q2, .inl (k.2.2.1, 192, .inr (.inl (fun _ => 0)))), (q3, .inl (k.2.2.1, 96, .inr (.inl (fun _ => 0)))), (q4, .inl (k.2.2.1, 576, .inr (.inl (fun _ => 0)))), (q5, .inl (k.2.1, 24, .inl (fun _ => 0))), (q6, .inl (k.2.2.1, 8, .inr (.inl (fun _ => 0)))), (q7, .inl (k.2.2.1, 4, .inr (.inl (fun _ => 0)))), (q8, .inl (k.2.2.1, 8, .inr (.inl (fun _ => 0)))), (q9, .inl (k.2.2.1, 8, .inr (.inl (gb1 i))))] → va_S A s.heap H locs → WC p l e s m below meth c yX2_init cX2_init 2 (rc 1 12 9 940) [.ref h0] k (fun ws => ∃ a : Nat → Nat, a 1 = h0 ∧ ws = seaW k a seaS) A 9 940 H locs 9 940 (F0 m 79 ls []) := by
    intro r
    induction r with
    | zero =>
      intro i hi ls H locs hl hP hD hS
      have he : 8 = i := by omega
      subst he
      refine lv_iload_n hx hb dX2_init_79 rfl (lv_at hl 0 rfl) ?_
      refine lv_bipush (v := 8) hx hb dX2_init_80 (by decide) ?_
      refine xb_ge (tgt := 98) hx hb dX2_init_82 (by decide) (fun c9 => ?_) (fun c9 => absurd c9 (nI_nlt (a := 8) (b := 8) (Nat.le_refl _) (by omega)))
      refine lv_aload_n hx hb dX2_init_98 rfl (lv_at hl 1 rfl) ?_
      refine lv_lconst (v := 1) hx hb dX2_init_99 (by decide) ?_
      refine va_put (D := k.1) (ci := 2) (v := .long 1) (ty := .long) (C := RX2) (T := TX2) (N := 16) hx hb hU inlX2 tyX2 tyX2_ok nmX2 hown hK.1 hP hD hS 0 rfl rfl 9 (by decide) (hU _ uF_X2_40) (fun _ h9 => h9) rfl (by decide +kernel) rfl rfl (Nat.le_of_ble_eq_true rfl) dX2_init_100 (fun H locs hP hD hS => ?_)
      have hP : va_P k.1 vwCl [(h0, .inr (2, [.ref q1, .ref q2, .ref q3, .ref q4, .ref q5, .ref q6, .ref q7, .ref q8, .ref q9, .long 1, .long 0, .long 0, .int 0, .int 0, .int 0, .int 0])), (q1, .inl (k.2.2.1, 24, .inr (.inl (fun _ => 0)))), (q2, .inl (k.2.2.1, 192, .inr (.inl (fun _ => 0)))), (q3, .inl (k.2.2.1, 96, .inr (.inl (fun _ => 0)))), (q4, .inl (k.2.2.1, 576, .inr (.inl (fun _ => 0)))), (q5, .inl (k.2.1, 24, .inl (fun _ => 0))), (q6, .inl (k.2.2.1, 8, .inr (.inl (fun _ => 0)))), (q7, .inl (k.2.2.1, 4, .inr (.inl (fun _ => 0)))), (q8, .inl (k.2.2.1, 8, .inr (.inl (fun _ => 0)))), (q9, .inl (k.2.2.1, 8, .inr (.inl (gb1 8))))] H := hP
      have hD : va_D A [(h0, .inr (2, [.ref q1, .ref q2, .ref q3, .ref q4, .ref q5, .ref q6, .ref q7, .ref q8, .ref q9, .long 1, .long 0, .long 0, .int 0, .int 0, .int 0, .int 0])), (q1, .inl (k.2.2.1, 24, .inr (.inl (fun _ => 0)))), (q2, .inl (k.2.2.1, 192, .inr (.inl (fun _ => 0)))), (q3, .inl (k.2.2.1, 96, .inr (.inl (fun _ => 0)))), (q4, .inl (k.2.2.1, 576, .inr (.inl (fun _ => 0)))), (q5, .inl (k.2.1, 24, .inl (fun _ => 0))), (q6, .inl (k.2.2.1, 8, .inr (.inl (fun _ => 0)))), (q7, .inl (k.2.2.1, 4, .inr (.inl (fun _ => 0)))), (q8, .inl (k.2.2.1, 8, .inr (.inl (fun _ => 0)))), (q9, .inl (k.2.2.1, 8, .inr (.inl (gb1 8))))] := hD
      refine lv_aload_n hx hb dX2_init_103 rfl (lv_at hl 1 rfl) ?_
      refine lv_lconst (v := 1) hx hb dX2_init_104 (by decide) ?_
      refine va_put (D := k.1) (ci := 2) (v := .long 1) (ty := .long) (C := RX2) (T := TX2) (N := 16) hx hb hU inlX2 tyX2 tyX2_ok nmX2 hown hK.1 hP hD hS 0 rfl rfl 10 (by decide) (hU _ uF_X2_44) (fun _ h9 => h9) rfl (by decide +kernel) rfl rfl (Nat.le_of_ble_eq_true rfl) dX2_init_105 (fun H locs hP hD hS => ?_)
      have hP : va_P k.1 vwCl [(h0, .inr (2, [.ref q1, .ref q2, .ref q3, .ref q4, .ref q5, .ref q6, .ref q7, .ref q8, .ref q9, .long 1, .long 1, .long 0, .int 0, .int 0, .int 0, .int 0])), (q1, .inl (k.2.2.1, 24, .inr (.inl (fun _ => 0)))), (q2, .inl (k.2.2.1, 192, .inr (.inl (fun _ => 0)))), (q3, .inl (k.2.2.1, 96, .inr (.inl (fun _ => 0)))), (q4, .inl (k.2.2.1, 576, .inr (.inl (fun _ => 0)))), (q5, .inl (k.2.1, 24, .inl (fun _ => 0))), (q6, .inl (k.2.2.1, 8, .inr (.inl (fun _ => 0)))), (q7, .inl (k.2.2.1, 4, .inr (.inl (fun _ => 0)))), (q8, .inl (k.2.2.1, 8, .inr (.inl (fun _ => 0)))), (q9, .inl (k.2.2.1, 8, .inr (.inl (gb1 8))))] H := hP
      have hD : va_D A [(h0, .inr (2, [.ref q1, .ref q2, .ref q3, .ref q4, .ref q5, .ref q6, .ref q7, .ref q8, .ref q9, .long 1, .long 1, .long 0, .int 0, .int 0, .int 0, .int 0])), (q1, .inl (k.2.2.1, 24, .inr (.inl (fun _ => 0)))), (q2, .inl (k.2.2.1, 192, .inr (.inl (fun _ => 0)))), (q3, .inl (k.2.2.1, 96, .inr (.inl (fun _ => 0)))), (q4, .inl (k.2.2.1, 576, .inr (.inl (fun _ => 0)))), (q5, .inl (k.2.1, 24, .inl (fun _ => 0))), (q6, .inl (k.2.2.1, 8, .inr (.inl (fun _ => 0)))), (q7, .inl (k.2.2.1, 4, .inr (.inl (fun _ => 0)))), (q8, .inl (k.2.2.1, 8, .inr (.inl (fun _ => 0)))), (q9, .inl (k.2.2.1, 8, .inr (.inl (gb1 8))))] := hD
      exact W.vret hx hb hr (fun t ht hW => ⟨⟨rfl, _, ⟨fun j => match j with | 1 => h0 | 2 => q1 | 3 => q2 | 4 => q3 | 5 => q4 | 6 => q5 | 7 => q6 | 8 => q7 | 9 => q8 | _ => q9, rfl, rfl⟩, by rw [ht]; exact hP, hD⟩, hS.F ht⟩) hS.2.2 dX2_init_108
    | succ r ih =>
      intro i hi ls H locs hl hP hD hS
      refine lv_iload_n hx hb dX2_init_79 rfl (lv_at hl 0 rfl) ?_
      refine lv_bipush (v := 8) hx hb dX2_init_80 (by decide) ?_
      refine xb_ge (tgt := 98) hx hb dX2_init_82 (by decide) (fun c9 => absurd (nI_lt (a := i) (b := 8) (by omega) (by omega)) c9) (fun c9 => ?_)
      refine lv_aload_n hx hb dX2_init_85 rfl (lv_at hl 1 rfl) ?_
      refine va_get (D := k.1) (ci := 2) (v := .ref q9) (C := RX2) (T := TX2) (N := 16) hx hb hU inlX2 hown hK.1 hP 0 rfl rfl 8 (by decide) (hU _ uF_X2_37) (fun _ h9 => h9) rfl dX2_init_86 ?_
      refine lv_iload_n hx hb dX2_init_89 rfl (lv_at hl 0 rfl) ?_
      refine lv_lconst (v := 1) hx hb dX2_init_90 (by decide) ?_
      refine xa_last hx hb hK.1 hP hD hS 9 1 rfl rfl (j := i) rfl (by omega) (by decide) dX2_init_91 (fun H locs hP hD hS => ?_)
      have hP : va_P k.1 vwCl [(h0, .inr (2, [.ref q1, .ref q2, .ref q3, .ref q4, .ref q5, .ref q6, .ref q7, .ref q8, .ref q9, .long 0, .long 0, .long 0, .int 0, .int 0, .int 0, .int 0])), (q1, .inl (k.2.2.1, 24, .inr (.inl (fun _ => 0)))), (q2, .inl (k.2.2.1, 192, .inr (.inl (fun _ => 0)))), (q3, .inl (k.2.2.1, 96, .inr (.inl (fun _ => 0)))), (q4, .inl (k.2.2.1, 576, .inr (.inl (fun _ => 0)))), (q5, .inl (k.2.1, 24, .inl (fun _ => 0))), (q6, .inl (k.2.2.1, 8, .inr (.inl (fun _ => 0)))), (q7, .inl (k.2.2.1, 4, .inr (.inl (fun _ => 0)))), (q8, .inl (k.2.2.1, 8, .inr (.inl (fun _ => 0)))), (q9, .inl (k.2.2.1, 8, .inr (.inl (gb1 (i + 1)))))] H := hP
      have hD : va_D A [(h0, .inr (2, [.ref q1, .ref q2, .ref q3, .ref q4, .ref q5, .ref q6, .ref q7, .ref q8, .ref q9, .long 0, .long 0, .long 0, .int 0, .int 0, .int 0, .int 0])), (q1, .inl (k.2.2.1, 24, .inr (.inl (fun _ => 0)))), (q2, .inl (k.2.2.1, 192, .inr (.inl (fun _ => 0)))), (q3, .inl (k.2.2.1, 96, .inr (.inl (fun _ => 0)))), (q4, .inl (k.2.2.1, 576, .inr (.inl (fun _ => 0)))), (q5, .inl (k.2.1, 24, .inl (fun _ => 0))), (q6, .inl (k.2.2.1, 8, .inr (.inl (fun _ => 0)))), (q7, .inl (k.2.2.1, 4, .inr (.inl (fun _ => 0)))), (q8, .inl (k.2.2.1, 8, .inr (.inl (fun _ => 0)))), (q9, .inl (k.2.2.1, 8, .inr (.inl (gb1 (i + 1)))))] := hD
      refine lv_iinc (v := nI (i + 1)) (lv' := [(1, .int (nI (i + 1))), (0, .ref h0)]) hx hb dX2_init_92 hl (k := 0) rfl (nI_add i 1) (by decide) rfl (fun ls hl => ?_)
      refine lv_goto (tgt := 79) hx hb dX2_init_95 (by decide) ?_
      exact ih (i + 1) (by omega) ls _ _ (lv_sub hl [0, 1] rfl) hP hD hS
  exact loop_i 8 0 (by omega) ls _ _ (lv_sub hl [0, 1] rfl) hP hD hS

set_option maxHeartbeats 4000000 in
set_option maxRecDepth 100000 in
theorem c_X3_init (l : Launch) (k : KT) (h0 : Nat) (sea : Nat)  : MC l yX3_init cX3_init 2 (rc 1 12 2 12) k [.ref h0, .ref sea] [(h0, .inr (3, [.null, .null, .null, .int 0, .int 0, .long 0, .long 0]))] (fun ws => ∃ a : Nat → Nat, a 11 = h0 ∧ a 1 = sea ∧ ws = talW k a talS) 2 12 := by
  intro sz
  refine Met.ofW (cc := cX3_init) (maxL := 2) (ret := none) (by decide) rfl ?_
  intro p e s m args below meth c s₁ B hml hv
  obtain ⟨rfl, hsz, hP, hK, hD0⟩ := hv
  have hx := B.exec
  have hb := B.bytes
  have hr := B.returns
  have hU : ∀ w ∈ wsL_law, w.before [.ref h0, .ref sea].toArray s = true := fun w h => atoms_spec (ws := Cond.code yX3_init cX3_init 2 none :: wsL_law) B.pre w (List.mem_cons_of_mem _ h)
  have hown : s.vm.findClass RX3 = some m.cls := findClass_of_methodNamed B.named
  have hlocks := B.notSynchronized
  have hin : meth.name = "<init>" := (name_of_methodNamed B.named B.method).1
  have hF : CF p m c cX3_init 2 s [.ref h0, .ref sea].toArray RX3 := ⟨hx, hb, hml, hown, hU⟩
  subst hsz
  have hD := hD0.self (sz := s.heap.size)
  generalize hAe : va_A [(h0, .inr (3, [.null, .null, .null, .int 0, .int 0, .long 0, .long 0]))] s.heap.size = A at hD ⊢
  have hA : ∀ q : Nat, s.heap.size ≤ q → A q := fun q h => by rw [← hAe]; exact Or.inr h
  have hS : va_S A s.heap s.heap [] := va_S.rf
  have hl := lv_entry ([.ref h0, .ref sea] : List Value) (n := 2) (Nat.le_of_ble_eq_true rfl)
  rw [lg_entry_eq]
  generalize (lg_sl ([.ref h0, .ref sea] : List Value) ++ List.replicate (2 - (lg_sl ([.ref h0, .ref sea] : List Value)).length) Slot.unset).toArray = ls at hl ⊢
  have hl : lv_has ls 2 [(0, .ref h0), (1, .ref sea)] := hl
  refine lv_aload_n hx hb dX3_init_0 rfl (lv_at hl 0 rfl) ?_
  refine W.objInit hx hb hown (hU _ uM_X3_3) (hU _ uI_obj) (hU _ uC_obj) rfl (by rw [hml]; exact hl.1) rfl dX3_init_1 (Nat.le_of_ble_eq_true rfl) (Nat.le_of_ble_eq_true rfl) ?_
  refine W.eq (g2 := F0 m 4 ls []) rfl ?_
  refine lv_aload_n hx hb dX3_init_4 rfl (lv_at hl 0 rfl) ?_
  refine lv_aload_n hx hb dX3_init_5 rfl (lv_at hl 1 rfl) ?_
  refine va_putF (D := k.1) (ci := 3) (v := .ref sea) (ty := .object "AreaGoals$Sea") (C := RX3) (T := TX3) (N := 7) hx hb hU inlX3 tyX3 tyX3_ok nmX3 hown hK.1 hP hD hS 0 rfl rfl 0 (by decide) (hU _ uF_X3_9) (fun _ h9 => h9) rfl hin rfl (by decide +kernel) rfl rfl (Nat.le_of_ble_eq_true rfl) dX3_init_6 (fun H locs hP hD hS => ?_)
  have hP : va_P k.1 vwCl [(h0, .inr (3, [.ref sea, .null, .null, .int 0, .int 0, .long 0, .long 0]))] H := hP
  have hD : va_D A [(h0, .inr (3, [.ref sea, .null, .null, .int 0, .int 0, .long 0, .long 0]))] := hD
  refine lv_aload_n hx hb dX3_init_9 rfl (lv_at hl 0 rfl) ?_
  refine lv_bipush (v := 8) hx hb dX3_init_10 (by decide) ?_
  refine x_newa (atype := .long) (a0 := (8, .inr (.inl (fun _ => 0)))) (ty := .long) hx hb (hU _ uA_long) rfl hK 1 rfl (by decide) hP hD hS hA (fun _ => rfl) (by decide) (by decide) (by decide) (Nat.le_of_ble_eq_true rfl) (Nat.le_of_ble_eq_true rfl) dX3_init_12 (fun q1 H hP hD hS => ?_)
  have hP : va_P k.1 vwCl [(h0, .inr (3, [.ref sea, .null, .null, .int 0, .int 0, .long 0, .long 0])), (q1, .inl (k.2.2.1, 8, .inr (.inl (fun _ => 0))))] H := hP
  have hD : va_D A [(h0, .inr (3, [.ref sea, .null, .null, .int 0, .int 0, .long 0, .long 0])), (q1, .inl (k.2.2.1, 8, .inr (.inl (fun _ => 0))))] := hD
  refine va_putF (D := k.1) (ci := 3) (v := .ref q1) (ty := .array .long) (C := RX3) (T := TX3) (N := 7) hx hb hU inlX3 tyX3 tyX3_ok nmX3 hown hK.1 hP hD hS 0 rfl rfl 1 (by decide) (hU _ uF_X3_15) (fun _ h9 => h9) rfl hin rfl (by decide +kernel) rfl rfl (Nat.le_of_ble_eq_true rfl) dX3_init_14 (fun H locs hP hD hS => ?_)
  have hP : va_P k.1 vwCl [(h0, .inr (3, [.ref sea, .ref q1, .null, .int 0, .int 0, .long 0, .long 0])), (q1, .inl (k.2.2.1, 8, .inr (.inl (fun _ => 0))))] H := hP
  have hD : va_D A [(h0, .inr (3, [.ref sea, .ref q1, .null, .int 0, .int 0, .long 0, .long 0])), (q1, .inl (k.2.2.1, 8, .inr (.inl (fun _ => 0))))] := hD
  refine lv_aload_n hx hb dX3_init_17 rfl (lv_at hl 0 rfl) ?_
  refine lv_iconst (v := 4) hx hb dX3_init_18 (by decide) ?_
  refine x_newa (atype := .long) (a0 := (4, .inr (.inl (fun _ => 0)))) (ty := .long) hx hb (hU _ uA_long) rfl hK 1 rfl (by decide) hP hD hS hA (fun _ => rfl) (by decide) (by decide) (by decide) (Nat.le_of_ble_eq_true rfl) (Nat.le_of_ble_eq_true rfl) dX3_init_19 (fun q2 H hP hD hS => ?_)
  have hP : va_P k.1 vwCl [(h0, .inr (3, [.ref sea, .ref q1, .null, .int 0, .int 0, .long 0, .long 0])), (q1, .inl (k.2.2.1, 8, .inr (.inl (fun _ => 0)))), (q2, .inl (k.2.2.1, 4, .inr (.inl (fun _ => 0))))] H := hP
  have hD : va_D A [(h0, .inr (3, [.ref sea, .ref q1, .null, .int 0, .int 0, .long 0, .long 0])), (q1, .inl (k.2.2.1, 8, .inr (.inl (fun _ => 0)))), (q2, .inl (k.2.2.1, 4, .inr (.inl (fun _ => 0))))] := hD
  refine va_putF (D := k.1) (ci := 3) (v := .ref q2) (ty := .array .long) (C := RX3) (T := TX3) (N := 7) hx hb hU inlX3 tyX3 tyX3_ok nmX3 hown hK.1 hP hD hS 0 rfl rfl 2 (by decide) (hU _ uF_X3_19) (fun _ h9 => h9) rfl hin rfl (by decide +kernel) rfl rfl (Nat.le_of_ble_eq_true rfl) dX3_init_21 (fun H locs hP hD hS => ?_)
  have hP : va_P k.1 vwCl [(h0, .inr (3, [.ref sea, .ref q1, .ref q2, .int 0, .int 0, .long 0, .long 0])), (q1, .inl (k.2.2.1, 8, .inr (.inl (fun _ => 0)))), (q2, .inl (k.2.2.1, 4, .inr (.inl (fun _ => 0))))] H := hP
  have hD : va_D A [(h0, .inr (3, [.ref sea, .ref q1, .ref q2, .int 0, .int 0, .long 0, .long 0])), (q1, .inl (k.2.2.1, 8, .inr (.inl (fun _ => 0)))), (q2, .inl (k.2.2.1, 4, .inr (.inl (fun _ => 0))))] := hD
  exact W.vret hx hb hr (fun t ht hW => ⟨⟨rfl, _, ⟨fun j => match j with | 11 => h0 | 1 => sea | 12 => q1 | _ => q2, rfl, rfl, rfl⟩, by rw [ht]; exact hP, hD⟩, hS.F ht⟩) hS.2.2 dX3_init_24

def goS : GoT := (0, -1, -1, 0)
def choS : ChoT := (0, 0, -1)
set_option maxHeartbeats 4000000 in
set_option maxRecDepth 100000 in
theorem c_X4_init (l : Launch) (k : KT) (h0 : Nat) (seed : Int64)  : MC l yX4_init cX4_init 3 (rc 2 33 17 1004) k [.ref h0, .long seed] [(h0, .inr (4, [.null, .null, .null, .null, .null, .null, .int 0, .int 0, .long 0, .int 0]))] (fun ws => ∃ a : Nat → Nat, a 0 = h0 ∧ ws = xW k a seaS talS (w_X1_start_dr seed) 0 choS (fun _ => 0) goS) 17 1004 := by
  intro sz
  refine Met.ofW (cc := cX4_init) (maxL := 3) (ret := none) (by decide) rfl ?_
  intro p e s m args below meth c s₁ B hml hv
  obtain ⟨rfl, hsz, hP, hK, hD0⟩ := hv
  have hx := B.exec
  have hb := B.bytes
  have hr := B.returns
  have hU : ∀ w ∈ wsL_law, w.before [.ref h0, .long seed].toArray s = true := fun w h => atoms_spec (ws := Cond.code yX4_init cX4_init 3 none :: wsL_law) B.pre w (List.mem_cons_of_mem _ h)
  have hown : s.vm.findClass RX4 = some m.cls := findClass_of_methodNamed B.named
  have hlocks := B.notSynchronized
  have hin : meth.name = "<init>" := (name_of_methodNamed B.named B.method).1
  have hF : CF p m c cX4_init 3 s [.ref h0, .long seed].toArray RX4 := ⟨hx, hb, hml, hown, hU⟩
  subst hsz
  have hD := hD0.self (sz := s.heap.size)
  generalize hAe : va_A [(h0, .inr (4, [.null, .null, .null, .null, .null, .null, .int 0, .int 0, .long 0, .int 0]))] s.heap.size = A at hD ⊢
  have hA : ∀ q : Nat, s.heap.size ≤ q → A q := fun q h => by rw [← hAe]; exact Or.inr h
  have hS : va_S A s.heap s.heap [] := va_S.rf
  have hl := lv_entry ([.ref h0, .long seed] : List Value) (n := 3) (Nat.le_of_ble_eq_true rfl)
  rw [lg_entry_eq]
  generalize (lg_sl ([.ref h0, .long seed] : List Value) ++ List.replicate (3 - (lg_sl ([.ref h0, .long seed] : List Value)).length) Slot.unset).toArray = ls at hl ⊢
  have hl : lv_has ls 3 [(0, .ref h0), (1, .long seed)] := hl
  refine lv_aload_n hx hb dX4_init_0 rfl (lv_at hl 0 rfl) ?_
  refine W.objInit hx hb hown (hU _ uM_X4_1) (hU _ uI_obj) (hU _ uC_obj) rfl (by rw [hml]; exact hl.1) rfl dX4_init_1 (Nat.le_of_ble_eq_true rfl) (Nat.le_of_ble_eq_true rfl) ?_
  refine W.eq (g2 := F0 m 4 ls []) rfl ?_
  refine lv_aload_n hx hb dX4_init_4 rfl (lv_at hl 0 rfl) ?_
  refine va_new (ci := 2) (fs := [.null, .null, .null, .null, .null, .null, .null, .null, .null, .long 0, .long 0, .long 0, .int 0, .int 0, .int 0, .int 0]) (C := RX2) (T := TX2) (N := 16) hx hb hU inlX2 tyX2 tyX2_ok hown (hU _ uB_X4_7) (hU _ uT_X2) (hU _ uN_X2) hK.1 hP hD hS hA rfl (fun j hj => match j, hj with | 0, _ => rfl | 1, _ => rfl | 2, _ => rfl | 3, _ => rfl | 4, _ => rfl | 5, _ => rfl | 6, _ => rfl | 7, _ => rfl | 8, _ => rfl | 9, _ => rfl | 10, _ => rfl | 11, _ => rfl | 12, _ => rfl | 13, _ => rfl | 14, _ => rfl | 15, _ => rfl | j + 16, hj => absurd hj (by omega)) (Nat.le_of_ble_eq_true rfl) (Nat.le_of_ble_eq_true rfl) dX4_init_5 (fun q1 H hP hD hS => ?_)
  have hP : va_P k.1 vwCl ([(h0, .inr (4, [.null, .null, .null, .null, .null, .null, .int 0, .int 0, .long 0, .int 0]))] ++ [(q1, .inr (2, [.null, .null, .null, .null, .null, .null, .null, .null, .null, .long 0, .long 0, .long 0, .int 0, .int 0, .int 0, .int 0]))]) H := hP
  have hD : va_D A ([(h0, .inr (4, [.null, .null, .null, .null, .null, .null, .int 0, .int 0, .long 0, .int 0]))] ++ [(q1, .inr (2, [.null, .null, .null, .null, .null, .null, .null, .null, .null, .long 0, .long 0, .long 0, .int 0, .int 0, .int 0, .int 0]))]) := hD
  refine lv_dup hx hb dX4_init_8 rfl ?_
  refine ctN (n := 0) (As := []) (rest := [.ref q1, .ref h0]) hF (c_X2_init l k q1) hP hD hS hA hK uC_X2_init uN_X2 nM_X4_9 uI_X2_init rfl (by decide +kernel) rfl ⟨Nat.le_of_ble_eq_true rfl, Nat.le_of_ble_eq_true rfl⟩ ⟨Nat.le_of_ble_eq_true rfl, Nat.le_of_ble_eq_true rfl⟩ hl.1 rfl (Nat.le_of_ble_eq_true rfl) dX4_init_9 (fun H locs ws_ hB hP_ hD_ hS => ?_)
  obtain ⟨a1, ha1, rfl⟩ := hB
  subst ha1
  have hP := hP_
  have hD := hD_
  have hP : va_P k.1 vwCl ([(h0, .inr (4, [.null, .null, .null, .null, .null, .null, .int 0, .int 0, .long 0, .int 0]))] ++ (seaW k a1 seaS)) H := hP
  have hD : va_D A ([(h0, .inr (4, [.null, .null, .null, .null, .null, .null, .int 0, .int 0, .long 0, .int 0]))] ++ (seaW k a1 seaS)) := hD
  refine va_putF (D := k.1) (ci := 4) (v := .ref (a1 1)) (ty := .object "AreaGoals$Sea") (C := RX4) (T := TX4) (N := 10) hx hb hU inlX4 tyX4 tyX4_ok nmX4 hown hK.1 hP hD hS 0 rfl rfl 0 (by decide) (hU _ uF_X4_10) (fun _ h9 => h9) rfl hin rfl (by decide +kernel) rfl rfl (Nat.le_of_ble_eq_true rfl) dX4_init_12 (fun H locs hP hD hS => ?_)
  have hP : va_P k.1 vwCl ([(h0, .inr (4, [.ref (a1 1), .null, .null, .null, .null, .null, .int 0, .int 0, .long 0, .int 0]))] ++ (seaW k a1 seaS)) H := hP
  have hD : va_D A ([(h0, .inr (4, [.ref (a1 1), .null, .null, .null, .null, .null, .int 0, .int 0, .long 0, .int 0]))] ++ (seaW k a1 seaS)) := hD
  refine lv_aload_n hx hb dX4_init_15 rfl (lv_at hl 0 rfl) ?_
  refine va_new (ci := 3) (fs := [.null, .null, .null, .int 0, .int 0, .long 0, .long 0]) (C := RX3) (T := TX3) (N := 7) hx hb hU inlX3 tyX3 tyX3_ok hown (hU _ uB_X4_16) (hU _ uT_X3) (hU _ uN_X3) hK.1 hP hD hS hA rfl (fun j hj => match j, hj with | 0, _ => rfl | 1, _ => rfl | 2, _ => rfl | 3, _ => rfl | 4, _ => rfl | 5, _ => rfl | 6, _ => rfl | j + 7, hj => absurd hj (by omega)) (Nat.le_of_ble_eq_true rfl) (Nat.le_of_ble_eq_true rfl) dX4_init_16 (fun q2 H hP hD hS => ?_)
  have hP : va_P k.1 vwCl (([(h0, .inr (4, [.ref (a1 1), .null, .null, .null, .null, .null, .int 0, .int 0, .long 0, .int 0]))] ++ (seaW k a1 seaS)) ++ [(q2, .inr (3, [.null, .null, .null, .int 0, .int 0, .long 0, .long 0]))]) H := hP
  have hD : va_D A (([(h0, .inr (4, [.ref (a1 1), .null, .null, .null, .null, .null, .int 0, .int 0, .long 0, .int 0]))] ++ (seaW k a1 seaS)) ++ [(q2, .inr (3, [.null, .null, .null, .int 0, .int 0, .long 0, .long 0]))]) := hD
  refine lv_dup hx hb dX4_init_19 rfl ?_
  refine lv_aload_n hx hb dX4_init_20 rfl (lv_at hl 0 rfl) ?_
  refine va_get (D := k.1) (ci := 4) (v := .ref (a1 1)) (C := RX4) (T := TX4) (N := 10) hx hb hU inlX4 hown hK.1 hP 0 rfl rfl 0 (by decide) (hU _ uF_X4_10) (fun _ h9 => h9) rfl dX4_init_21 ?_
  refine ctN (n := 1) (As := [.ref (a1 1)]) (rest := [.ref q2, .ref h0]) hF (c_X3_init l k q2 (a1 1)) hP hD hS hA hK uC_X3_init uN_X3 nM_X4_18 uI_X3_init rfl (by decide +kernel) rfl ⟨Nat.le_of_ble_eq_true rfl, Nat.le_of_ble_eq_true rfl⟩ ⟨Nat.le_of_ble_eq_true rfl, Nat.le_of_ble_eq_true rfl⟩ hl.1 rfl (Nat.le_of_ble_eq_true rfl) dX4_init_24 (fun H locs ws_ hB hP_ hD_ hS => ?_)
  obtain ⟨a2, ha2, hs2, rfl⟩ := hB
  subst ha2
  have hP := hP_
  have hD := hD_
  have hP : va_P k.1 vwCl (([(h0, .inr (4, [.ref (a1 1), .null, .null, .null, .null, .null, .int 0, .int 0, .long 0, .int 0]))] ++ (seaW k a1 seaS)) ++ (talW k a2 talS)) H := hP
  have hD : va_D A (([(h0, .inr (4, [.ref (a1 1), .null, .null, .null, .null, .null, .int 0, .int 0, .long 0, .int 0]))] ++ (seaW k a1 seaS)) ++ (talW k a2 talS)) := hD
  refine va_putF (D := k.1) (ci := 4) (v := .ref (a2 11)) (ty := .object "AreaGoals$Tally") (C := RX4) (T := TX4) (N := 10) hx hb hU inlX4 tyX4 tyX4_ok nmX4 hown hK.1 hP hD hS 0 rfl rfl 1 (by decide) (hU _ uF_X4_21) (fun _ h9 => h9) rfl hin rfl (by decide +kernel) rfl rfl (Nat.le_of_ble_eq_true rfl) dX4_init_27 (fun H locs hP hD hS => ?_)
  have hP : va_P k.1 vwCl (([(h0, .inr (4, [.ref (a1 1), .ref (a2 11), .null, .null, .null, .null, .int 0, .int 0, .long 0, .int 0]))] ++ (seaW k a1 seaS)) ++ (talW k a2 talS)) H := hP
  have hD : va_D A (([(h0, .inr (4, [.ref (a1 1), .ref (a2 11), .null, .null, .null, .null, .int 0, .int 0, .long 0, .int 0]))] ++ (seaW k a1 seaS)) ++ (talW k a2 talS)) := hD
  refine lv_aload_n hx hb dX4_init_30 rfl (lv_at hl 0 rfl) ?_
  refine va_new (ci := 1) (fs := [.long 0]) (C := RX1) (T := TX1) (N := 1) hx hb hU inlX1 tyX1 tyX1_ok hown (hU _ uB_X4_25) (hU _ uT_X1) (hU _ uN_X1) hK.1 hP hD hS hA rfl (fun j hj => match j, hj with | 0, _ => rfl | j + 1, hj => absurd hj (by omega)) (Nat.le_of_ble_eq_true rfl) (Nat.le_of_ble_eq_true rfl) dX4_init_31 (fun q3 H hP hD hS => ?_)
  have hP : va_P k.1 vwCl ((([(h0, .inr (4, [.ref (a1 1), .ref (a2 11), .null, .null, .null, .null, .int 0, .int 0, .long 0, .int 0]))] ++ (seaW k a1 seaS)) ++ (talW k a2 talS)) ++ [(q3, .inr (1, [.long 0]))]) H := hP
  have hD : va_D A ((([(h0, .inr (4, [.ref (a1 1), .ref (a2 11), .null, .null, .null, .null, .int 0, .int 0, .long 0, .int 0]))] ++ (seaW k a1 seaS)) ++ (talW k a2 talS)) ++ [(q3, .inr (1, [.long 0]))]) := hD
  refine lv_dup hx hb dX4_init_34 rfl ?_
  refine ctN (n := 0) (As := []) (rest := [.ref q3, .ref h0]) hF (c_X1_init l k q3) hP hD hS hA hK uC_X1_init uN_X1 nM_X4_27 uI_X1_init rfl (by decide +kernel) rfl ⟨Nat.le_of_ble_eq_true rfl, Nat.le_of_ble_eq_true rfl⟩ ⟨Nat.le_of_ble_eq_true rfl, Nat.le_of_ble_eq_true rfl⟩ hl.1 rfl (Nat.le_of_ble_eq_true rfl) dX4_init_35 (fun H locs ws_ hB hP_ hD_ hS => ?_)
  subst hB
  have hP := hP_
  have hD := hD_
  have hP : va_P k.1 vwCl ((([(h0, .inr (4, [.ref (a1 1), .ref (a2 11), .null, .null, .null, .null, .int 0, .int 0, .long 0, .int 0]))] ++ (seaW k a1 seaS)) ++ (talW k a2 talS)) ++ [(q3, .inr (1, [.long 0]))]) H := hP
  have hD : va_D A ((([(h0, .inr (4, [.ref (a1 1), .ref (a2 11), .null, .null, .null, .null, .int 0, .int 0, .long 0, .int 0]))] ++ (seaW k a1 seaS)) ++ (talW k a2 talS)) ++ [(q3, .inr (1, [.long 0]))]) := hD
  refine va_putF (D := k.1) (ci := 4) (v := .ref q3) (ty := .object "AreaGoals$Draw") (C := RX4) (T := TX4) (N := 10) hx hb hU inlX4 tyX4 tyX4_ok nmX4 hown hK.1 hP hD hS 0 rfl rfl 2 (by decide) (hU _ uF_X4_28) (fun _ h9 => h9) rfl hin rfl (by decide +kernel) rfl rfl (Nat.le_of_ble_eq_true rfl) dX4_init_38 (fun H locs hP hD hS => ?_)
  have hP : va_P k.1 vwCl ((([(h0, .inr (4, [.ref (a1 1), .ref (a2 11), .ref q3, .null, .null, .null, .int 0, .int 0, .long 0, .int 0]))] ++ (seaW k a1 seaS)) ++ (talW k a2 talS)) ++ [(q3, .inr (1, [.long 0]))]) H := hP
  have hD : va_D A ((([(h0, .inr (4, [.ref (a1 1), .ref (a2 11), .ref q3, .null, .null, .null, .int 0, .int 0, .long 0, .int 0]))] ++ (seaW k a1 seaS)) ++ (talW k a2 talS)) ++ [(q3, .inr (1, [.long 0]))]) := hD
  refine lv_aload_n hx hb dX4_init_41 rfl (lv_at hl 0 rfl) ?_
  refine va_get (D := k.1) (ci := 4) (v := .ref q3) (C := RX4) (T := TX4) (N := 10) hx hb hU inlX4 hown hK.1 hP 0 rfl rfl 2 (by decide) (hU _ uF_X4_28) (fun _ h9 => h9) rfl dX4_init_42 ?_
  refine lv_lload_n hx hb dX4_init_45 rfl (lv_at hl 1 rfl) ?_
  refine wc1 (n := 1) (As := [.long seed]) (rest := []) hF (c_X1_start l k (fun _ => q3) 0 seed) hP hD hS hA hK 14 (ci := 1) rfl rfl ⟨rfl, rfl⟩ uC_X1_start uN_X1 nM_X4_32 uI_X1_start uE_X1_start (by decide +kernel) rfl ⟨Nat.le_of_ble_eq_true rfl, Nat.le_of_ble_eq_true rfl⟩ ⟨Nat.le_of_ble_eq_true rfl, Nat.le_of_ble_eq_true rfl⟩ hl.1 rfl (Nat.le_of_ble_eq_true rfl) dX4_init_46 (fun H locs hP hD hS => ?_)
  have hP : va_P k.1 vwCl ((([(h0, .inr (4, [.ref (a1 1), .ref (a2 11), .ref q3, .null, .null, .null, .int 0, .int 0, .long 0, .int 0]))] ++ (seaW k a1 seaS)) ++ (talW k a2 talS)) ++ [(q3, .inr (1, [.long (w_X1_start_dr seed)]))]) H := hP
  have hD : va_D A ((([(h0, .inr (4, [.ref (a1 1), .ref (a2 11), .ref q3, .null, .null, .null, .int 0, .int 0, .long 0, .int 0]))] ++ (seaW k a1 seaS)) ++ (talW k a2 talS)) ++ [(q3, .inr (1, [.long (w_X1_start_dr seed)]))]) := hD
  refine lv_aload_n hx hb dX4_init_49 rfl (lv_at hl 0 rfl) ?_
  refine va_new (ci := 1) (fs := [.long 0]) (C := RX1) (T := TX1) (N := 1) hx hb hU inlX1 tyX1 tyX1_ok hown (hU _ uB_X4_25) (hU _ uT_X1) (hU _ uN_X1) hK.1 hP hD hS hA rfl (fun j hj => match j, hj with | 0, _ => rfl | j + 1, hj => absurd hj (by omega)) (Nat.le_of_ble_eq_true rfl) (Nat.le_of_ble_eq_true rfl) dX4_init_50 (fun q4 H hP hD hS => ?_)
  have hP : va_P k.1 vwCl (((([(h0, .inr (4, [.ref (a1 1), .ref (a2 11), .ref q3, .null, .null, .null, .int 0, .int 0, .long 0, .int 0]))] ++ (seaW k a1 seaS)) ++ (talW k a2 talS)) ++ [(q3, .inr (1, [.long (w_X1_start_dr seed)]))]) ++ [(q4, .inr (1, [.long 0]))]) H := hP
  have hD : va_D A (((([(h0, .inr (4, [.ref (a1 1), .ref (a2 11), .ref q3, .null, .null, .null, .int 0, .int 0, .long 0, .int 0]))] ++ (seaW k a1 seaS)) ++ (talW k a2 talS)) ++ [(q3, .inr (1, [.long (w_X1_start_dr seed)]))]) ++ [(q4, .inr (1, [.long 0]))]) := hD
  refine lv_dup hx hb dX4_init_53 rfl ?_
  refine ctN (n := 0) (As := []) (rest := [.ref q4, .ref h0]) hF (c_X1_init l k q4) hP hD hS hA hK uC_X1_init uN_X1 nM_X4_27 uI_X1_init rfl (by decide +kernel) rfl ⟨Nat.le_of_ble_eq_true rfl, Nat.le_of_ble_eq_true rfl⟩ ⟨Nat.le_of_ble_eq_true rfl, Nat.le_of_ble_eq_true rfl⟩ hl.1 rfl (Nat.le_of_ble_eq_true rfl) dX4_init_54 (fun H locs ws_ hB hP_ hD_ hS => ?_)
  subst hB
  have hP := hP_
  have hD := hD_
  have hP : va_P k.1 vwCl (((([(h0, .inr (4, [.ref (a1 1), .ref (a2 11), .ref q3, .null, .null, .null, .int 0, .int 0, .long 0, .int 0]))] ++ (seaW k a1 seaS)) ++ (talW k a2 talS)) ++ [(q3, .inr (1, [.long (w_X1_start_dr seed)]))]) ++ [(q4, .inr (1, [.long 0]))]) H := hP
  have hD : va_D A (((([(h0, .inr (4, [.ref (a1 1), .ref (a2 11), .ref q3, .null, .null, .null, .int 0, .int 0, .long 0, .int 0]))] ++ (seaW k a1 seaS)) ++ (talW k a2 talS)) ++ [(q3, .inr (1, [.long (w_X1_start_dr seed)]))]) ++ [(q4, .inr (1, [.long 0]))]) := hD
  refine va_putF (D := k.1) (ci := 4) (v := .ref q4) (ty := .object "AreaGoals$Draw") (C := RX4) (T := TX4) (N := 10) hx hb hU inlX4 tyX4 tyX4_ok nmX4 hown hK.1 hP hD hS 0 rfl rfl 3 (by decide) (hU _ uF_X4_36) (fun _ h9 => h9) rfl hin rfl (by decide +kernel) rfl rfl (Nat.le_of_ble_eq_true rfl) dX4_init_57 (fun H locs hP hD hS => ?_)
  have hP : va_P k.1 vwCl (((([(h0, .inr (4, [.ref (a1 1), .ref (a2 11), .ref q3, .ref q4, .null, .null, .int 0, .int 0, .long 0, .int 0]))] ++ (seaW k a1 seaS)) ++ (talW k a2 talS)) ++ [(q3, .inr (1, [.long (w_X1_start_dr seed)]))]) ++ [(q4, .inr (1, [.long 0]))]) H := hP
  have hD : va_D A (((([(h0, .inr (4, [.ref (a1 1), .ref (a2 11), .ref q3, .ref q4, .null, .null, .int 0, .int 0, .long 0, .int 0]))] ++ (seaW k a1 seaS)) ++ (talW k a2 talS)) ++ [(q3, .inr (1, [.long (w_X1_start_dr seed)]))]) ++ [(q4, .inr (1, [.long 0]))]) := hD
  refine lv_aload_n hx hb dX4_init_60 rfl (lv_at hl 0 rfl) ?_
  refine va_new (ci := 0) (fs := [.int 0, .int 0, .long 0]) (C := RX0) (T := TX0) (N := 3) hx hb hU inlX0 tyX0 tyX0_ok hown (hU _ uB_X4_39) (hU _ uT_X0) (hU _ uN_X0) hK.1 hP hD hS hA rfl (fun j hj => match j, hj with | 0, _ => rfl | 1, _ => rfl | 2, _ => rfl | j + 3, hj => absurd hj (by omega)) (Nat.le_of_ble_eq_true rfl) (Nat.le_of_ble_eq_true rfl) dX4_init_61 (fun q5 H hP hD hS => ?_)
  have hP : va_P k.1 vwCl ((((([(h0, .inr (4, [.ref (a1 1), .ref (a2 11), .ref q3, .ref q4, .null, .null, .int 0, .int 0, .long 0, .int 0]))] ++ (seaW k a1 seaS)) ++ (talW k a2 talS)) ++ [(q3, .inr (1, [.long (w_X1_start_dr seed)]))]) ++ [(q4, .inr (1, [.long 0]))]) ++ [(q5, .inr (0, [.int 0, .int 0, .long 0]))]) H := hP
  have hD : va_D A ((((([(h0, .inr (4, [.ref (a1 1), .ref (a2 11), .ref q3, .ref q4, .null, .null, .int 0, .int 0, .long 0, .int 0]))] ++ (seaW k a1 seaS)) ++ (talW k a2 talS)) ++ [(q3, .inr (1, [.long (w_X1_start_dr seed)]))]) ++ [(q4, .inr (1, [.long 0]))]) ++ [(q5, .inr (0, [.int 0, .int 0, .long 0]))]) := hD
  refine lv_dup hx hb dX4_init_64 rfl ?_
  refine ctN (n := 0) (As := []) (rest := [.ref q5, .ref h0]) hF (c_X0_init l k q5) hP hD hS hA hK uC_X0_init uN_X0 nM_X4_41 uI_X0_init rfl (by decide +kernel) rfl ⟨Nat.le_of_ble_eq_true rfl, Nat.le_of_ble_eq_true rfl⟩ ⟨Nat.le_of_ble_eq_true rfl, Nat.le_of_ble_eq_true rfl⟩ hl.1 rfl (Nat.le_of_ble_eq_true rfl) dX4_init_65 (fun H locs ws_ hB hP_ hD_ hS => ?_)
  subst hB
  have hP := hP_
  have hD := hD_
  have hP : va_P k.1 vwCl ((((([(h0, .inr (4, [.ref (a1 1), .ref (a2 11), .ref q3, .ref q4, .null, .null, .int 0, .int 0, .long 0, .int 0]))] ++ (seaW k a1 seaS)) ++ (talW k a2 talS)) ++ [(q3, .inr (1, [.long (w_X1_start_dr seed)]))]) ++ [(q4, .inr (1, [.long 0]))]) ++ [(q5, .inr (0, [.int 0, .int 0, .long (-1)]))]) H := hP
  have hD : va_D A ((((([(h0, .inr (4, [.ref (a1 1), .ref (a2 11), .ref q3, .ref q4, .null, .null, .int 0, .int 0, .long 0, .int 0]))] ++ (seaW k a1 seaS)) ++ (talW k a2 talS)) ++ [(q3, .inr (1, [.long (w_X1_start_dr seed)]))]) ++ [(q4, .inr (1, [.long 0]))]) ++ [(q5, .inr (0, [.int 0, .int 0, .long (-1)]))]) := hD
  refine va_putF (D := k.1) (ci := 4) (v := .ref q5) (ty := .object "AreaGoals$Choice") (C := RX4) (T := TX4) (N := 10) hx hb hU inlX4 tyX4 tyX4_ok nmX4 hown hK.1 hP hD hS 0 rfl rfl 4 (by decide) (hU _ uF_X4_42) (fun _ h9 => h9) rfl hin rfl (by decide +kernel) rfl rfl (Nat.le_of_ble_eq_true rfl) dX4_init_68 (fun H locs hP hD hS => ?_)
  have hP : va_P k.1 vwCl ((((([(h0, .inr (4, [.ref (a1 1), .ref (a2 11), .ref q3, .ref q4, .ref q5, .null, .int 0, .int 0, .long 0, .int 0]))] ++ (seaW k a1 seaS)) ++ (talW k a2 talS)) ++ [(q3, .inr (1, [.long (w_X1_start_dr seed)]))]) ++ [(q4, .inr (1, [.long 0]))]) ++ [(q5, .inr (0, [.int 0, .int 0, .long (-1)]))]) H := hP
  have hD : va_D A ((((([(h0, .inr (4, [.ref (a1 1), .ref (a2 11), .ref q3, .ref q4, .ref q5, .null, .int 0, .int 0, .long 0, .int 0]))] ++ (seaW k a1 seaS)) ++ (talW k a2 talS)) ++ [(q3, .inr (1, [.long (w_X1_start_dr seed)]))]) ++ [(q4, .inr (1, [.long 0]))]) ++ [(q5, .inr (0, [.int 0, .int 0, .long (-1)]))]) := hD
  refine lv_aload_n hx hb dX4_init_71 rfl (lv_at hl 0 rfl) ?_
  refine lv_bipush (v := 24) hx hb dX4_init_72 (by decide) ?_
  refine x_newa (atype := .int) (a0 := (24, .inl (fun _ => 0))) (ty := .int) hx hb (hU _ uA_int) rfl hK 0 rfl (by decide) hP hD hS hA (fun _ => rfl) (by decide) (by decide) (by decide) (Nat.le_of_ble_eq_true rfl) (Nat.le_of_ble_eq_true rfl) dX4_init_74 (fun q6 H hP hD hS => ?_)
  have hP : va_P k.1 vwCl (((((([(h0, .inr (4, [.ref (a1 1), .ref (a2 11), .ref q3, .ref q4, .ref q5, .null, .int 0, .int 0, .long 0, .int 0]))] ++ (seaW k a1 seaS)) ++ (talW k a2 talS)) ++ [(q3, .inr (1, [.long (w_X1_start_dr seed)]))]) ++ [(q4, .inr (1, [.long 0]))]) ++ [(q5, .inr (0, [.int 0, .int 0, .long (-1)]))]) ++ [(q6, .inl (k.2.1, 24, .inl (fun _ => 0)))]) H := hP
  have hD : va_D A (((((([(h0, .inr (4, [.ref (a1 1), .ref (a2 11), .ref q3, .ref q4, .ref q5, .null, .int 0, .int 0, .long 0, .int 0]))] ++ (seaW k a1 seaS)) ++ (talW k a2 talS)) ++ [(q3, .inr (1, [.long (w_X1_start_dr seed)]))]) ++ [(q4, .inr (1, [.long 0]))]) ++ [(q5, .inr (0, [.int 0, .int 0, .long (-1)]))]) ++ [(q6, .inl (k.2.1, 24, .inl (fun _ => 0)))]) := hD
  refine va_putF (D := k.1) (ci := 4) (v := .ref q6) (ty := .array .int) (C := RX4) (T := TX4) (N := 10) hx hb hU inlX4 tyX4 tyX4_ok nmX4 hown hK.1 hP hD hS 0 rfl rfl 5 (by decide) (hU _ uF_X4_46) (fun _ h9 => h9) rfl hin rfl (by decide +kernel) rfl rfl (Nat.le_of_ble_eq_true rfl) dX4_init_76 (fun H locs hP hD hS => ?_)
  have hP : va_P k.1 vwCl (((((([(h0, .inr (4, [.ref (a1 1), .ref (a2 11), .ref q3, .ref q4, .ref q5, .ref q6, .int 0, .int 0, .long 0, .int 0]))] ++ (seaW k a1 seaS)) ++ (talW k a2 talS)) ++ [(q3, .inr (1, [.long (w_X1_start_dr seed)]))]) ++ [(q4, .inr (1, [.long 0]))]) ++ [(q5, .inr (0, [.int 0, .int 0, .long (-1)]))]) ++ [(q6, .inl (k.2.1, 24, .inl (fun _ => 0)))]) H := hP
  have hD : va_D A (((((([(h0, .inr (4, [.ref (a1 1), .ref (a2 11), .ref q3, .ref q4, .ref q5, .ref q6, .int 0, .int 0, .long 0, .int 0]))] ++ (seaW k a1 seaS)) ++ (talW k a2 talS)) ++ [(q3, .inr (1, [.long (w_X1_start_dr seed)]))]) ++ [(q4, .inr (1, [.long 0]))]) ++ [(q5, .inr (0, [.int 0, .int 0, .long (-1)]))]) ++ [(q6, .inl (k.2.1, 24, .inl (fun _ => 0)))]) := hD
  refine lv_aload_n hx hb dX4_init_79 rfl (lv_at hl 0 rfl) ?_
  refine lv_iconst (v := (-1)) hx hb dX4_init_80 (by decide) ?_
  refine va_put (D := k.1) (ci := 4) (v := .int (-1)) (ty := .int) (C := RX4) (T := TX4) (N := 10) hx hb hU inlX4 tyX4 tyX4_ok nmX4 hown hK.1 hP hD hS 0 rfl rfl 7 (by decide) (hU _ uF_X4_50) (fun _ h9 => h9) rfl (by decide +kernel) rfl rfl (Nat.le_of_ble_eq_true rfl) dX4_init_81 (fun H locs hP hD hS => ?_)
  have hP : va_P k.1 vwCl (((((([(h0, .inr (4, [.ref (a1 1), .ref (a2 11), .ref q3, .ref q4, .ref q5, .ref q6, .int 0, .int (-1), .long 0, .int 0]))] ++ (seaW k a1 seaS)) ++ (talW k a2 talS)) ++ [(q3, .inr (1, [.long (w_X1_start_dr seed)]))]) ++ [(q4, .inr (1, [.long 0]))]) ++ [(q5, .inr (0, [.int 0, .int 0, .long (-1)]))]) ++ [(q6, .inl (k.2.1, 24, .inl (fun _ => 0)))]) H := hP
  have hD : va_D A (((((([(h0, .inr (4, [.ref (a1 1), .ref (a2 11), .ref q3, .ref q4, .ref q5, .ref q6, .int 0, .int (-1), .long 0, .int 0]))] ++ (seaW k a1 seaS)) ++ (talW k a2 talS)) ++ [(q3, .inr (1, [.long (w_X1_start_dr seed)]))]) ++ [(q4, .inr (1, [.long 0]))]) ++ [(q5, .inr (0, [.int 0, .int 0, .long (-1)]))]) ++ [(q6, .inl (k.2.1, 24, .inl (fun _ => 0)))]) := hD
  refine lv_aload_n hx hb dX4_init_84 rfl (lv_at hl 0 rfl) ?_
  refine lv_ldc2 hx hb hown (hU _ uK_X4_54) dX4_init_85 ?_
  refine va_put (D := k.1) (ci := 4) (v := .long (-1)) (ty := .long) (C := RX4) (T := TX4) (N := 10) hx hb hU inlX4 tyX4 tyX4_ok nmX4 hown hK.1 hP hD hS 0 rfl rfl 8 (by decide) (hU _ uF_X4_56) (fun _ h9 => h9) rfl (by decide +kernel) rfl rfl (Nat.le_of_ble_eq_true rfl) dX4_init_88 (fun H locs hP hD hS => ?_)
  have hP : va_P k.1 vwCl (((((([(h0, .inr (4, [.ref (a1 1), .ref (a2 11), .ref q3, .ref q4, .ref q5, .ref q6, .int 0, .int (-1), .long (-1), .int 0]))] ++ (seaW k a1 seaS)) ++ (talW k a2 talS)) ++ [(q3, .inr (1, [.long (w_X1_start_dr seed)]))]) ++ [(q4, .inr (1, [.long 0]))]) ++ [(q5, .inr (0, [.int 0, .int 0, .long (-1)]))]) ++ [(q6, .inl (k.2.1, 24, .inl (fun _ => 0)))]) H := hP
  have hD : va_D A (((((([(h0, .inr (4, [.ref (a1 1), .ref (a2 11), .ref q3, .ref q4, .ref q5, .ref q6, .int 0, .int (-1), .long (-1), .int 0]))] ++ (seaW k a1 seaS)) ++ (talW k a2 talS)) ++ [(q3, .inr (1, [.long (w_X1_start_dr seed)]))]) ++ [(q4, .inr (1, [.long 0]))]) ++ [(q5, .inr (0, [.int 0, .int 0, .long (-1)]))]) ++ [(q6, .inl (k.2.1, 24, .inl (fun _ => 0)))]) := hD
  exact W.vret hx hb hr (fun t ht hW => ⟨⟨rfl, _, ⟨fun j => match j with | 0 => h0 | 1 => a1 1 | 2 => a1 2 | 3 => a1 3 | 4 => a1 4 | 5 => a1 5 | 6 => a1 6 | 7 => a1 7 | 8 => a1 8 | 9 => a1 9 | 10 => a1 10 | 11 => a2 11 | 12 => a2 12 | 13 => a2 13 | 14 => q3 | 15 => q4 | 16 => q5 | _ => q6, rfl, by unfold talW; rw [hs2]; rfl⟩, by rw [ht]; exact hP, hD⟩, hS.F ht⟩) hS.2.2 dX4_init_91
