def djM (n : Nat) (x : Int64) : Nat := (Int64.toInt32 (lu x 1 - lu x 1 / Int32.toInt64 (nI n) * Int32.toInt64 (nI n))).toNatClampNeg
theorem djM_spec {n : Nat} (h0 : 0 < n) (hn : n ≤ 24) (x : Int64) : Int64.toInt32 (lu x 1 - lu x 1 / Int32.toInt64 (nI n) * Int32.toInt64 (nI n)) = nI (djM n x) ∧ djM n x < n := by
  obtain ⟨j, hj, e⟩ := lrem_nI (v := lu x 1) h0 (by omega) (lu1_nonneg _)
  unfold djM
  rw [e, nI_clamp (by omega)]
  exact ⟨rfl, hj⟩
def spX (n : Nat) (y : Int64 × ModT) : Int32 := (M_tried y.2) ^^^ (1 <<< (nI (djM n (w_X5_next y.1)) &&& 31))
def sps (n : Nat) (y : Int64 × ModT) : Int64 × ModT :=
  if w_X5_costOf y.2 (spX n y) n < M_triedCost y.2 then
    (if w_X5_stands y.2 (spX n y) n = 0 then (w_X5_next y.1, y.2)
     else (w_X5_next y.1, sM_kept (sM_triedCost (sM_tried y.2 (spX n y)) (w_X5_costOf (sM_tried y.2 (spX n y)) (spX n y) n)) (M_kept y.2 + 1)))
  else (w_X5_next y.1, y.2)
def sp (n : Nat) (x : Int64 × ModT) : Nat → Int64 × ModT
  | 0 => x
  | i + 1 => sps n (sp n x i)
def sp0 (M : ModT) (n : Nat) (fr : Int64) : Int64 × ModT := (fr, sM_kept (sM_triedCost (sM_tried M (opn M n)) (w_X5_costOf (sM_tried M (opn M n)) (opn M n) n)) 0)
theorem sps_cells (n : Nat) (y : Int64 × ModT) : M_cells (sps n y).2 = M_cells y.2 := by
  unfold sps
  split
  · split <;> rfl
  · rfl
set_option maxHeartbeats 4000000 in
set_option maxRecDepth 100000 in
theorem c_X5_steps (l : Launch) (k : KT) (a : Nat → Nat) (M : ModT) (fr : Int64) (N : Nat) (n : Nat) (hn : n ≤ 24) (hc : M_cells M = nI n) (hn0 : 0 < n) (hN : N ≤ 1000) : MW l yX5_steps cX5_steps 8 (some .long) (rz 4 91) k [.ref (a 0), .long fr, .int (nI N)] (mW k a M) (some (.long ((sp n (sp0 M n fr) N).1))) (mW k a (sp n (sp0 M n fr) N).2) := by
  intro sz
  refine Met.ofW (cc := cX5_steps) (maxL := 8) (ret := (some .long)) (by decide) rfl ?_
  intro p e s m args below meth c s₁ B hml hv
  obtain ⟨rfl, hsz, hP, hK, hD0⟩ := hv
  have hx := B.exec
  have hb := B.bytes
  have hr := B.returns
  have hU : ∀ w ∈ wsL_law, w.before [.ref (a 0), .long fr, .int (nI N)].toArray s = true := fun w h => atoms_spec (ws := Cond.code yX5_steps cX5_steps 8 (some .long) :: wsL_law) B.pre w (List.mem_cons_of_mem _ h)
  have hown : s.vm.findClass RX5 = some m.cls := findClass_of_methodNamed B.named
  have hlocks := B.notSynchronized
  have hF : CF p m c cX5_steps 8 s [.ref (a 0), .long fr, .int (nI N)].toArray RX5 := ⟨hx, hb, hml, hown, hU⟩
  subst hsz
  have hD := hD0.self (sz := s.heap.size)
  generalize hAe : va_A (mW k a M) s.heap.size = A at hD ⊢
  have hA : ∀ q : Nat, s.heap.size ≤ q → A q := fun q h => by rw [← hAe]; exact Or.inr h
  have hS : va_S A s.heap s.heap [] := va_S.rf
  have hl := lv_entry ([.ref (a 0), .long fr, .int (nI N)] : List Value) (n := 8) (Nat.le_of_ble_eq_true rfl)
  rw [lg_entry_eq]
  generalize (lg_sl ([.ref (a 0), .long fr, .int (nI N)] : List Value) ++ List.replicate (8 - (lg_sl ([.ref (a 0), .long fr, .int (nI N)] : List Value)).length) Slot.unset).toArray = ls at hl ⊢
  have hl : lv_has ls 8 [(0, .ref (a 0)), (1, .long fr), (3, .int (nI N))] := hl
  refine lv_lload_n hx hb dX5_steps_0 rfl (lv_at hl 1 rfl) ?_
  refine lv_lstore (lv' := [(4, .long fr), (0, .ref (a 0)), (1, .long fr), (3, .int (nI N))]) hx hb dX5_steps_1 hl (by decide) rfl (fun ls hl => ?_)
  refine lv_aload_n hx hb dX5_steps_3 rfl (lv_at hl 1 rfl) ?_
  refine lv_aload_n hx hb dX5_steps_4 rfl (lv_at hl 1 rfl) ?_
  refine rcV (n := 0) (As := []) (rest := [.ref (a 0)]) hF (c_X5_open l k a M  n hn hc) (hP) hK 0 (ci := 5) rfl rfl rfl uC_X5_open uN_X5 uM_X5_139 uI_X5_open uE_X5_open (by decide +kernel) rfl ⟨Nat.le_of_ble_eq_true rfl, Nat.le_of_ble_eq_true rfl⟩ ⟨Nat.zero_le _, Nat.zero_le _⟩ hl.1 rfl (Nat.le_of_ble_eq_true rfl) dX5_steps_5 ?_
  refine va_put (D := k.1) (ci := 5) (v := .int (opn M n)) (ty := .int) (C := RX5) (T := TX5) (N := 27) hx hb hU inlX5 tyX5 tyX5_ok nmX5 hown hK.1 hP hD hS 0 rfl rfl 24 (by decide) (hU _ uF_X5_163) (fun _ h9 => h9) rfl (by decide +kernel) rfl rfl (Nat.le_of_ble_eq_true rfl) dX5_steps_8 (fun H locs hP hD hS => ?_)
  have hP := pz_m_0_24 k a M (opn M n) hP
  have hD := dz_m_0_24 k a M (opn M n) hD
  refine lv_aload_n hx hb dX5_steps_11 rfl (lv_at hl 1 rfl) ?_
  refine lv_aload_n hx hb dX5_steps_12 rfl (lv_at hl 1 rfl) ?_
  refine lv_aload_n hx hb dX5_steps_13 rfl (lv_at hl 1 rfl) ?_
  refine va_get (D := k.1) (ci := 5) (v := .int (opn M n)) (C := RX5) (T := TX5) (N := 27) hx hb hU inlX5 hown hK.1 hP 0 rfl rfl 24 (by decide) (hU _ uF_X5_163) (fun _ h9 => h9) rfl dX5_steps_14 ?_
  refine rcV (n := 1) (As := [.int (opn M n)]) (rest := [.ref (a 0)]) hF (c_X5_costOf l k a (sM_tried M (opn M n)) (opn M n) n hn hc) (hP) hK 0 (ci := 5) rfl rfl rfl uC_X5_costOf uN_X5 uM_X5_152 uI_X5_costOf uE_X5_costOf (by decide +kernel) rfl ⟨Nat.le_of_ble_eq_true rfl, Nat.le_of_ble_eq_true rfl⟩ ⟨Nat.zero_le _, Nat.zero_le _⟩ hl.1 rfl (Nat.le_of_ble_eq_true rfl) dX5_steps_17 ?_
  refine va_put (D := k.1) (ci := 5) (v := .long (w_X5_costOf (sM_tried M (opn M n)) (opn M n) n)) (ty := .long) (C := RX5) (T := TX5) (N := 27) hx hb hU inlX5 tyX5 tyX5_ok nmX5 hown hK.1 hP hD hS 0 rfl rfl 25 (by decide) (hU _ uF_X5_166) (fun _ h9 => h9) rfl (by decide +kernel) rfl rfl (Nat.le_of_ble_eq_true rfl) dX5_steps_20 (fun H locs hP hD hS => ?_)
  have hP := pz_m_0_25 k a (sM_tried M (opn M n)) (w_X5_costOf (sM_tried M (opn M n)) (opn M n) n) hP
  have hD := dz_m_0_25 k a (sM_tried M (opn M n)) (w_X5_costOf (sM_tried M (opn M n)) (opn M n) n) hD
  refine lv_aload_n hx hb dX5_steps_23 rfl (lv_at hl 1 rfl) ?_
  refine lv_iconst (v := 0) hx hb dX5_steps_24 (by decide) ?_
  refine va_put (D := k.1) (ci := 5) (v := .int 0) (ty := .int) (C := RX5) (T := TX5) (N := 27) hx hb hU inlX5 tyX5 tyX5_ok nmX5 hown hK.1 hP hD hS 0 rfl rfl 26 (by decide) (hU _ uF_X5_169) (fun _ h9 => h9) rfl (by decide +kernel) rfl rfl (Nat.le_of_ble_eq_true rfl) dX5_steps_25 (fun H locs hP hD hS => ?_)
  have hP := pz_m_0_26 k a (sM_triedCost (sM_tried M (opn M n)) (w_X5_costOf (sM_tried M (opn M n)) (opn M n) n)) 0 hP
  have hD := dz_m_0_26 k a (sM_triedCost (sM_tried M (opn M n)) (w_X5_costOf (sM_tried M (opn M n)) (opn M n) n)) 0 hD
  refine lv_iconst (v := 0) hx hb dX5_steps_28 (by decide) ?_
  refine lv_istore (lv' := [(6, .int 0), (4, .long fr), (0, .ref (a 0)), (1, .long fr), (3, .int (nI N))]) hx hb dX5_steps_29 hl (by decide) rfl (fun ls hl => ?_)
  have loop_i : ∀ (ri i : Nat), i + ri * 1 = N → ∀ (ls : Array Slot) (H : Heap) (locs : List Loc) , lv_has ls 8 [(6, .int (nI i)), (4, .long ((sp n (sp0 M n fr) i).1)), (0, .ref (a 0)), (1, .long fr), (3, .int (nI N))] → va_P k.1 vwCl (mW k a (sp n (sp0 M n fr) i).2) H → va_D A (mW k a (sp n (sp0 M n fr) i).2) → va_S A s.heap H locs → M_cells (sp n (sp0 M n fr) i).2 = nI n → WW p l e s m below meth c yX5_steps cX5_steps 8 (some .long) (rz 4 91) [.ref (a 0), .long fr, .int (nI N)] (some (.long ((sp n (sp0 M n fr) N).1))) k (mW k a (sp n (sp0 M n fr) N).2) A H locs (F0 m 31 ls []) := by
    intro ri
    induction ri with
    | zero =>
      intro i hi_i ls H locs hl hP hD hS hv_i
      have he_i : N = i := by omega
      subst he_i
      refine lv_iload hx hb dX5_steps_31 (lv_at hl 0 rfl) ?_
      refine lv_iload_n hx hb dX5_steps_33 rfl (lv_at hl 4 rfl) ?_
      refine xb_ge (tgt := 119) hx hb dX5_steps_34 (by decide) (fun c_1 => ?_) (fun c9 => absurd c9 (nI_nlt (a := N) (b := N) (Nat.le_refl _) (by omega)))
      refine lv_lload hx hb dX5_steps_119 (lv_at hl 1 rfl) ?_
      have hP9 : va_P k.1 vwCl (mW k a (sp n (sp0 M n fr) N).2) H := hP
      have hD9 : va_D A (mW k a (sp n (sp0 M n fr) N).2) := hD
      exact W.lret (v := ((sp n (sp0 M n fr) N).1)) hx hb hr (fun t ht hW => ⟨⟨rfl, by rw [ht]; exact hP9, hD9⟩, hS.F ht⟩) hS.2.2 dX5_steps_121
    | succ ri ih_i =>
      intro i hi_i ls H locs hl hP hD hS hv_i
      have ht_i : i < N := by omega
      refine lv_iload hx hb dX5_steps_31 (lv_at hl 0 rfl) ?_
      refine lv_iload_n hx hb dX5_steps_33 rfl (lv_at hl 4 rfl) ?_
      refine xb_ge (tgt := 119) hx hb dX5_steps_34 (by decide) (fun c9 => absurd (nI_lt (a := i) (b := N) (by omega) (by omega)) c9) (fun c_2 => ?_)
      refine lv_lload hx hb dX5_steps_37 (lv_at hl 1 rfl) ?_
      refine rcS (n := 1) (As := [.long ((sp n (sp0 M n fr) i).1)]) (rest := []) hF (c_X5_next l k  ((sp n (sp0 M n fr) i).1) ) (hP.sub (ws' := []) [] rfl) hK uC_X5_next uN_X5 uM_X5_172 uS_X5_next (by decide +kernel) rfl ⟨Nat.le_of_ble_eq_true rfl, Nat.le_of_ble_eq_true rfl⟩ ⟨Nat.zero_le _, Nat.zero_le _⟩ hl.1 rfl (Nat.le_of_ble_eq_true rfl) dX5_steps_39 ?_
      refine lv_lstore (lv' := [(4, .long (w_X5_next ((sp n (sp0 M n fr) i).1))), (6, .int (nI i)), (0, .ref (a 0)), (1, .long fr), (3, .int (nI N))]) hx hb dX5_steps_42 hl (by decide) rfl (fun ls hl => ?_)
      refine lv_aload_n hx hb dX5_steps_44 rfl (lv_at hl 2 rfl) ?_
      refine va_get (D := k.1) (ci := 5) (v := .int (M_tried (sp n (sp0 M n fr) i).2)) (C := RX5) (T := TX5) (N := 27) hx hb hU inlX5 hown hK.1 hP 0 rfl rfl 24 (by decide) (hU _ uF_X5_163) (fun _ h9 => h9) rfl dX5_steps_45 ?_
      refine lv_iconst (v := 1) hx hb dX5_steps_48 (by decide) ?_
      refine lv_lload hx hb dX5_steps_49 (lv_at hl 0 rfl) ?_
      refine lv_iconst (v := 1) hx hb dX5_steps_51 (by decide) ?_
      refine lv_lushr (v := (lu (w_X5_next ((sp n (sp0 M n fr) i).1)) 1)) hx hb dX5_steps_52 rfl ?_
      refine lv_aload_n hx hb dX5_steps_53 rfl (lv_at hl 2 rfl) ?_
      refine va_get (D := k.1) (ci := 5) (v := .int (M_cells (sp n (sp0 M n fr) i).2)) (C := RX5) (T := TX5) (N := 27) hx hb hU inlX5 hown hK.1 hP 0 rfl rfl 0 (by decide) (hU _ uF_X5_49) (fun _ h9 => h9) rfl dX5_steps_54 ?_
      refine lv_i2l (v := (Int32.toInt64 (M_cells (sp n (sp0 M n fr) i).2))) hx hb dX5_steps_57 rfl ?_
      refine lv_lrem hx hb dX5_steps_58 (by rw [hv_i, nI_l (by omega)]; intro h; have h1 := (pk_lEQ (a := n) (b := 0) (by omega) (by omega)).mp h; omega) ?_
      refine lv_l2i (v := (Int64.toInt32 ((lu (w_X5_next ((sp n (sp0 M n fr) i).1)) 1) - (lu (w_X5_next ((sp n (sp0 M n fr) i).1)) 1) / (Int32.toInt64 (M_cells (sp n (sp0 M n fr) i).2)) * (Int32.toInt64 (M_cells (sp n (sp0 M n fr) i).2))))) hx hb dX5_steps_59 rfl ?_
      refine W.eq (g2 := F0 m 60 ls [.int (nI (djM n (w_X5_next (sp n (sp0 M n fr) i).1))), .int 1, .int (M_tried (sp n (sp0 M n fr) i).2)]) (by rw [hv_i, (djM_spec hn0 hn _).1]; try rfl) ?_
      refine lv_ishl hx hb dX5_steps_60 ?_
      refine lv_ixor hx hb dX5_steps_61 ?_
      refine W.eq (g2 := F0 m 62 ls [.int (spX n (sp n (sp0 M n fr) i))]) rfl ?_
      refine lv_istore (lv' := [(7, .int (spX n (sp n (sp0 M n fr) i))), (4, .long (w_X5_next ((sp n (sp0 M n fr) i).1))), (6, .int (nI i)), (0, .ref (a 0)), (1, .long fr), (3, .int (nI N))]) hx hb dX5_steps_62 hl (by decide) rfl (fun ls hl => ?_)
      refine lv_aload_n hx hb dX5_steps_64 rfl (lv_at hl 3 rfl) ?_
      refine lv_iload hx hb dX5_steps_65 (lv_at hl 0 rfl) ?_
      refine rcV (n := 1) (As := [.int (spX n (sp n (sp0 M n fr) i))]) (rest := []) hF (c_X5_costOf l k a (sp n (sp0 M n fr) i).2 (spX n (sp n (sp0 M n fr) i)) n hn hv_i) (hP) hK 0 (ci := 5) rfl rfl rfl uC_X5_costOf uN_X5 uM_X5_152 uI_X5_costOf uE_X5_costOf (by decide +kernel) rfl ⟨Nat.le_of_ble_eq_true rfl, Nat.le_of_ble_eq_true rfl⟩ ⟨Nat.zero_le _, Nat.zero_le _⟩ hl.1 rfl (Nat.le_of_ble_eq_true rfl) dX5_steps_67 ?_
      refine lv_aload_n hx hb dX5_steps_70 rfl (lv_at hl 3 rfl) ?_
      refine va_get (D := k.1) (ci := 5) (v := .long (M_triedCost (sp n (sp0 M n fr) i).2)) (C := RX5) (T := TX5) (N := 27) hx hb hU inlX5 hown hK.1 hP 0 rfl rfl 25 (by decide) (hU _ uF_X5_166) (fun _ h9 => h9) rfl dX5_steps_71 ?_
      refine xl_ge (tgt := 113) hx hb dX5_steps_74 dX5_steps_75 (by decide) (fun c_3 => ?_) (fun c_3 => ?_)
      · refine lv_iinc (v := nI (i + 1)) (lv' := [(6, .int (nI (i + 1))), (7, .int (spX n (sp n (sp0 M n fr) i))), (4, .long (w_X5_next ((sp n (sp0 M n fr) i).1))), (0, .ref (a 0)), (1, .long fr), (3, .int (nI N))]) hx hb dX5_steps_113 hl (k := 2) rfl (nI_add i 1) (by decide) rfl (fun ls hl => ?_)
        refine lv_goto (tgt := 31) hx hb dX5_steps_116 (by decide) ?_
        have hq1 : (sp n (sp0 M n fr) i).2 = (sp n (sp0 M n fr) (i + 1)).2 := by rw [sp, sps, if_neg c_3]
        rw [hq1] at hP hD
        have hq2 : (w_X5_next ((sp n (sp0 M n fr) i).1)) = (sp n (sp0 M n fr) (i + 1)).1 := by rw [sp, sps, if_neg c_3]
        rw [hq2] at hl
        have hv2 : M_cells (sp n (sp0 M n fr) (i + 1)).2 = nI n := by rw [sp, sps_cells]; exact hv_i
        exact ih_i (i + 1) (by omega) ls _ _ (lv_sub hl [0, 2, 3, 4, 5] rfl) hP hD hS hv2
      · refine lv_aload_n hx hb dX5_steps_78 rfl (lv_at hl 3 rfl) ?_
        refine lv_iload hx hb dX5_steps_79 (lv_at hl 0 rfl) ?_
        refine rcV (n := 1) (As := [.int (spX n (sp n (sp0 M n fr) i))]) (rest := []) hF (c_X5_stands l k a (sp n (sp0 M n fr) i).2 (spX n (sp n (sp0 M n fr) i)) n hn hv_i) (hP) hK 0 (ci := 5) rfl rfl rfl uC_X5_stands uN_X5 uM_X5_158 uI_X5_stands uE_X5_stands (by decide +kernel) rfl ⟨Nat.le_of_ble_eq_true rfl, Nat.le_of_ble_eq_true rfl⟩ ⟨Nat.zero_le _, Nat.zero_le _⟩ hl.1 rfl (Nat.le_of_ble_eq_true rfl) dX5_steps_81 ?_
        refine lv_if_eq (tgt := 113) hx hb dX5_steps_84 (by decide) (fun c_4 => ?_) (fun c_4 => ?_)
        · refine lv_iinc (v := nI (i + 1)) (lv' := [(6, .int (nI (i + 1))), (7, .int (spX n (sp n (sp0 M n fr) i))), (4, .long (w_X5_next ((sp n (sp0 M n fr) i).1))), (0, .ref (a 0)), (1, .long fr), (3, .int (nI N))]) hx hb dX5_steps_113 hl (k := 2) rfl (nI_add i 1) (by decide) rfl (fun ls hl => ?_)
          refine lv_goto (tgt := 31) hx hb dX5_steps_116 (by decide) ?_
          have hq1 : (sp n (sp0 M n fr) i).2 = (sp n (sp0 M n fr) (i + 1)).2 := by rw [sp, sps, if_pos c_3, if_pos c_4]
          rw [hq1] at hP hD
          have hq2 : (w_X5_next ((sp n (sp0 M n fr) i).1)) = (sp n (sp0 M n fr) (i + 1)).1 := by rw [sp, sps, if_pos c_3, if_pos c_4]
          rw [hq2] at hl
          have hv2 : M_cells (sp n (sp0 M n fr) (i + 1)).2 = nI n := by rw [sp, sps_cells]; exact hv_i
          exact ih_i (i + 1) (by omega) ls _ _ (lv_sub hl [0, 2, 3, 4, 5] rfl) hP hD hS hv2
        · refine lv_aload_n hx hb dX5_steps_87 rfl (lv_at hl 3 rfl) ?_
          refine lv_iload hx hb dX5_steps_88 (lv_at hl 0 rfl) ?_
          refine va_put (D := k.1) (ci := 5) (v := .int (spX n (sp n (sp0 M n fr) i))) (ty := .int) (C := RX5) (T := TX5) (N := 27) hx hb hU inlX5 tyX5 tyX5_ok nmX5 hown hK.1 hP hD hS 0 rfl rfl 24 (by decide) (hU _ uF_X5_163) (fun _ h9 => h9) rfl (by decide +kernel) rfl rfl (Nat.le_of_ble_eq_true rfl) dX5_steps_90 (fun H locs hP hD hS => ?_)
          have hP := pz_m_0_24 k a (sp n (sp0 M n fr) i).2 (spX n (sp n (sp0 M n fr) i)) hP
          have hD := dz_m_0_24 k a (sp n (sp0 M n fr) i).2 (spX n (sp n (sp0 M n fr) i)) hD
          refine lv_aload_n hx hb dX5_steps_93 rfl (lv_at hl 3 rfl) ?_
          refine lv_aload_n hx hb dX5_steps_94 rfl (lv_at hl 3 rfl) ?_
          refine lv_iload hx hb dX5_steps_95 (lv_at hl 0 rfl) ?_
          refine rcV (n := 1) (As := [.int (spX n (sp n (sp0 M n fr) i))]) (rest := [.ref (a 0)]) hF (c_X5_costOf l k a (sM_tried (sp n (sp0 M n fr) i).2 (spX n (sp n (sp0 M n fr) i))) (spX n (sp n (sp0 M n fr) i)) n hn hv_i) (hP) hK 0 (ci := 5) rfl rfl rfl uC_X5_costOf uN_X5 uM_X5_152 uI_X5_costOf uE_X5_costOf (by decide +kernel) rfl ⟨Nat.le_of_ble_eq_true rfl, Nat.le_of_ble_eq_true rfl⟩ ⟨Nat.zero_le _, Nat.zero_le _⟩ hl.1 rfl (Nat.le_of_ble_eq_true rfl) dX5_steps_97 ?_
          refine va_put (D := k.1) (ci := 5) (v := .long (w_X5_costOf (sM_tried (sp n (sp0 M n fr) i).2 (spX n (sp n (sp0 M n fr) i))) (spX n (sp n (sp0 M n fr) i)) n)) (ty := .long) (C := RX5) (T := TX5) (N := 27) hx hb hU inlX5 tyX5 tyX5_ok nmX5 hown hK.1 hP hD hS 0 rfl rfl 25 (by decide) (hU _ uF_X5_166) (fun _ h9 => h9) rfl (by decide +kernel) rfl rfl (Nat.le_of_ble_eq_true rfl) dX5_steps_100 (fun H locs hP hD hS => ?_)
          have hP := pz_m_0_25 k a (sM_tried (sp n (sp0 M n fr) i).2 (spX n (sp n (sp0 M n fr) i))) (w_X5_costOf (sM_tried (sp n (sp0 M n fr) i).2 (spX n (sp n (sp0 M n fr) i))) (spX n (sp n (sp0 M n fr) i)) n) hP
          have hD := dz_m_0_25 k a (sM_tried (sp n (sp0 M n fr) i).2 (spX n (sp n (sp0 M n fr) i))) (w_X5_costOf (sM_tried (sp n (sp0 M n fr) i).2 (spX n (sp n (sp0 M n fr) i))) (spX n (sp n (sp0 M n fr) i)) n) hD
          refine lv_aload_n hx hb dX5_steps_103 rfl (lv_at hl 3 rfl) ?_
          refine lv_dup hx hb dX5_steps_104 rfl ?_
          refine va_get (D := k.1) (ci := 5) (v := .int (M_kept (sp n (sp0 M n fr) i).2)) (C := RX5) (T := TX5) (N := 27) hx hb hU inlX5 hown hK.1 hP 0 rfl rfl 26 (by decide) (hU _ uF_X5_169) (fun _ h9 => h9) rfl dX5_steps_105 ?_
          refine lv_iconst (v := 1) hx hb dX5_steps_108 (by decide) ?_
          refine lv_iadd hx hb dX5_steps_109 ?_
          refine va_put (D := k.1) (ci := 5) (v := .int ((M_kept (sp n (sp0 M n fr) i).2) + 1)) (ty := .int) (C := RX5) (T := TX5) (N := 27) hx hb hU inlX5 tyX5 tyX5_ok nmX5 hown hK.1 hP hD hS 0 rfl rfl 26 (by decide) (hU _ uF_X5_169) (fun _ h9 => h9) rfl (by decide +kernel) rfl rfl (Nat.le_of_ble_eq_true rfl) dX5_steps_110 (fun H locs hP hD hS => ?_)
          have hP := pz_m_0_26 k a (sM_triedCost (sM_tried (sp n (sp0 M n fr) i).2 (spX n (sp n (sp0 M n fr) i))) (w_X5_costOf (sM_tried (sp n (sp0 M n fr) i).2 (spX n (sp n (sp0 M n fr) i))) (spX n (sp n (sp0 M n fr) i)) n)) ((M_kept (sp n (sp0 M n fr) i).2) + 1) hP
          have hD := dz_m_0_26 k a (sM_triedCost (sM_tried (sp n (sp0 M n fr) i).2 (spX n (sp n (sp0 M n fr) i))) (w_X5_costOf (sM_tried (sp n (sp0 M n fr) i).2 (spX n (sp n (sp0 M n fr) i))) (spX n (sp n (sp0 M n fr) i)) n)) ((M_kept (sp n (sp0 M n fr) i).2) + 1) hD
          refine lv_iinc (v := nI (i + 1)) (lv' := [(6, .int (nI (i + 1))), (7, .int (spX n (sp n (sp0 M n fr) i))), (4, .long (w_X5_next ((sp n (sp0 M n fr) i).1))), (0, .ref (a 0)), (1, .long fr), (3, .int (nI N))]) hx hb dX5_steps_113 hl (k := 2) rfl (nI_add i 1) (by decide) rfl (fun ls hl => ?_)
          refine lv_goto (tgt := 31) hx hb dX5_steps_116 (by decide) ?_
          have hq1 : (sM_kept (sM_triedCost (sM_tried (sp n (sp0 M n fr) i).2 (spX n (sp n (sp0 M n fr) i))) (w_X5_costOf (sM_tried (sp n (sp0 M n fr) i).2 (spX n (sp n (sp0 M n fr) i))) (spX n (sp n (sp0 M n fr) i)) n)) ((M_kept (sp n (sp0 M n fr) i).2) + 1)) = (sp n (sp0 M n fr) (i + 1)).2 := by rw [sp, sps, if_pos c_3, if_neg c_4]
          rw [hq1] at hP hD
          have hq2 : (w_X5_next ((sp n (sp0 M n fr) i).1)) = (sp n (sp0 M n fr) (i + 1)).1 := by rw [sp, sps, if_pos c_3, if_neg c_4]
          rw [hq2] at hl
          have hv2 : M_cells (sp n (sp0 M n fr) (i + 1)).2 = nI n := by rw [sp, sps_cells]; exact hv_i
          exact ih_i (i + 1) (by omega) ls _ _ (lv_sub hl [0, 2, 3, 4, 5] rfl) hP hD hS hv2
  exact loop_i N 0 (by omega) ls _ _ (lv_sub hl [0, 1, 2, 3, 4] rfl) hP hD hS hc

theorem mn0 {M : ModT} {n : Nat} (hc : M_cells M = nI n) (h : ¬ M_cells M = 0) : 0 < n := by
  rcases Nat.eq_zero_or_pos n with h1 | h1
  · exact absurd (by rw [hc, h1]; rfl) h
  · exact h1
def w_X5_improve (M : ModT) (nv : Int32) (n : Nat) : Int32 := if nv < 1 then (-1) else if 1000 < nv then (-1) else if (M_cells M) = 0 then (-1) else if (w_X5_stands M (opn M n) n) = 0 then (-1) else (M_kept (w_X5_become_M (sM_draw (sp n (sp0 M n (M_draw M)) (tn nv)).2 ((sp n (sp0 M n (M_draw M)) (tn nv)).1)) 1 (M_tried (sp n (sp0 M n (M_draw M)) (tn nv)).2) (M_triedCost (sp n (sp0 M n (M_draw M)) (tn nv)).2)))
def w_X5_improve_M (M : ModT) (nv : Int32) (n : Nat) : ModT := if nv < 1 then M else if 1000 < nv then M else if (M_cells M) = 0 then M else if (w_X5_stands M (opn M n) n) = 0 then (w_X5_become_M M 0 0 0) else (w_X5_become_M (sM_draw (sp n (sp0 M n (M_draw M)) (tn nv)).2 ((sp n (sp0 M n (M_draw M)) (tn nv)).1)) 1 (M_tried (sp n (sp0 M n (M_draw M)) (tn nv)).2) (M_triedCost (sp n (sp0 M n (M_draw M)) (tn nv)).2))
set_option maxHeartbeats 4000000 in
set_option maxRecDepth 100000 in
theorem c_X5_improve (l : Launch) (k : KT) (a : Nat → Nat) (M : ModT) (nv : Int32) (n : Nat) (hn : n ≤ 24) (hc : M_cells M = nI n) : MW l yX5_improve cX5_improve 2 (some .int) (rz 5 118) k [.ref (a 0), .int nv] (mW k a M) (some (.int (w_X5_improve M nv n))) (mW k a (w_X5_improve_M M nv n)) := by
  intro sz
  refine Met.ofW (cc := cX5_improve) (maxL := 2) (ret := (some .int)) (by decide) rfl ?_
  intro p e s m args below meth c s₁ B hml hv
  obtain ⟨rfl, hsz, hP, hK, hD0⟩ := hv
  have hx := B.exec
  have hb := B.bytes
  have hr := B.returns
  have hU : ∀ w ∈ wsL_law, w.before [.ref (a 0), .int nv].toArray s = true := fun w h => atoms_spec (ws := Cond.code yX5_improve cX5_improve 2 (some .int) :: wsL_law) B.pre w (List.mem_cons_of_mem _ h)
  have hown : s.vm.findClass RX5 = some m.cls := findClass_of_methodNamed B.named
  have hlocks := B.notSynchronized
  have hF : CF p m c cX5_improve 2 s [.ref (a 0), .int nv].toArray RX5 := ⟨hx, hb, hml, hown, hU⟩
  subst hsz
  have hD := hD0.self (sz := s.heap.size)
  generalize hAe : va_A (mW k a M) s.heap.size = A at hD ⊢
  have hA : ∀ q : Nat, s.heap.size ≤ q → A q := fun q h => by rw [← hAe]; exact Or.inr h
  have hS : va_S A s.heap s.heap [] := va_S.rf
  have hl := lv_entry ([.ref (a 0), .int nv] : List Value) (n := 2) (Nat.le_of_ble_eq_true rfl)
  rw [lg_entry_eq]
  generalize (lg_sl ([.ref (a 0), .int nv] : List Value) ++ List.replicate (2 - (lg_sl ([.ref (a 0), .int nv] : List Value)).length) Slot.unset).toArray = ls at hl ⊢
  have hl : lv_has ls 2 [(0, .ref (a 0)), (1, .int nv)] := hl
  refine lv_iload_n hx hb dX5_improve_0 rfl (lv_at hl 1 rfl) ?_
  refine lv_iconst (v := 1) hx hb dX5_improve_1 (by decide) ?_
  refine xb_lt (tgt := 19) hx hb dX5_improve_2 (by decide) (fun c_1 => ?_) (fun c_1 => ?_)
  · refine lv_iconst (v := (-1)) hx hb dX5_improve_19 (by decide) ?_
    have hP9 : va_P k.1 vwCl (mW k a (w_X5_improve_M M nv n)) s.heap := by rw [w_X5_improve_M, if_pos c_1]; exact hP
    have hD9 : va_D A (mW k a (w_X5_improve_M M nv n)) := by rw [w_X5_improve_M, if_pos c_1]; exact hD
    exact W.iret (v := (-1)) hx hb hr (fun t ht hW => ⟨⟨by rw [w_X5_improve, if_pos c_1], by rw [ht]; exact hP9, hD9⟩, hS.F ht⟩) hS.2.2 dX5_improve_20
  · refine lv_iload_n hx hb dX5_improve_5 rfl (lv_at hl 1 rfl) ?_
    refine lv_sipush (v := 1000) hx hb dX5_improve_6 (by decide) ?_
    refine xb_gt (tgt := 19) hx hb dX5_improve_9 (by decide) (fun c_2 => ?_) (fun c_2 => ?_)
    · refine lv_iconst (v := (-1)) hx hb dX5_improve_19 (by decide) ?_
      have hP9 : va_P k.1 vwCl (mW k a (w_X5_improve_M M nv n)) s.heap := by rw [w_X5_improve_M, if_neg c_1, if_pos c_2]; exact hP
      have hD9 : va_D A (mW k a (w_X5_improve_M M nv n)) := by rw [w_X5_improve_M, if_neg c_1, if_pos c_2]; exact hD
      exact W.iret (v := (-1)) hx hb hr (fun t ht hW => ⟨⟨by rw [w_X5_improve, if_neg c_1, if_pos c_2], by rw [ht]; exact hP9, hD9⟩, hS.F ht⟩) hS.2.2 dX5_improve_20
    · refine lv_aload_n hx hb dX5_improve_12 rfl (lv_at hl 0 rfl) ?_
      refine va_get (D := k.1) (ci := 5) (v := .int (M_cells M)) (C := RX5) (T := TX5) (N := 27) hx hb hU inlX5 hown hK.1 hP 0 rfl rfl 0 (by decide) (hU _ uF_X5_49) (fun _ h9 => h9) rfl dX5_improve_13 ?_
      refine lv_if_ne (tgt := 21) hx hb dX5_improve_16 (by decide) (fun c_3 => ?_) (fun c_3 => ?_)
      · refine lv_aload_n hx hb dX5_improve_21 rfl (lv_at hl 0 rfl) ?_
        refine lv_aload_n hx hb dX5_improve_22 rfl (lv_at hl 0 rfl) ?_
        refine rcV (n := 0) (As := []) (rest := [.ref (a 0)]) hF (c_X5_open l k a M  n hn hc) (hP) hK 0 (ci := 5) rfl rfl rfl uC_X5_open uN_X5 uM_X5_139 uI_X5_open uE_X5_open (by decide +kernel) rfl ⟨Nat.le_of_ble_eq_true rfl, Nat.le_of_ble_eq_true rfl⟩ ⟨Nat.zero_le _, Nat.zero_le _⟩ hl.1 rfl (Nat.le_of_ble_eq_true rfl) dX5_improve_23 ?_
        refine rcV (n := 1) (As := [.int (opn M n)]) (rest := []) hF (c_X5_stands l k a M (opn M n) n hn hc) (hP) hK 0 (ci := 5) rfl rfl rfl uC_X5_stands uN_X5 uM_X5_158 uI_X5_stands uE_X5_stands (by decide +kernel) rfl ⟨Nat.le_of_ble_eq_true rfl, Nat.le_of_ble_eq_true rfl⟩ ⟨Nat.zero_le _, Nat.zero_le _⟩ hl.1 rfl (Nat.le_of_ble_eq_true rfl) dX5_improve_26 ?_
        refine lv_if_ne (tgt := 41) hx hb dX5_improve_29 (by decide) (fun c_4 => ?_) (fun c_4 => ?_)
        · refine lv_aload_n hx hb dX5_improve_41 rfl (lv_at hl 0 rfl) ?_
          refine lv_aload_n hx hb dX5_improve_42 rfl (lv_at hl 0 rfl) ?_
          refine lv_aload_n hx hb dX5_improve_43 rfl (lv_at hl 0 rfl) ?_
          refine va_get (D := k.1) (ci := 5) (v := .long (M_draw M)) (C := RX5) (T := TX5) (N := 27) hx hb hU inlX5 hown hK.1 hP 0 rfl rfl 15 (by decide) (hU _ uF_X5_43) (fun _ h9 => h9) rfl dX5_improve_44 ?_
          refine lv_iload_n hx hb dX5_improve_47 rfl (lv_at hl 1 rfl) ?_
          have hst := rgJ (x := nv) (m := 1000) (by omega) c_1 c_2
          refine W.eq (g2 := F0 m 48 ls [.int (nI (tn nv)), .long (M_draw M), .ref (a 0), .ref (a 0)]) (by rw [← hst.2.1]; try rfl) ?_
          refine wcV (n := 2) (As := [.long (M_draw M), .int (nI (tn nv))]) (rest := [.ref (a 0)]) hF (c_X5_steps l k a M (M_draw M) (tn nv) n hn hc (mn0 hc c_3) hst.1) hP hD hS hA hK 0 (ci := 5) rfl rfl rfl uC_X5_steps uN_X5 uM_X5_175 uI_X5_steps uE_X5_steps (by decide +kernel) rfl ⟨Nat.le_of_ble_eq_true rfl, Nat.le_of_ble_eq_true rfl⟩ ⟨Nat.zero_le _, Nat.zero_le _⟩ hl.1 rfl (Nat.le_of_ble_eq_true rfl) dX5_improve_48 (fun H locs hP hD hS => ?_)
          have hP : va_P k.1 vwCl (mW k a (sp n (sp0 M n (M_draw M)) (tn nv)).2) H := hP
          have hD : va_D A (mW k a (sp n (sp0 M n (M_draw M)) (tn nv)).2) := hD
          refine va_put (D := k.1) (ci := 5) (v := .long ((sp n (sp0 M n (M_draw M)) (tn nv)).1)) (ty := .long) (C := RX5) (T := TX5) (N := 27) hx hb hU inlX5 tyX5 tyX5_ok nmX5 hown hK.1 hP hD hS 0 rfl rfl 15 (by decide) (hU _ uF_X5_43) (fun _ h9 => h9) rfl (by decide +kernel) rfl rfl (Nat.le_of_ble_eq_true rfl) dX5_improve_51 (fun H locs hP hD hS => ?_)
          have hP := pz_m_0_15 k a (sp n (sp0 M n (M_draw M)) (tn nv)).2 ((sp n (sp0 M n (M_draw M)) (tn nv)).1) hP
          have hD := dz_m_0_15 k a (sp n (sp0 M n (M_draw M)) (tn nv)).2 ((sp n (sp0 M n (M_draw M)) (tn nv)).1) hD
          refine lv_aload_n hx hb dX5_improve_54 rfl (lv_at hl 0 rfl) ?_
          refine lv_iconst (v := 1) hx hb dX5_improve_55 (by decide) ?_
          refine lv_aload_n hx hb dX5_improve_56 rfl (lv_at hl 0 rfl) ?_
          refine va_get (D := k.1) (ci := 5) (v := .int (M_tried (sp n (sp0 M n (M_draw M)) (tn nv)).2)) (C := RX5) (T := TX5) (N := 27) hx hb hU inlX5 hown hK.1 hP 0 rfl rfl 24 (by decide) (hU _ uF_X5_163) (fun _ h9 => h9) rfl dX5_improve_57 ?_
          refine lv_aload_n hx hb dX5_improve_60 rfl (lv_at hl 0 rfl) ?_
          refine va_get (D := k.1) (ci := 5) (v := .long (M_triedCost (sp n (sp0 M n (M_draw M)) (tn nv)).2)) (C := RX5) (T := TX5) (N := 27) hx hb hU inlX5 hown hK.1 hP 0 rfl rfl 25 (by decide) (hU _ uF_X5_166) (fun _ h9 => h9) rfl dX5_improve_61 ?_
          refine wcV (n := 3) (As := [.int 1, .int (M_tried (sp n (sp0 M n (M_draw M)) (tn nv)).2), .long (M_triedCost (sp n (sp0 M n (M_draw M)) (tn nv)).2)]) (rest := []) hF (c_X5_become l k a (sM_draw (sp n (sp0 M n (M_draw M)) (tn nv)).2 ((sp n (sp0 M n (M_draw M)) (tn nv)).1)) 1 (M_tried (sp n (sp0 M n (M_draw M)) (tn nv)).2) (M_triedCost (sp n (sp0 M n (M_draw M)) (tn nv)).2) (Or.inr rfl)) hP hD hS hA hK 0 (ci := 5) rfl rfl rfl uC_X5_become uN_X5 uM_X5_142 uI_X5_become uE_X5_become (by decide +kernel) rfl ⟨Nat.le_of_ble_eq_true rfl, Nat.le_of_ble_eq_true rfl⟩ ⟨Nat.zero_le _, Nat.zero_le _⟩ hl.1 rfl (Nat.le_of_ble_eq_true rfl) dX5_improve_64 (fun H locs hP hD hS => ?_)
          have hP : va_P k.1 vwCl (mW k a (w_X5_become_M (sM_draw (sp n (sp0 M n (M_draw M)) (tn nv)).2 ((sp n (sp0 M n (M_draw M)) (tn nv)).1)) 1 (M_tried (sp n (sp0 M n (M_draw M)) (tn nv)).2) (M_triedCost (sp n (sp0 M n (M_draw M)) (tn nv)).2))) H := hP
          have hD : va_D A (mW k a (w_X5_become_M (sM_draw (sp n (sp0 M n (M_draw M)) (tn nv)).2 ((sp n (sp0 M n (M_draw M)) (tn nv)).1)) 1 (M_tried (sp n (sp0 M n (M_draw M)) (tn nv)).2) (M_triedCost (sp n (sp0 M n (M_draw M)) (tn nv)).2))) := hD
          refine lv_aload_n hx hb dX5_improve_67 rfl (lv_at hl 0 rfl) ?_
          refine va_get (D := k.1) (ci := 5) (v := .int (M_kept (w_X5_become_M (sM_draw (sp n (sp0 M n (M_draw M)) (tn nv)).2 ((sp n (sp0 M n (M_draw M)) (tn nv)).1)) 1 (M_tried (sp n (sp0 M n (M_draw M)) (tn nv)).2) (M_triedCost (sp n (sp0 M n (M_draw M)) (tn nv)).2)))) (C := RX5) (T := TX5) (N := 27) hx hb hU inlX5 hown hK.1 hP 0 rfl rfl 26 (by decide) (hU _ uF_X5_169) (fun _ h9 => h9) rfl dX5_improve_68 ?_
          have hP9 : va_P k.1 vwCl (mW k a (w_X5_improve_M M nv n)) H := by rw [w_X5_improve_M, if_neg c_1, if_neg c_2, if_neg c_3, if_neg c_4]; exact hP
          have hD9 : va_D A (mW k a (w_X5_improve_M M nv n)) := by rw [w_X5_improve_M, if_neg c_1, if_neg c_2, if_neg c_3, if_neg c_4]; exact hD
          exact W.iret (v := (M_kept (w_X5_become_M (sM_draw (sp n (sp0 M n (M_draw M)) (tn nv)).2 ((sp n (sp0 M n (M_draw M)) (tn nv)).1)) 1 (M_tried (sp n (sp0 M n (M_draw M)) (tn nv)).2) (M_triedCost (sp n (sp0 M n (M_draw M)) (tn nv)).2)))) hx hb hr (fun t ht hW => ⟨⟨by rw [w_X5_improve, if_neg c_1, if_neg c_2, if_neg c_3, if_neg c_4], by rw [ht]; exact hP9, hD9⟩, hS.F ht⟩) hS.2.2 dX5_improve_71
        · refine lv_aload_n hx hb dX5_improve_32 rfl (lv_at hl 0 rfl) ?_
          refine lv_iconst (v := 0) hx hb dX5_improve_33 (by decide) ?_
          refine lv_iconst (v := 0) hx hb dX5_improve_34 (by decide) ?_
          refine lv_lconst (v := 0) hx hb dX5_improve_35 (by decide) ?_
          refine wcV (n := 3) (As := [.int 0, .int 0, .long 0]) (rest := []) hF (c_X5_become l k a M 0 0 0 (Or.inl rfl)) hP hD hS hA hK 0 (ci := 5) rfl rfl rfl uC_X5_become uN_X5 uM_X5_142 uI_X5_become uE_X5_become (by decide +kernel) rfl ⟨Nat.le_of_ble_eq_true rfl, Nat.le_of_ble_eq_true rfl⟩ ⟨Nat.zero_le _, Nat.zero_le _⟩ hl.1 rfl (Nat.le_of_ble_eq_true rfl) dX5_improve_36 (fun H locs hP hD hS => ?_)
          have hP : va_P k.1 vwCl (mW k a (w_X5_become_M M 0 0 0)) H := hP
          have hD : va_D A (mW k a (w_X5_become_M M 0 0 0)) := hD
          refine lv_iconst (v := (-1)) hx hb dX5_improve_39 (by decide) ?_
          have hP9 : va_P k.1 vwCl (mW k a (w_X5_improve_M M nv n)) H := by rw [w_X5_improve_M, if_neg c_1, if_neg c_2, if_neg c_3, if_pos c_4]; exact hP
          have hD9 : va_D A (mW k a (w_X5_improve_M M nv n)) := by rw [w_X5_improve_M, if_neg c_1, if_neg c_2, if_neg c_3, if_pos c_4]; exact hD
          exact W.iret (v := (-1)) hx hb hr (fun t ht hW => ⟨⟨by rw [w_X5_improve, if_neg c_1, if_neg c_2, if_neg c_3, if_pos c_4], by rw [ht]; exact hP9, hD9⟩, hS.F ht⟩) hS.2.2 dX5_improve_40
      · refine lv_iconst (v := (-1)) hx hb dX5_improve_19 (by decide) ?_
        have hP9 : va_P k.1 vwCl (mW k a (w_X5_improve_M M nv n)) s.heap := by rw [w_X5_improve_M, if_neg c_1, if_neg c_2, if_pos c_3]; exact hP
        have hD9 : va_D A (mW k a (w_X5_improve_M M nv n)) := by rw [w_X5_improve_M, if_neg c_1, if_neg c_2, if_pos c_3]; exact hD
        exact W.iret (v := (-1)) hx hb hr (fun t ht hW => ⟨⟨by rw [w_X5_improve, if_neg c_1, if_neg c_2, if_pos c_3], by rw [ht]; exact hP9, hD9⟩, hS.F ht⟩) hS.2.2 dX5_improve_20

def oms (n : Nat) (ce : Int32) (y : ModT × Int64) (i : Nat) : ModT × Int64 :=
  if w_X5_has (M_tried (sp n (sp0 y.1 n (Int32.toInt64 (nI i))) 40).2) ce = 0 then ((sp n (sp0 y.1 n (Int32.toInt64 (nI i))) 40).2, y.2 + 0) else ((sp n (sp0 y.1 n (Int32.toInt64 (nI i))) 40).2, y.2 + 1)
def om (n : Nat) (ce : Int32) (x : ModT × Int64) : Nat → ModT × Int64
  | 0 => x
  | i + 1 => if i = 0 then x else oms n ce (om n ce x i) i
theorem sp_cells (n : Nat) (x : Int64 × ModT) (i : Nat) : M_cells (sp n x i).2 = M_cells x.2 := by
  induction i with
  | zero => rfl
  | succ i ih => rw [sp, sps_cells, ih]
def omE (M : ModT) (n : Nat) (ce seeds : Int32) : ModT × Int64 := if (w_X5_isCell M ce) = 0 then (M, -1) else if seeds < 1 then (M, -1) else if 20 < seeds then (M, -1) else if w_X5_stands M (opn M n) n = 0 then (M, -1) else om n ce (M, 0) (tn seeds + 1)
set_option maxHeartbeats 4000000 in
set_option maxRecDepth 100000 in
theorem c_X5_often (l : Launch) (k : KT) (a : Nat → Nat) (M : ModT) (ce : Int32) (seeds : Int32) (n : Nat) (hn : n ≤ 24) (hc : M_cells M = nI n) : MW l yX5_often cX5_often 8 (some .long) (rz 5 118) k [.ref (a 0), .int ce, .int seeds] (mW k a M) (some (.long ((omE M n ce seeds).2))) (mW k a (omE M n ce seeds).1) := by
  intro sz
  refine Met.ofW (cc := cX5_often) (maxL := 8) (ret := (some .long)) (by decide) rfl ?_
  intro p e s m args below meth c s₁ B hml hv
  obtain ⟨rfl, hsz, hP, hK, hD0⟩ := hv
  have hx := B.exec
  have hb := B.bytes
  have hr := B.returns
  have hU : ∀ w ∈ wsL_law, w.before [.ref (a 0), .int ce, .int seeds].toArray s = true := fun w h => atoms_spec (ws := Cond.code yX5_often cX5_often 8 (some .long) :: wsL_law) B.pre w (List.mem_cons_of_mem _ h)
  have hown : s.vm.findClass RX5 = some m.cls := findClass_of_methodNamed B.named
  have hlocks := B.notSynchronized
  have hF : CF p m c cX5_often 8 s [.ref (a 0), .int ce, .int seeds].toArray RX5 := ⟨hx, hb, hml, hown, hU⟩
  subst hsz
  have hD := hD0.self (sz := s.heap.size)
  generalize hAe : va_A (mW k a M) s.heap.size = A at hD ⊢
  have hA : ∀ q : Nat, s.heap.size ≤ q → A q := fun q h => by rw [← hAe]; exact Or.inr h
  have hS : va_S A s.heap s.heap [] := va_S.rf
  have hl := lv_entry ([.ref (a 0), .int ce, .int seeds] : List Value) (n := 8) (Nat.le_of_ble_eq_true rfl)
  rw [lg_entry_eq]
  generalize (lg_sl ([.ref (a 0), .int ce, .int seeds] : List Value) ++ List.replicate (8 - (lg_sl ([.ref (a 0), .int ce, .int seeds] : List Value)).length) Slot.unset).toArray = ls at hl ⊢
  have hl : lv_has ls 8 [(0, .ref (a 0)), (1, .int ce), (2, .int seeds)] := hl
  refine lv_aload_n hx hb dX5_often_0 rfl (lv_at hl 0 rfl) ?_
  refine lv_iload_n hx hb dX5_often_1 rfl (lv_at hl 1 rfl) ?_
  refine rcV (n := 1) (As := [.int ce]) (rest := []) hF (c_X5_isCell l k a M ce ) (hP) hK 0 (ci := 5) rfl rfl rfl uC_X5_isCell uN_X5 uM_X5_57 uI_X5_isCell uE_X5_isCell (by decide +kernel) rfl ⟨Nat.le_of_ble_eq_true rfl, Nat.le_of_ble_eq_true rfl⟩ ⟨Nat.zero_le _, Nat.zero_le _⟩ hl.1 rfl (Nat.le_of_ble_eq_true rfl) dX5_often_2 ?_
  refine lv_if_eq (tgt := 30) hx hb dX5_often_5 (by decide) (fun c_1 => ?_) (fun c_1 => ?_)
  · refine lv_ldc2 hx hb hown (hU _ uK_X5_161) dX5_often_30 ?_
    have hP9 : va_P k.1 vwCl (mW k a (omE M n ce seeds).1) s.heap := by rw [omE, if_pos c_1]; exact hP
    have hD9 : va_D A (mW k a (omE M n ce seeds).1) := by rw [omE, if_pos c_1]; exact hD
    exact W.lret (v := (-1)) hx hb hr (fun t ht hW => ⟨⟨by rw [omE, if_pos c_1], by rw [ht]; exact hP9, hD9⟩, hS.F ht⟩) hS.2.2 dX5_often_33
  · refine lv_iload_n hx hb dX5_often_8 rfl (lv_at hl 2 rfl) ?_
    refine lv_iconst (v := 1) hx hb dX5_often_9 (by decide) ?_
    refine xb_lt (tgt := 30) hx hb dX5_often_10 (by decide) (fun c_2 => ?_) (fun c_2 => ?_)
    · refine lv_ldc2 hx hb hown (hU _ uK_X5_161) dX5_often_30 ?_
      have hP9 : va_P k.1 vwCl (mW k a (omE M n ce seeds).1) s.heap := by rw [omE, if_neg c_1, if_pos c_2]; exact hP
      have hD9 : va_D A (mW k a (omE M n ce seeds).1) := by rw [omE, if_neg c_1, if_pos c_2]; exact hD
      exact W.lret (v := (-1)) hx hb hr (fun t ht hW => ⟨⟨by rw [omE, if_neg c_1, if_pos c_2], by rw [ht]; exact hP9, hD9⟩, hS.F ht⟩) hS.2.2 dX5_often_33
    · refine lv_iload_n hx hb dX5_often_13 rfl (lv_at hl 2 rfl) ?_
      refine lv_bipush (v := 20) hx hb dX5_often_14 (by decide) ?_
      refine xb_gt (tgt := 30) hx hb dX5_often_16 (by decide) (fun c_3 => ?_) (fun c_3 => ?_)
      · refine lv_ldc2 hx hb hown (hU _ uK_X5_161) dX5_often_30 ?_
        have hP9 : va_P k.1 vwCl (mW k a (omE M n ce seeds).1) s.heap := by rw [omE, if_neg c_1, if_neg c_2, if_pos c_3]; exact hP
        have hD9 : va_D A (mW k a (omE M n ce seeds).1) := by rw [omE, if_neg c_1, if_neg c_2, if_pos c_3]; exact hD
        exact W.lret (v := (-1)) hx hb hr (fun t ht hW => ⟨⟨by rw [omE, if_neg c_1, if_neg c_2, if_pos c_3], by rw [ht]; exact hP9, hD9⟩, hS.F ht⟩) hS.2.2 dX5_often_33
      · refine lv_aload_n hx hb dX5_often_19 rfl (lv_at hl 0 rfl) ?_
        refine lv_aload_n hx hb dX5_often_20 rfl (lv_at hl 0 rfl) ?_
        refine rcV (n := 0) (As := []) (rest := [.ref (a 0)]) hF (c_X5_open l k a M  n hn hc) (hP) hK 0 (ci := 5) rfl rfl rfl uC_X5_open uN_X5 uM_X5_139 uI_X5_open uE_X5_open (by decide +kernel) rfl ⟨Nat.le_of_ble_eq_true rfl, Nat.le_of_ble_eq_true rfl⟩ ⟨Nat.zero_le _, Nat.zero_le _⟩ hl.1 rfl (Nat.le_of_ble_eq_true rfl) dX5_often_21 ?_
        refine rcV (n := 1) (As := [.int (opn M n)]) (rest := []) hF (c_X5_stands l k a M (opn M n) n hn hc) (hP) hK 0 (ci := 5) rfl rfl rfl uC_X5_stands uN_X5 uM_X5_158 uI_X5_stands uE_X5_stands (by decide +kernel) rfl ⟨Nat.le_of_ble_eq_true rfl, Nat.le_of_ble_eq_true rfl⟩ ⟨Nat.zero_le _, Nat.zero_le _⟩ hl.1 rfl (Nat.le_of_ble_eq_true rfl) dX5_often_24 ?_
        refine lv_if_ne (tgt := 34) hx hb dX5_often_27 (by decide) (fun c_4 => ?_) (fun c_4 => ?_)
        · have hsd := rgJ (x := seeds) (m := 20) (by omega) c_2 c_3
          obtain ⟨N, hN⟩ : ∃ N : Nat, N = tn seeds := ⟨_, rfl⟩
          have hN20 : N ≤ 20 := by rw [hN]; exact hsd.1
          have hNs : seeds = nI N := by rw [hN]; exact hsd.2.1
          have hN1 : 1 ≤ N := by rw [hN]; exact hsd.2.2
          have hn0 : 0 < n := by have := (mcJ hn hc c_1).1; omega
          refine lv_lconst (v := 0) hx hb dX5_often_34 (by decide) ?_
          refine lv_lstore_n (lv' := [(3, .long 0), (0, .ref (a 0)), (1, .int ce), (2, .int seeds)]) hx hb dX5_often_35 rfl hl (by decide) rfl (fun ls hl => ?_)
          refine lv_iconst (v := 1) hx hb dX5_often_36 (by decide) ?_
          refine lv_istore (lv' := [(5, .int 1), (3, .long 0), (0, .ref (a 0)), (1, .int ce), (2, .int seeds)]) hx hb dX5_often_37 hl (by decide) rfl (fun ls hl => ?_)
          have loop_i : ∀ (ri i : Nat), i + ri * 1 = (N + 1) → ∀ (ls : Array Slot) (H : Heap) (locs : List Loc) , lv_has ls 8 [(5, .int (nI i)), (3, .long ((om n ce (M, 0) i).2)), (0, .ref (a 0)), (1, .int ce), (2, .int seeds)] → va_P k.1 vwCl (mW k a (om n ce (M, 0) i).1) H → va_D A (mW k a (om n ce (M, 0) i).1) → va_S A s.heap H locs → (1 ≤ i ∧ M_cells (om n ce (M, 0) i).1 = nI n) → WW p l e s m below meth c yX5_often cX5_often 8 (some .long) (rz 5 118) [.ref (a 0), .int ce, .int seeds] (some (.long ((omE M n ce seeds).2))) k (mW k a (omE M n ce seeds).1) A H locs (F0 m 39 ls []) := by
            intro ri
            induction ri with
            | zero =>
              intro i hi_i ls H locs hl hP hD hS hv_i
              have he_i : (N + 1) = i := by omega
              subst he_i
              refine lv_iload hx hb dX5_often_39 (lv_at hl 0 rfl) ?_
              refine lv_iload_n hx hb dX5_often_41 rfl (lv_at hl 4 rfl) ?_
              refine xb_gt (tgt := 81) hx hb dX5_often_42 (by decide) (fun c_5 => ?_) (fun c9 => absurd (by rw [hNs]; exact nI_lt (by omega) (by omega)) c9)
              refine lv_lload_n hx hb dX5_often_81 rfl (lv_at hl 1 rfl) ?_
              have hP9 : va_P k.1 vwCl (mW k a (omE M n ce seeds).1) H := by rw [omE, if_neg c_1, if_neg c_2, if_neg c_3, if_neg c_4, ← hN]; exact hP
              have hD9 : va_D A (mW k a (omE M n ce seeds).1) := by rw [omE, if_neg c_1, if_neg c_2, if_neg c_3, if_neg c_4, ← hN]; exact hD
              exact W.lret (v := ((om n ce (M, 0) (N + 1)).2)) hx hb hr (fun t ht hW => ⟨⟨by rw [omE, if_neg c_1, if_neg c_2, if_neg c_3, if_neg c_4, ← hN], by rw [ht]; exact hP9, hD9⟩, hS.F ht⟩) hS.2.2 dX5_often_82
            | succ ri ih_i =>
              intro i hi_i ls H locs hl hP hD hS hv_i
              have ht_i : i < (N + 1) := by omega
              refine lv_iload hx hb dX5_often_39 (lv_at hl 0 rfl) ?_
              refine lv_iload_n hx hb dX5_often_41 rfl (lv_at hl 4 rfl) ?_
              refine xb_gt (tgt := 81) hx hb dX5_often_42 (by decide) (fun c9 => absurd c9 (by rw [hNs]; exact nI_nlt (by omega) (by omega))) (fun c_6 => ?_)
              refine lv_aload_n hx hb dX5_often_45 rfl (lv_at hl 2 rfl) ?_
              refine lv_iload hx hb dX5_often_46 (lv_at hl 0 rfl) ?_
              refine lv_i2l (v := (Int32.toInt64 (nI i))) hx hb dX5_often_48 rfl ?_
              refine lv_bipush (v := 40) hx hb dX5_often_49 (by decide) ?_
              refine wcV (n := 2) (As := [.long (Int32.toInt64 (nI i)), .int 40]) (rest := []) hF (c_X5_steps l k a (om n ce (M, 0) i).1 (Int32.toInt64 (nI i)) 40 n hn hv_i.2 hn0 (by omega)) hP hD hS hA hK 0 (ci := 5) rfl rfl rfl uC_X5_steps uN_X5 uM_X5_175 uI_X5_steps uE_X5_steps (by decide +kernel) rfl ⟨Nat.le_of_ble_eq_true rfl, Nat.le_of_ble_eq_true rfl⟩ ⟨Nat.zero_le _, Nat.zero_le _⟩ hl.1 rfl (Nat.le_of_ble_eq_true rfl) dX5_often_51 (fun H locs hP hD hS => ?_)
              have hP : va_P k.1 vwCl (mW k a (sp n (sp0 (om n ce (M, 0) i).1 n (Int32.toInt64 (nI i))) 40).2) H := hP
              have hD : va_D A (mW k a (sp n (sp0 (om n ce (M, 0) i).1 n (Int32.toInt64 (nI i))) 40).2) := hD
              refine lv_lstore (lv' := [(6, .long ((sp n (sp0 (om n ce (M, 0) i).1 n (Int32.toInt64 (nI i))) 40).1)), (5, .int (nI i)), (3, .long ((om n ce (M, 0) i).2)), (0, .ref (a 0)), (1, .int ce), (2, .int seeds)]) hx hb dX5_often_54 hl (by decide) rfl (fun ls hl => ?_)
              refine lv_lload_n hx hb dX5_often_56 rfl (lv_at hl 2 rfl) ?_
              refine lv_aload_n hx hb dX5_often_57 rfl (lv_at hl 3 rfl) ?_
              refine va_get (D := k.1) (ci := 5) (v := .int (M_tried (sp n (sp0 (om n ce (M, 0) i).1 n (Int32.toInt64 (nI i))) 40).2)) (C := RX5) (T := TX5) (N := 27) hx hb hU inlX5 hown hK.1 hP 0 rfl rfl 24 (by decide) (hU _ uF_X5_163) (fun _ h9 => h9) rfl dX5_often_58 ?_
              refine lv_iload_n hx hb dX5_often_61 rfl (lv_at hl 4 rfl) ?_
              refine rcS (n := 2) (As := [.int (M_tried (sp n (sp0 (om n ce (M, 0) i).1 n (Int32.toInt64 (nI i))) 40).2), .int ce]) (rest := [.long ((om n ce (M, 0) i).2)]) hF (c_X5_has l k  (M_tried (sp n (sp0 (om n ce (M, 0) i).1 n (Int32.toInt64 (nI i))) 40).2) ce ) (hP.sub (ws' := []) [] rfl) hK uC_X5_has uN_X5 uM_X5_95 uS_X5_has (by decide +kernel) rfl ⟨Nat.le_of_ble_eq_true rfl, Nat.le_of_ble_eq_true rfl⟩ ⟨Nat.zero_le _, Nat.zero_le _⟩ hl.1 rfl (Nat.le_of_ble_eq_true rfl) dX5_often_62 ?_
              refine lv_if_eq (tgt := 72) hx hb dX5_often_65 (by decide) (fun c_7 => ?_) (fun c_7 => ?_)
              · refine lv_lconst (v := 0) hx hb dX5_often_72 (by decide) ?_
                refine lv_ladd hx hb dX5_often_73 ?_
                refine lv_lstore_n (lv' := [(3, .long (((om n ce (M, 0) i).2) + 0)), (6, .long ((sp n (sp0 (om n ce (M, 0) i).1 n (Int32.toInt64 (nI i))) 40).1)), (5, .int (nI i)), (0, .ref (a 0)), (1, .int ce), (2, .int seeds)]) hx hb dX5_often_74 rfl hl (by decide) rfl (fun ls hl => ?_)
                refine lv_iinc (v := nI (i + 1)) (lv' := [(5, .int (nI (i + 1))), (3, .long (((om n ce (M, 0) i).2) + 0)), (6, .long ((sp n (sp0 (om n ce (M, 0) i).1 n (Int32.toInt64 (nI i))) 40).1)), (0, .ref (a 0)), (1, .int ce), (2, .int seeds)]) hx hb dX5_often_75 hl (k := 2) rfl (nI_add i 1) (by decide) rfl (fun ls hl => ?_)
                refine lv_goto (tgt := 39) hx hb dX5_often_78 (by decide) ?_
                have hq3 : (((om n ce (M, 0) i).2) + 0) = (om n ce (M, 0) (i + 1)).2 := by rw [om, if_neg (by omega), oms, if_pos c_7]
                rw [hq3] at hl
                have hv2 : M_cells (sp n (sp0 (om n ce (M, 0) i).1 n (Int32.toInt64 (nI i))) 40).2 = nI n := by rw [sp_cells]; exact hv_i.2
                have hq1 : (sp n (sp0 (om n ce (M, 0) i).1 n (Int32.toInt64 (nI i))) 40).2 = (om n ce (M, 0) (i + 1)).1 := by rw [om, if_neg (by omega), oms, if_pos c_7]
                rw [hq1] at hP hD hv2
                exact ih_i (i + 1) (by omega) ls _ _ (lv_sub hl [0, 1, 3, 4, 5] rfl) hP hD hS ⟨by omega, hv2⟩
              · refine lv_lconst (v := 1) hx hb dX5_often_68 (by decide) ?_
                refine lv_goto (tgt := 73) hx hb dX5_often_69 (by decide) ?_
                refine lv_ladd hx hb dX5_often_73 ?_
                refine lv_lstore_n (lv' := [(3, .long (((om n ce (M, 0) i).2) + 1)), (6, .long ((sp n (sp0 (om n ce (M, 0) i).1 n (Int32.toInt64 (nI i))) 40).1)), (5, .int (nI i)), (0, .ref (a 0)), (1, .int ce), (2, .int seeds)]) hx hb dX5_often_74 rfl hl (by decide) rfl (fun ls hl => ?_)
                refine lv_iinc (v := nI (i + 1)) (lv' := [(5, .int (nI (i + 1))), (3, .long (((om n ce (M, 0) i).2) + 1)), (6, .long ((sp n (sp0 (om n ce (M, 0) i).1 n (Int32.toInt64 (nI i))) 40).1)), (0, .ref (a 0)), (1, .int ce), (2, .int seeds)]) hx hb dX5_often_75 hl (k := 2) rfl (nI_add i 1) (by decide) rfl (fun ls hl => ?_)
                refine lv_goto (tgt := 39) hx hb dX5_often_78 (by decide) ?_
                have hq3 : (((om n ce (M, 0) i).2) + 1) = (om n ce (M, 0) (i + 1)).2 := by rw [om, if_neg (by omega), oms, if_neg c_7]
                rw [hq3] at hl
                have hv2 : M_cells (sp n (sp0 (om n ce (M, 0) i).1 n (Int32.toInt64 (nI i))) 40).2 = nI n := by rw [sp_cells]; exact hv_i.2
                have hq1 : (sp n (sp0 (om n ce (M, 0) i).1 n (Int32.toInt64 (nI i))) 40).2 = (om n ce (M, 0) (i + 1)).1 := by rw [om, if_neg (by omega), oms, if_neg c_7]
                rw [hq1] at hP hD hv2
                exact ih_i (i + 1) (by omega) ls _ _ (lv_sub hl [0, 1, 3, 4, 5] rfl) hP hD hS ⟨by omega, hv2⟩
          exact loop_i (((N + 1) - 1) / 1) 1 (by omega) ls _ _ (lv_sub hl [0, 1, 2, 3, 4] rfl) hP hD hS ⟨Nat.le_refl 1, hc⟩
        · refine lv_ldc2 hx hb hown (hU _ uK_X5_161) dX5_often_30 ?_
          have hP9 : va_P k.1 vwCl (mW k a (omE M n ce seeds).1) s.heap := by rw [omE, if_neg c_1, if_neg c_2, if_neg c_3, if_pos c_4]; exact hP
          have hD9 : va_D A (mW k a (omE M n ce seeds).1) := by rw [omE, if_neg c_1, if_neg c_2, if_neg c_3, if_pos c_4]; exact hD
          exact W.lret (v := (-1)) hx hb hr (fun t ht hW => ⟨⟨by rw [omE, if_neg c_1, if_neg c_2, if_neg c_3, if_pos c_4], by rw [ht]; exact hP9, hD9⟩, hS.F ht⟩) hS.2.2 dX5_often_33
