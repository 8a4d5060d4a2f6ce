/-- a number that has been tested, as a Nat -/
abbrev tn (x : Int32) : Nat := x.toNatClampNeg
theorem tn_nI {j : Nat} (h : j < 2 ^ 31) : tn (nI j) = j := nI_clamp h
theorem tn_of {x : Int32} {n : Nat} (hn : n < 2 ^ 31) (h0 : ¬ x < 0) (h : ¬ nI n ≤ x) : tn x < n ∧ x = nI (tn x) := by
  rcases pk_ix x hn with h1 | h1 | ⟨j, hj, rfl⟩
  · exact absurd h1 h0
  · exact absurd h1 h
  · rw [tn_nI (by omega)]; exact ⟨hj, rfl⟩
theorem hcJ {S : SeaT} {n : Nat} {ce : Int32} (hn : n ≤ 24) (hc : S_cells S = nI n) (h : ¬ w_hasCell (S_cells S) ce = 0) : tn ce < n ∧ ce = nI (tn ce) := by
  unfold w_hasCell at h
  split at h
  · exact absurd rfl h
  · rename_i h1
    split at h
    · rename_i h2
      rw [hc] at h2
      exact tn_of (by omega) h1 (fun q => absurd h2 (Int32.not_lt.mpr q))
    · exact absurd rfl h
theorem kiJ {ki : Int32} (h : ¬ w_isKind ki = 0) : tn ki < 8 ∧ ki = nI (tn ki) := by
  unfold w_isKind at h
  split at h
  · exact absurd rfl h
  · rename_i h1
    split at h
    · rename_i h2
      exact tn_of (n := 8) (by omega) h1 (fun q => absurd h2 (Int32.not_lt.mpr q))
    · exact absurd rfl h
theorem poJ {ki : Int32} (h : ¬ w_isPort ki = 0) : tn ki < 4 ∧ ki = nI (tn ki) := by
  unfold w_isPort at h
  split at h
  · exact absurd rfl h
  · rename_i h1
    split at h
    · rename_i h2
      exact tn_of (n := 4) (by omega) h1 (fun q => absurd h2 (Int32.not_lt.mpr q))
    · exact absurd rfl h
theorem hpJ {S : SeaT} {n : Nat} {ca cb : Int32} (hn : n ≤ 24) (hc : S_cells S = nI n) (h : ¬ w_X2_hasPair S ca cb = 0) : (tn ca < n ∧ ca = nI (tn ca)) ∧ (tn cb < n ∧ cb = nI (tn cb)) := by
  unfold w_X2_hasPair at h
  split at h
  · exact absurd rfl h
  · rename_i h1
    split at h
    · exact absurd rfl h
    · rename_i h2
      exact ⟨hcJ hn hc h1, hcJ hn hc h2⟩
theorem rgJ {x : Int32} {m : Nat} (hm : m < 2 ^ 30) (h0 : ¬ x < 1) (h : ¬ nI m < x) : tn x ≤ m ∧ x = nI (tn x) ∧ 1 ≤ tn x := by
  have h1 : ¬ x < 0 := fun q => h0 (Int32.lt_trans q (by decide))
  have h2 := tn_of (x := x) (n := m + 1) (by omega) h1 (fun q => h (Int32.lt_of_lt_of_le (nI_lt (by omega) (by omega)) q))
  refine ⟨by omega, h2.2, ?_⟩
  rcases Nat.eq_zero_or_pos (tn x) with h3 | h3
  · rw [h3] at h2
    exact absurd (by rw [h2.2]; decide) h0
  · exact h3
theorem lt24 {S : SeaT} {n : Nat} (hn : n ≤ 24) (hc : S_cells S = nI n) (h : S_cells S < 24) : n < 24 := by
  rw [hc] at h
  exact (nI_ltI (a := n) (b := 24) (by omega) (by omega)).mp h
theorem ge1 {x : Int64} (h : ¬ x < 1) : ¬ x = 0 := fun e => h (by rw [e]; decide)

def w_X4_cell (S : SeaT) (cost : Int64) : Int32 := if (S_cells S) < 24 then if (w_within cost 1000000) = 0 then (-1) else (((S_cells S) + 1) - 1) else (-1)
def w_X4_cell_S (S : SeaT) (cost : Int64) (n : Nat) : SeaT := if (S_cells S) < 24 then if (w_within cost 1000000) = 0 then S else (sS_cells (sS_costs S (vp_updL (S_costs S) n cost)) ((S_cells S) + 1)) else S
set_option maxHeartbeats 4000000 in
set_option maxRecDepth 100000 in
theorem c_X4_cell (l : Launch) (k : KT) (a : Nat → Nat) (S : SeaT) (T : TalT) (dr : Int64) (tr : Int64) (C : ChoT) (F : (Nat → Int32)) (G : GoT) (cost : Int64) (n : Nat) (hn : n ≤ 24) (hc : S_cells S = nI n) : MW l yX4_cell cX4_cell 3 (some .int) (rz 1 23) k [.ref (a 0), .long cost] (xW k a S T dr tr C F G) (some (.int (w_X4_cell S cost))) (xW k a (w_X4_cell_S S cost n) T dr tr C F G) := by
  intro sz
  refine Met.ofW (cc := cX4_cell) (maxL := 3) (ret := (some .int)) (by decide) rfl ?_
  intro p e s m args below meth c s₁ B hml hv
  obtain ⟨rfl, hsz, hP, hK, hD0⟩ := hv
  have hx := B.exec
  have hb := B.bytes
  have hr := B.returns
  have hU : ∀ w ∈ wsL_law, w.before [.ref (a 0), .long cost].toArray s = true := fun w h => atoms_spec (ws := Cond.code yX4_cell cX4_cell 3 (some .int) :: wsL_law) B.pre w (List.mem_cons_of_mem _ h)
  have hown : s.vm.findClass RX4 = some m.cls := findClass_of_methodNamed B.named
  have hlocks := B.notSynchronized
  have hF : CF p m c cX4_cell 3 s [.ref (a 0), .long cost].toArray RX4 := ⟨hx, hb, hml, hown, hU⟩
  subst hsz
  have hD := hD0.self (sz := s.heap.size)
  generalize hAe : va_A (xW k a S T dr tr C F G) s.heap.size = A at hD ⊢
  have hA : ∀ q : Nat, s.heap.size ≤ q → A q := fun q h => by rw [← hAe]; exact Or.inr h
  have hS : va_S A s.heap s.heap [] := va_S.rf
  have hl := lv_entry ([.ref (a 0), .long cost] : List Value) (n := 3) (Nat.le_of_ble_eq_true rfl)
  rw [lg_entry_eq]
  generalize (lg_sl ([.ref (a 0), .long cost] : List Value) ++ List.replicate (3 - (lg_sl ([.ref (a 0), .long cost] : List Value)).length) Slot.unset).toArray = ls at hl ⊢
  have hl : lv_has ls 3 [(0, .ref (a 0)), (1, .long cost)] := hl
  refine lv_aload_n hx hb dX4_cell_0 rfl (lv_at hl 0 rfl) ?_
  refine va_get (D := k.1) (ci := 4) (v := .ref (a 1)) (C := RX4) (T := TX4) (N := 10) hx hb hU inlX4 hown hK.1 hP 0 rfl rfl 0 (by decide) (hU _ uF_X4_10) (fun _ h9 => h9) rfl dX4_cell_1 ?_
  refine va_getN (D := k.1) (ci := 2) (v := .int (S_cells S)) (C := RX2) (T := TX2) (N := 16) hx hb hU inlX2 hown hK.1 hP 1 rfl rfl 12 (by decide) (hK.nf nF_X4_60) (fun _ h9 => h9) rfl dX4_cell_4 ?_
  refine lv_bipush (v := 24) hx hb dX4_cell_7 (by decide) ?_
  refine xb_ge (tgt := 22) hx hb dX4_cell_9 (by decide) (fun c_1 => ?_) (fun c_1 => ?_)
  · refine lv_iconst (v := (-1)) hx hb dX4_cell_22 (by decide) ?_
    have hP9 : va_P k.1 vwCl (xW k a (w_X4_cell_S S cost n) T dr tr C F G) s.heap := by rw [w_X4_cell_S, if_neg c_1]; exact hP
    have hD9 : va_D A (xW k a (w_X4_cell_S S cost n) T dr tr C F G) := by rw [w_X4_cell_S, if_neg c_1]; exact hD
    exact W.iret (v := (-1)) hx hb hr (fun t ht hW => ⟨⟨by rw [w_X4_cell, if_neg c_1], by rw [ht]; exact hP9, hD9⟩, hS.F ht⟩) hS.2.2 dX4_cell_23
  · refine lv_lload_n hx hb dX4_cell_12 rfl (lv_at hl 1 rfl) ?_
    refine lv_ldc2 hx hb hown (hU _ uK_X4_63) dX4_cell_13 ?_
    refine rcS (n := 2) (As := [.long cost, .long 1000000]) (rest := []) hF (c_X4_within l k cost 1000000) (hP.sub (ws' := []) [] rfl) hK uC_X4_within uN_X4 uM_X4_65 uS_X4_within (by decide +kernel) rfl ⟨Nat.le_of_ble_eq_true rfl, Nat.le_of_ble_eq_true rfl⟩ ⟨Nat.zero_le _, Nat.zero_le _⟩ hl.1 rfl (Nat.le_of_ble_eq_true rfl) dX4_cell_16 ?_
    refine lv_if_ne (tgt := 24) hx hb dX4_cell_19 (by decide) (fun c_2 => ?_) (fun c_2 => ?_)
    · refine lv_aload_n hx hb dX4_cell_24 rfl (lv_at hl 0 rfl) ?_
      refine va_get (D := k.1) (ci := 4) (v := .ref (a 1)) (C := RX4) (T := TX4) (N := 10) hx hb hU inlX4 hown hK.1 hP 0 rfl rfl 0 (by decide) (hU _ uF_X4_10) (fun _ h9 => h9) rfl dX4_cell_25 ?_
      refine va_getN (D := k.1) (ci := 2) (v := .ref (a 2)) (C := RX2) (T := TX2) (N := 16) hx hb hU inlX2 hown hK.1 hP 1 rfl rfl 0 (by decide) (hK.nf nF_X4_69) (fun _ h9 => h9) rfl dX4_cell_28 ?_
      refine lv_aload_n hx hb dX4_cell_31 rfl (lv_at hl 0 rfl) ?_
      refine va_get (D := k.1) (ci := 4) (v := .ref (a 1)) (C := RX4) (T := TX4) (N := 10) hx hb hU inlX4 hown hK.1 hP 0 rfl rfl 0 (by decide) (hU _ uF_X4_10) (fun _ h9 => h9) rfl dX4_cell_32 ?_
      refine va_getN (D := k.1) (ci := 2) (v := .int (S_cells S)) (C := RX2) (T := TX2) (N := 16) hx hb hU inlX2 hown hK.1 hP 1 rfl rfl 12 (by decide) (hK.nf nF_X4_60) (fun _ h9 => h9) rfl dX4_cell_35 ?_
      refine lv_lload_n hx hb dX4_cell_38 rfl (lv_at hl 1 rfl) ?_
      refine xa_last hx hb hK.1 hP hD hS 2 1 rfl rfl (j := n) hc (lt24 hn hc c_1) (by decide) dX4_cell_39 (fun H locs hP hD hS => ?_)
      have hP := pz_x_2 k a S T dr tr C F G (vp_updL (S_costs S) n cost) hP
      have hD := dz_x_2 k a S T dr tr C F G (vp_updL (S_costs S) n cost) hD
      refine lv_aload_n hx hb dX4_cell_40 rfl (lv_at hl 0 rfl) ?_
      refine va_get (D := k.1) (ci := 4) (v := .ref (a 1)) (C := RX4) (T := TX4) (N := 10) hx hb hU inlX4 hown hK.1 hP 0 rfl rfl 0 (by decide) (hU _ uF_X4_10) (fun _ h9 => h9) rfl dX4_cell_41 ?_
      refine lv_dup hx hb dX4_cell_44 rfl ?_
      refine va_getN (D := k.1) (ci := 2) (v := .int (S_cells S)) (C := RX2) (T := TX2) (N := 16) hx hb hU inlX2 hown hK.1 hP 1 rfl rfl 12 (by decide) (hK.nf nF_X4_60) (fun _ h9 => h9) rfl dX4_cell_45 ?_
      refine lv_iconst (v := 1) hx hb dX4_cell_48 (by decide) ?_
      refine lv_iadd hx hb dX4_cell_49 ?_
      refine va_putN (D := k.1) (ci := 2) (v := .int ((S_cells S) + 1)) (ty := .int) (C := RX2) (T := TX2) (N := 16) hx hb hU inlX2 tyX2 tyX2_ok nmX2 hown hK.1 hP hD hS 1 rfl rfl 12 (by decide) (hK.nf nF_X4_60) (fun _ h9 => h9) rfl (by decide +kernel) rfl rfl (Nat.le_of_ble_eq_true rfl) dX4_cell_50 (fun H locs hP hD hS => ?_)
      have hP := pz_x_1_12 k a (sS_costs S (vp_updL (S_costs S) n cost)) T dr tr C F G ((S_cells S) + 1) hP
      have hD := dz_x_1_12 k a (sS_costs S (vp_updL (S_costs S) n cost)) T dr tr C F G ((S_cells S) + 1) hD
      refine lv_aload_n hx hb dX4_cell_53 rfl (lv_at hl 0 rfl) ?_
      refine va_get (D := k.1) (ci := 4) (v := .ref (a 1)) (C := RX4) (T := TX4) (N := 10) hx hb hU inlX4 hown hK.1 hP 0 rfl rfl 0 (by decide) (hU _ uF_X4_10) (fun _ h9 => h9) rfl dX4_cell_54 ?_
      refine va_getN (D := k.1) (ci := 2) (v := .int ((S_cells S) + 1)) (C := RX2) (T := TX2) (N := 16) hx hb hU inlX2 hown hK.1 hP 1 rfl rfl 12 (by decide) (hK.nf nF_X4_60) (fun _ h9 => h9) rfl dX4_cell_57 ?_
      refine lv_iconst (v := 1) hx hb dX4_cell_60 (by decide) ?_
      refine lv_isub hx hb dX4_cell_61 ?_
      have hP9 : va_P k.1 vwCl (xW k a (w_X4_cell_S S cost n) T dr tr C F G) H := by rw [w_X4_cell_S, if_pos c_1, if_neg c_2]; exact hP
      have hD9 : va_D A (xW k a (w_X4_cell_S S cost n) T dr tr C F G) := by rw [w_X4_cell_S, if_pos c_1, if_neg c_2]; exact hD
      exact W.iret (v := (((S_cells S) + 1) - 1)) hx hb hr (fun t ht hW => ⟨⟨by rw [w_X4_cell, if_pos c_1, if_neg c_2], by rw [ht]; exact hP9, hD9⟩, hS.F ht⟩) hS.2.2 dX4_cell_62
    · refine lv_iconst (v := (-1)) hx hb dX4_cell_22 (by decide) ?_
      have hP9 : va_P k.1 vwCl (xW k a (w_X4_cell_S S cost n) T dr tr C F G) s.heap := by rw [w_X4_cell_S, if_pos c_1, if_pos c_2]; exact hP
      have hD9 : va_D A (xW k a (w_X4_cell_S S cost n) T dr tr C F G) := by rw [w_X4_cell_S, if_pos c_1, if_pos c_2]; exact hD
      exact W.iret (v := (-1)) hx hb hr (fun t ht hW => ⟨⟨by rw [w_X4_cell, if_pos c_1, if_pos c_2], by rw [ht]; exact hP9, hD9⟩, hS.F ht⟩) hS.2.2 dX4_cell_23

def w_X4_holds (S : SeaT) (ce : Int32) (ki : Int32) (av : Int64) (bv : Int64) : Int32 := if (w_hasCell (S_cells S) ce) = 0 then 0 else if (w_isKind ki) = 0 then 0 else if (w_within av 1000) = 0 then 0 else if bv < 1 then 0 else if 16 < bv then 0 else 1
def w_X4_holds_S (S : SeaT) (ce : Int32) (ki : Int32) (av : Int64) (bv : Int64) : SeaT := if (w_hasCell (S_cells S) ce) = 0 then S else if (w_isKind ki) = 0 then S else if (w_within av 1000) = 0 then S else if bv < 1 then S else if 16 < bv then S else (w_X2_putAmount_S S ((720720 / bv) * av) (tn ce) (tn ki))
set_option maxHeartbeats 4000000 in
set_option maxRecDepth 100000 in
theorem c_X4_holds (l : Launch) (k : KT) (a : Nat → Nat) (S : SeaT) (T : TalT) (dr : Int64) (tr : Int64) (C : ChoT) (F : (Nat → Int32)) (G : GoT) (ce : Int32) (ki : Int32) (av : Int64) (bv : Int64) (n : Nat) (hn : n ≤ 24) (hc : S_cells S = nI n) : MW l yX4_holds cX4_holds 7 (some .boolean) (rz 1 25) k [.ref (a 0), .int ce, .int ki, .long av, .long bv] (xW k a S T dr tr C F G) (some (.int (w_X4_holds S ce ki av bv))) (xW k a (w_X4_holds_S S ce ki av bv) T dr tr C F G) := by
  intro sz
  refine Met.ofW (cc := cX4_holds) (maxL := 7) (ret := (some .boolean)) (by decide) rfl ?_
  intro p e s m args below meth c s₁ B hml hv
  obtain ⟨rfl, hsz, hP, hK, hD0⟩ := hv
  have hx := B.exec
  have hb := B.bytes
  have hr := B.returns
  have hU : ∀ w ∈ wsL_law, w.before [.ref (a 0), .int ce, .int ki, .long av, .long bv].toArray s = true := fun w h => atoms_spec (ws := Cond.code yX4_holds cX4_holds 7 (some .boolean) :: wsL_law) B.pre w (List.mem_cons_of_mem _ h)
  have hown : s.vm.findClass RX4 = some m.cls := findClass_of_methodNamed B.named
  have hlocks := B.notSynchronized
  have hF : CF p m c cX4_holds 7 s [.ref (a 0), .int ce, .int ki, .long av, .long bv].toArray RX4 := ⟨hx, hb, hml, hown, hU⟩
  subst hsz
  have hD := hD0.self (sz := s.heap.size)
  generalize hAe : va_A (xW k a S T dr tr C F G) s.heap.size = A at hD ⊢
  have hA : ∀ q : Nat, s.heap.size ≤ q → A q := fun q h => by rw [← hAe]; exact Or.inr h
  have hS : va_S A s.heap s.heap [] := va_S.rf
  have hl := lv_entry ([.ref (a 0), .int ce, .int ki, .long av, .long bv] : List Value) (n := 7) (Nat.le_of_ble_eq_true rfl)
  rw [lg_entry_eq]
  generalize (lg_sl ([.ref (a 0), .int ce, .int ki, .long av, .long bv] : List Value) ++ List.replicate (7 - (lg_sl ([.ref (a 0), .int ce, .int ki, .long av, .long bv] : List Value)).length) Slot.unset).toArray = ls at hl ⊢
  have hl : lv_has ls 7 [(0, .ref (a 0)), (1, .int ce), (2, .int ki), (3, .long av), (5, .long bv)] := hl
  refine lv_aload_n hx hb dX4_holds_0 rfl (lv_at hl 0 rfl) ?_
  refine va_get (D := k.1) (ci := 4) (v := .ref (a 1)) (C := RX4) (T := TX4) (N := 10) hx hb hU inlX4 hown hK.1 hP 0 rfl rfl 0 (by decide) (hU _ uF_X4_10) (fun _ h9 => h9) rfl dX4_holds_1 ?_
  refine lv_iload_n hx hb dX4_holds_4 rfl (lv_at hl 1 rfl) ?_
  refine rcVN (n := 1) (As := [.int ce]) (rest := []) hF (c_X2_hasCell l k a S T dr tr C F G ce ) (hP) hK 1 (ci := 2) rfl rfl rfl uC_X2_hasCell uN_X2 nM_X4_73 uI_X2_hasCell uE_X2_hasCell (by decide +kernel) rfl ⟨Nat.le_of_ble_eq_true rfl, Nat.le_of_ble_eq_true rfl⟩ ⟨Nat.zero_le _, Nat.zero_le _⟩ hl.1 rfl (Nat.le_of_ble_eq_true rfl) dX4_holds_5 ?_
  refine lv_if_eq (tgt := 18) hx hb dX4_holds_8 (by decide) (fun c_1 => ?_) (fun c_1 => ?_)
  · refine lv_iconst (v := 0) hx hb dX4_holds_18 (by decide) ?_
    have hP9 : va_P k.1 vwCl (xW k a (w_X4_holds_S S ce ki av bv) T dr tr C F G) s.heap := by rw [w_X4_holds_S, if_pos c_1]; exact hP
    have hD9 : va_D A (xW k a (w_X4_holds_S S ce ki av bv) T dr tr C F G) := by rw [w_X4_holds_S, if_pos c_1]; exact hD
    exact W.zret (v := 0) hx hb hr rfl (fun t ht hW => ⟨⟨by rw [w_X4_holds, if_pos c_1], by rw [ht]; exact hP9, hD9⟩, hS.F ht⟩) hS.2.2 dX4_holds_19
  · refine lv_iload_n hx hb dX4_holds_11 rfl (lv_at hl 2 rfl) ?_
    refine rcS (n := 1) (As := [.int ki]) (rest := []) hF (c_X4_isKind l k ki) (hP.sub (ws' := []) [] rfl) hK uC_X4_isKind uN_X4 uM_X4_77 uS_X4_isKind (by decide +kernel) rfl ⟨Nat.le_of_ble_eq_true rfl, Nat.le_of_ble_eq_true rfl⟩ ⟨Nat.zero_le _, Nat.zero_le _⟩ hl.1 rfl (Nat.le_of_ble_eq_true rfl) dX4_holds_12 ?_
    refine lv_if_ne (tgt := 20) hx hb dX4_holds_15 (by decide) (fun c_2 => ?_) (fun c_2 => ?_)
    · refine lv_lload_n hx hb dX4_holds_20 rfl (lv_at hl 3 rfl) ?_
      refine lv_ldc2 hx hb hown (hU _ uK_X4_80) dX4_holds_21 ?_
      refine rcS (n := 2) (As := [.long av, .long 1000]) (rest := []) hF (c_X4_within l k av 1000) (hP.sub (ws' := []) [] rfl) hK uC_X4_within uN_X4 uM_X4_65 uS_X4_within (by decide +kernel) rfl ⟨Nat.le_of_ble_eq_true rfl, Nat.le_of_ble_eq_true rfl⟩ ⟨Nat.zero_le _, Nat.zero_le _⟩ hl.1 rfl (Nat.le_of_ble_eq_true rfl) dX4_holds_24 ?_
      refine lv_if_eq (tgt := 46) hx hb dX4_holds_27 (by decide) (fun c_3 => ?_) (fun c_3 => ?_)
      · refine lv_iconst (v := 0) hx hb dX4_holds_46 (by decide) ?_
        have hP9 : va_P k.1 vwCl (xW k a (w_X4_holds_S S ce ki av bv) T dr tr C F G) s.heap := by rw [w_X4_holds_S, if_neg c_1, if_neg c_2, if_pos c_3]; exact hP
        have hD9 : va_D A (xW k a (w_X4_holds_S S ce ki av bv) T dr tr C F G) := by rw [w_X4_holds_S, if_neg c_1, if_neg c_2, if_pos c_3]; exact hD
        exact W.zret (v := 0) hx hb hr rfl (fun t ht hW => ⟨⟨by rw [w_X4_holds, if_neg c_1, if_neg c_2, if_pos c_3], by rw [ht]; exact hP9, hD9⟩, hS.F ht⟩) hS.2.2 dX4_holds_47
      · refine lv_lload hx hb dX4_holds_30 (lv_at hl 4 rfl) ?_
        refine lv_lconst (v := 1) hx hb dX4_holds_32 (by decide) ?_
        refine xl_lt (tgt := 46) hx hb dX4_holds_33 dX4_holds_34 (by decide) (fun c_4 => ?_) (fun c_4 => ?_)
        · refine lv_iconst (v := 0) hx hb dX4_holds_46 (by decide) ?_
          have hP9 : va_P k.1 vwCl (xW k a (w_X4_holds_S S ce ki av bv) T dr tr C F G) s.heap := by rw [w_X4_holds_S, if_neg c_1, if_neg c_2, if_neg c_3, if_pos c_4]; exact hP
          have hD9 : va_D A (xW k a (w_X4_holds_S S ce ki av bv) T dr tr C F G) := by rw [w_X4_holds_S, if_neg c_1, if_neg c_2, if_neg c_3, if_pos c_4]; exact hD
          exact W.zret (v := 0) hx hb hr rfl (fun t ht hW => ⟨⟨by rw [w_X4_holds, if_neg c_1, if_neg c_2, if_neg c_3, if_pos c_4], by rw [ht]; exact hP9, hD9⟩, hS.F ht⟩) hS.2.2 dX4_holds_47
        · refine lv_lload hx hb dX4_holds_37 (lv_at hl 4 rfl) ?_
          refine lv_ldc2 hx hb hown (hU _ uK_X4_82) dX4_holds_39 ?_
          refine xl_le (tgt := 48) hx hb dX4_holds_42 dX4_holds_43 (by decide) (fun c_5 => ?_) (fun c_5 => ?_)
          · refine lv_aload_n hx hb dX4_holds_48 rfl (lv_at hl 0 rfl) ?_
            refine va_get (D := k.1) (ci := 4) (v := .ref (a 1)) (C := RX4) (T := TX4) (N := 10) hx hb hU inlX4 hown hK.1 hP 0 rfl rfl 0 (by decide) (hU _ uF_X4_10) (fun _ h9 => h9) rfl dX4_holds_49 ?_
            refine lv_iload_n hx hb dX4_holds_52 rfl (lv_at hl 1 rfl) ?_
            refine lv_iload_n hx hb dX4_holds_53 rfl (lv_at hl 2 rfl) ?_
            refine lv_ldc2 hx hb hown (hU _ uK_X4_84) dX4_holds_54 ?_
            refine lv_lload hx hb dX4_holds_57 (lv_at hl 4 rfl) ?_
            refine lv_ldiv hx hb dX4_holds_59 (ge1 c_4) ?_
            refine lv_lload_n hx hb dX4_holds_60 rfl (lv_at hl 3 rfl) ?_
            refine lv_lmul hx hb dX4_holds_61 ?_
            refine wcVN (n := 3) (As := [.int ce, .int ki, .long ((720720 / bv) * av)]) (rest := []) hF (c_X2_putAmount l k a S T dr tr C F G ce ki ((720720 / bv) * av) (tn ce) (tn ki) (by have := (hcJ hn hc c_1).1; omega) (kiJ c_2).1 (hcJ hn hc c_1).2 (kiJ c_2).2) hP hD hS hA hK 1 (ci := 2) rfl rfl rfl uC_X2_putAmount uN_X2 nM_X4_86 uI_X2_putAmount uE_X2_putAmount (by decide +kernel) rfl ⟨Nat.le_of_ble_eq_true rfl, Nat.le_of_ble_eq_true rfl⟩ ⟨Nat.zero_le _, Nat.zero_le _⟩ hl.1 rfl (Nat.le_of_ble_eq_true rfl) dX4_holds_62 (fun H locs hP hD hS => ?_)
            have hP : va_P k.1 vwCl (xW k a (w_X2_putAmount_S S ((720720 / bv) * av) (tn ce) (tn ki)) T dr tr C F G) H := hP
            have hD : va_D A (xW k a (w_X2_putAmount_S S ((720720 / bv) * av) (tn ce) (tn ki)) T dr tr C F G) := hD
            refine lv_iconst (v := 1) hx hb dX4_holds_65 (by decide) ?_
            have hP9 : va_P k.1 vwCl (xW k a (w_X4_holds_S S ce ki av bv) T dr tr C F G) H := by rw [w_X4_holds_S, if_neg c_1, if_neg c_2, if_neg c_3, if_neg c_4, if_neg c_5]; exact hP
            have hD9 : va_D A (xW k a (w_X4_holds_S S ce ki av bv) T dr tr C F G) := by rw [w_X4_holds_S, if_neg c_1, if_neg c_2, if_neg c_3, if_neg c_4, if_neg c_5]; exact hD
            exact W.zret (v := 1) hx hb hr rfl (fun t ht hW => ⟨⟨by rw [w_X4_holds, if_neg c_1, if_neg c_2, if_neg c_3, if_neg c_4, if_neg c_5], by rw [ht]; exact hP9, hD9⟩, hS.F ht⟩) hS.2.2 dX4_holds_66
          · refine lv_iconst (v := 0) hx hb dX4_holds_46 (by decide) ?_
            have hP9 : va_P k.1 vwCl (xW k a (w_X4_holds_S S ce ki av bv) T dr tr C F G) s.heap := by rw [w_X4_holds_S, if_neg c_1, if_neg c_2, if_neg c_3, if_neg c_4, if_pos c_5]; exact hP
            have hD9 : va_D A (xW k a (w_X4_holds_S S ce ki av bv) T dr tr C F G) := by rw [w_X4_holds_S, if_neg c_1, if_neg c_2, if_neg c_3, if_neg c_4, if_pos c_5]; exact hD
            exact W.zret (v := 0) hx hb hr rfl (fun t ht hW => ⟨⟨by rw [w_X4_holds, if_neg c_1, if_neg c_2, if_neg c_3, if_neg c_4, if_pos c_5], by rw [ht]; exact hP9, hD9⟩, hS.F ht⟩) hS.2.2 dX4_holds_47
    · refine lv_iconst (v := 0) hx hb dX4_holds_18 (by decide) ?_
      have hP9 : va_P k.1 vwCl (xW k a (w_X4_holds_S S ce ki av bv) T dr tr C F G) s.heap := by rw [w_X4_holds_S, if_neg c_1, if_pos c_2]; exact hP
      have hD9 : va_D A (xW k a (w_X4_holds_S S ce ki av bv) T dr tr C F G) := by rw [w_X4_holds_S, if_neg c_1, if_pos c_2]; exact hD
      exact W.zret (v := 0) hx hb hr rfl (fun t ht hW => ⟨⟨by rw [w_X4_holds, if_neg c_1, if_pos c_2], by rw [ht]; exact hP9, hD9⟩, hS.F ht⟩) hS.2.2 dX4_holds_19

def w_X4_goal (ki : Int32) (av : Int64) (bv : Int64) : Int32 := if (w_isKind ki) = 0 then 0 else if (w_isShare av bv) = 0 then 0 else 1
def w_X4_goal_S (S : SeaT) (ki : Int32) (av : Int64) (bv : Int64) : SeaT := if (w_isKind ki) = 0 then S else if (w_isShare av bv) = 0 then S else (sS_goalBelow (sS_goalAbove S (vp_updL (S_goalAbove S) (tn ki) av)) (vp_updL (S_goalBelow (sS_goalAbove S (vp_updL (S_goalAbove S) (tn ki) av))) (tn ki) bv))
set_option maxHeartbeats 4000000 in
set_option maxRecDepth 100000 in
theorem c_X4_goal (l : Launch) (k : KT) (a : Nat → Nat) (S : SeaT) (T : TalT) (dr : Int64) (tr : Int64) (C : ChoT) (F : (Nat → Int32)) (G : GoT) (ki : Int32) (av : Int64) (bv : Int64) (n : Nat) (hn : n ≤ 24) (hc : S_cells S = nI n) : MW l yX4_goal cX4_goal 6 (some .boolean) (rz 1 23) k [.ref (a 0), .int ki, .long av, .long bv] (xW k a S T dr tr C F G) (some (.int (w_X4_goal ki av bv))) (xW k a (w_X4_goal_S S ki av bv) T dr tr C F G) := by
  intro sz
  refine Met.ofW (cc := cX4_goal) (maxL := 6) (ret := (some .boolean)) (by decide) rfl ?_
  intro p e s m args below meth c s₁ B hml hv
  obtain ⟨rfl, hsz, hP, hK, hD0⟩ := hv
  have hx := B.exec
  have hb := B.bytes
  have hr := B.returns
  have hU : ∀ w ∈ wsL_law, w.before [.ref (a 0), .int ki, .long av, .long bv].toArray s = true := fun w h => atoms_spec (ws := Cond.code yX4_goal cX4_goal 6 (some .boolean) :: wsL_law) B.pre w (List.mem_cons_of_mem _ h)
  have hown : s.vm.findClass RX4 = some m.cls := findClass_of_methodNamed B.named
  have hlocks := B.notSynchronized
  have hF : CF p m c cX4_goal 6 s [.ref (a 0), .int ki, .long av, .long bv].toArray RX4 := ⟨hx, hb, hml, hown, hU⟩
  subst hsz
  have hD := hD0.self (sz := s.heap.size)
  generalize hAe : va_A (xW k a S T dr tr C F G) s.heap.size = A at hD ⊢
  have hA : ∀ q : Nat, s.heap.size ≤ q → A q := fun q h => by rw [← hAe]; exact Or.inr h
  have hS : va_S A s.heap s.heap [] := va_S.rf
  have hl := lv_entry ([.ref (a 0), .int ki, .long av, .long bv] : List Value) (n := 6) (Nat.le_of_ble_eq_true rfl)
  rw [lg_entry_eq]
  generalize (lg_sl ([.ref (a 0), .int ki, .long av, .long bv] : List Value) ++ List.replicate (6 - (lg_sl ([.ref (a 0), .int ki, .long av, .long bv] : List Value)).length) Slot.unset).toArray = ls at hl ⊢
  have hl : lv_has ls 6 [(0, .ref (a 0)), (1, .int ki), (2, .long av), (4, .long bv)] := hl
  refine lv_iload_n hx hb dX4_goal_0 rfl (lv_at hl 1 rfl) ?_
  refine rcS (n := 1) (As := [.int ki]) (rest := []) hF (c_X4_isKind l k ki) (hP.sub (ws' := []) [] rfl) hK uC_X4_isKind uN_X4 uM_X4_77 uS_X4_isKind (by decide +kernel) rfl ⟨Nat.le_of_ble_eq_true rfl, Nat.le_of_ble_eq_true rfl⟩ ⟨Nat.zero_le _, Nat.zero_le _⟩ hl.1 rfl (Nat.le_of_ble_eq_true rfl) dX4_goal_1 ?_
  refine lv_if_eq (tgt := 16) hx hb dX4_goal_4 (by decide) (fun c_1 => ?_) (fun c_1 => ?_)
  · refine lv_iconst (v := 0) hx hb dX4_goal_16 (by decide) ?_
    have hP9 : va_P k.1 vwCl (xW k a (w_X4_goal_S S ki av bv) T dr tr C F G) s.heap := by rw [w_X4_goal_S, if_pos c_1]; exact hP
    have hD9 : va_D A (xW k a (w_X4_goal_S S ki av bv) T dr tr C F G) := by rw [w_X4_goal_S, if_pos c_1]; exact hD
    exact W.zret (v := 0) hx hb hr rfl (fun t ht hW => ⟨⟨by rw [w_X4_goal, if_pos c_1], by rw [ht]; exact hP9, hD9⟩, hS.F ht⟩) hS.2.2 dX4_goal_17
  · refine lv_lload_n hx hb dX4_goal_7 rfl (lv_at hl 2 rfl) ?_
    refine lv_lload hx hb dX4_goal_8 (lv_at hl 3 rfl) ?_
    refine rcS (n := 2) (As := [.long av, .long bv]) (rest := []) hF (c_X4_isShare l k av bv) (hP.sub (ws' := []) [] rfl) hK uC_X4_isShare uN_X4 uM_X4_90 uS_X4_isShare (by decide +kernel) rfl ⟨Nat.le_of_ble_eq_true rfl, Nat.le_of_ble_eq_true rfl⟩ ⟨Nat.zero_le _, Nat.zero_le _⟩ hl.1 rfl (Nat.le_of_ble_eq_true rfl) dX4_goal_10 ?_
    refine lv_if_ne (tgt := 18) hx hb dX4_goal_13 (by decide) (fun c_2 => ?_) (fun c_2 => ?_)
    · refine lv_aload_n hx hb dX4_goal_18 rfl (lv_at hl 0 rfl) ?_
      refine va_get (D := k.1) (ci := 4) (v := .ref (a 1)) (C := RX4) (T := TX4) (N := 10) hx hb hU inlX4 hown hK.1 hP 0 rfl rfl 0 (by decide) (hU _ uF_X4_10) (fun _ h9 => h9) rfl dX4_goal_19 ?_
      refine va_getN (D := k.1) (ci := 2) (v := .ref (a 9)) (C := RX2) (T := TX2) (N := 16) hx hb hU inlX2 hown hK.1 hP 1 rfl rfl 7 (by decide) (hK.nf nF_X4_93) (fun _ h9 => h9) rfl dX4_goal_22 ?_
      refine lv_iload_n hx hb dX4_goal_25 rfl (lv_at hl 1 rfl) ?_
      refine lv_lload_n hx hb dX4_goal_26 rfl (lv_at hl 2 rfl) ?_
      refine xa_last hx hb hK.1 hP hD hS 9 1 rfl rfl (j := (tn ki)) (kiJ c_1).2 (kiJ c_1).1 (by decide) dX4_goal_27 (fun H locs hP hD hS => ?_)
      have hP := pz_x_9 k a S T dr tr C F G (vp_updL (S_goalAbove S) (tn ki) av) hP
      have hD := dz_x_9 k a S T dr tr C F G (vp_updL (S_goalAbove S) (tn ki) av) hD
      refine lv_aload_n hx hb dX4_goal_28 rfl (lv_at hl 0 rfl) ?_
      refine va_get (D := k.1) (ci := 4) (v := .ref (a 1)) (C := RX4) (T := TX4) (N := 10) hx hb hU inlX4 hown hK.1 hP 0 rfl rfl 0 (by decide) (hU _ uF_X4_10) (fun _ h9 => h9) rfl dX4_goal_29 ?_
      refine va_getN (D := k.1) (ci := 2) (v := .ref (a 10)) (C := RX2) (T := TX2) (N := 16) hx hb hU inlX2 hown hK.1 hP 1 rfl rfl 8 (by decide) (hK.nf nF_X4_96) (fun _ h9 => h9) rfl dX4_goal_32 ?_
      refine lv_iload_n hx hb dX4_goal_35 rfl (lv_at hl 1 rfl) ?_
      refine lv_lload hx hb dX4_goal_36 (lv_at hl 3 rfl) ?_
      refine xa_last hx hb hK.1 hP hD hS 10 1 rfl rfl (j := (tn ki)) (kiJ c_1).2 (kiJ c_1).1 (by decide) dX4_goal_38 (fun H locs hP hD hS => ?_)
      have hP := pz_x_10 k a (sS_goalAbove S (vp_updL (S_goalAbove S) (tn ki) av)) T dr tr C F G (vp_updL (S_goalBelow (sS_goalAbove S (vp_updL (S_goalAbove S) (tn ki) av))) (tn ki) bv) hP
      have hD := dz_x_10 k a (sS_goalAbove S (vp_updL (S_goalAbove S) (tn ki) av)) T dr tr C F G (vp_updL (S_goalBelow (sS_goalAbove S (vp_updL (S_goalAbove S) (tn ki) av))) (tn ki) bv) hD
      refine lv_iconst (v := 1) hx hb dX4_goal_39 (by decide) ?_
      have hP9 : va_P k.1 vwCl (xW k a (w_X4_goal_S S ki av bv) T dr tr C F G) H := by rw [w_X4_goal_S, if_neg c_1, if_neg c_2]; exact hP
      have hD9 : va_D A (xW k a (w_X4_goal_S S ki av bv) T dr tr C F G) := by rw [w_X4_goal_S, if_neg c_1, if_neg c_2]; exact hD
      exact W.zret (v := 1) hx hb hr rfl (fun t ht hW => ⟨⟨by rw [w_X4_goal, if_neg c_1, if_neg c_2], by rw [ht]; exact hP9, hD9⟩, hS.F ht⟩) hS.2.2 dX4_goal_40
    · refine lv_iconst (v := 0) hx hb dX4_goal_16 (by decide) ?_
      have hP9 : va_P k.1 vwCl (xW k a (w_X4_goal_S S ki av bv) T dr tr C F G) s.heap := by rw [w_X4_goal_S, if_neg c_1, if_pos c_2]; exact hP
      have hD9 : va_D A (xW k a (w_X4_goal_S S ki av bv) T dr tr C F G) := by rw [w_X4_goal_S, if_neg c_1, if_pos c_2]; exact hD
      exact W.zret (v := 0) hx hb hr rfl (fun t ht hW => ⟨⟨by rw [w_X4_goal, if_neg c_1, if_pos c_2], by rw [ht]; exact hP9, hD9⟩, hS.F ht⟩) hS.2.2 dX4_goal_17

def w_X4_near (S : SeaT) (ca : Int32) (cb : Int32) (bo : Int64) : Int32 := if (w_X2_hasPair S ca cb) = 0 then 0 else if (w_within bo 1000) = 0 then 0 else 1
def w_X4_near_S (S : SeaT) (ca : Int32) (cb : Int32) (bo : Int64) : SeaT := if (w_X2_hasPair S ca cb) = 0 then S else if (w_within bo 1000) = 0 then S else (sS_borders (sS_borders S (vp_updL (S_borders S) ((tn ca) * 24 + (tn cb)) bo)) (vp_updL (S_borders (sS_borders S (vp_updL (S_borders S) ((tn ca) * 24 + (tn cb)) bo))) ((tn cb) * 24 + (tn ca)) bo))
set_option maxHeartbeats 4000000 in
set_option maxRecDepth 100000 in
theorem c_X4_near (l : Launch) (k : KT) (a : Nat → Nat) (S : SeaT) (T : TalT) (dr : Int64) (tr : Int64) (C : ChoT) (F : (Nat → Int32)) (G : GoT) (ca : Int32) (cb : Int32) (bo : Int64) (n : Nat) (hn : n ≤ 24) (hc : S_cells S = nI n) : MW l yX4_near cX4_near 5 (some .boolean) (rz 2 43) k [.ref (a 0), .int ca, .int cb, .long bo] (xW k a S T dr tr C F G) (some (.int (w_X4_near S ca cb bo))) (xW k a (w_X4_near_S S ca cb bo) T dr tr C F G) := by
  intro sz
  refine Met.ofW (cc := cX4_near) (maxL := 5) (ret := (some .boolean)) (by decide) rfl ?_
  intro p e s m args below meth c s₁ B hml hv
  obtain ⟨rfl, hsz, hP, hK, hD0⟩ := hv
  have hx := B.exec
  have hb := B.bytes
  have hr := B.returns
  have hU : ∀ w ∈ wsL_law, w.before [.ref (a 0), .int ca, .int cb, .long bo].toArray s = true := fun w h => atoms_spec (ws := Cond.code yX4_near cX4_near 5 (some .boolean) :: wsL_law) B.pre w (List.mem_cons_of_mem _ h)
  have hown : s.vm.findClass RX4 = some m.cls := findClass_of_methodNamed B.named
  have hlocks := B.notSynchronized
  have hF : CF p m c cX4_near 5 s [.ref (a 0), .int ca, .int cb, .long bo].toArray RX4 := ⟨hx, hb, hml, hown, hU⟩
  subst hsz
  have hD := hD0.self (sz := s.heap.size)
  generalize hAe : va_A (xW k a S T dr tr C F G) s.heap.size = A at hD ⊢
  have hA : ∀ q : Nat, s.heap.size ≤ q → A q := fun q h => by rw [← hAe]; exact Or.inr h
  have hS : va_S A s.heap s.heap [] := va_S.rf
  have hl := lv_entry ([.ref (a 0), .int ca, .int cb, .long bo] : List Value) (n := 5) (Nat.le_of_ble_eq_true rfl)
  rw [lg_entry_eq]
  generalize (lg_sl ([.ref (a 0), .int ca, .int cb, .long bo] : List Value) ++ List.replicate (5 - (lg_sl ([.ref (a 0), .int ca, .int cb, .long bo] : List Value)).length) Slot.unset).toArray = ls at hl ⊢
  have hl : lv_has ls 5 [(0, .ref (a 0)), (1, .int ca), (2, .int cb), (3, .long bo)] := hl
  refine lv_aload_n hx hb dX4_near_0 rfl (lv_at hl 0 rfl) ?_
  refine va_get (D := k.1) (ci := 4) (v := .ref (a 1)) (C := RX4) (T := TX4) (N := 10) hx hb hU inlX4 hown hK.1 hP 0 rfl rfl 0 (by decide) (hU _ uF_X4_10) (fun _ h9 => h9) rfl dX4_near_1 ?_
  refine lv_iload_n hx hb dX4_near_4 rfl (lv_at hl 1 rfl) ?_
  refine lv_iload_n hx hb dX4_near_5 rfl (lv_at hl 2 rfl) ?_
  refine rcVN (n := 2) (As := [.int ca, .int cb]) (rest := []) hF (c_X2_hasPair l k a S T dr tr C F G ca cb ) (hP) hK 1 (ci := 2) rfl rfl rfl uC_X2_hasPair uN_X2 nM_X4_99 uI_X2_hasPair uE_X2_hasPair (by decide +kernel) rfl ⟨Nat.le_of_ble_eq_true rfl, Nat.le_of_ble_eq_true rfl⟩ ⟨Nat.zero_le _, Nat.zero_le _⟩ hl.1 rfl (Nat.le_of_ble_eq_true rfl) dX4_near_6 ?_
  refine lv_if_eq (tgt := 22) hx hb dX4_near_9 (by decide) (fun c_1 => ?_) (fun c_1 => ?_)
  · refine lv_iconst (v := 0) hx hb dX4_near_22 (by decide) ?_
    have hP9 : va_P k.1 vwCl (xW k a (w_X4_near_S S ca cb bo) T dr tr C F G) s.heap := by rw [w_X4_near_S, if_pos c_1]; exact hP
    have hD9 : va_D A (xW k a (w_X4_near_S S ca cb bo) T dr tr C F G) := by rw [w_X4_near_S, if_pos c_1]; exact hD
    exact W.zret (v := 0) hx hb hr rfl (fun t ht hW => ⟨⟨by rw [w_X4_near, if_pos c_1], by rw [ht]; exact hP9, hD9⟩, hS.F ht⟩) hS.2.2 dX4_near_23
  · refine lv_lload_n hx hb dX4_near_12 rfl (lv_at hl 3 rfl) ?_
    refine lv_ldc2 hx hb hown (hU _ uK_X4_80) dX4_near_13 ?_
    refine rcS (n := 2) (As := [.long bo, .long 1000]) (rest := []) hF (c_X4_within l k bo 1000) (hP.sub (ws' := []) [] rfl) hK uC_X4_within uN_X4 uM_X4_65 uS_X4_within (by decide +kernel) rfl ⟨Nat.le_of_ble_eq_true rfl, Nat.le_of_ble_eq_true rfl⟩ ⟨Nat.zero_le _, Nat.zero_le _⟩ hl.1 rfl (Nat.le_of_ble_eq_true rfl) dX4_near_16 ?_
    refine lv_if_ne (tgt := 24) hx hb dX4_near_19 (by decide) (fun c_2 => ?_) (fun c_2 => ?_)
    · refine lv_aload_n hx hb dX4_near_24 rfl (lv_at hl 0 rfl) ?_
      refine va_get (D := k.1) (ci := 4) (v := .ref (a 1)) (C := RX4) (T := TX4) (N := 10) hx hb hU inlX4 hown hK.1 hP 0 rfl rfl 0 (by decide) (hU _ uF_X4_10) (fun _ h9 => h9) rfl dX4_near_25 ?_
      refine va_getN (D := k.1) (ci := 2) (v := .ref (a 5)) (C := RX2) (T := TX2) (N := 16) hx hb hU inlX2 hown hK.1 hP 1 rfl rfl 3 (by decide) (hK.nf nF_X4_103) (fun _ h9 => h9) rfl dX4_near_28 ?_
      refine lv_iload_n hx hb dX4_near_31 rfl (lv_at hl 1 rfl) ?_
      refine lv_bipush (v := 24) hx hb dX4_near_32 (by decide) ?_
      refine lv_imul hx hb dX4_near_34 ?_
      refine lv_iload_n hx hb dX4_near_35 rfl (lv_at hl 2 rfl) ?_
      refine lv_iadd hx hb dX4_near_36 ?_
      refine lv_lload_n hx hb dX4_near_37 rfl (lv_at hl 3 rfl) ?_
      refine xa_last hx hb hK.1 hP hD hS 5 1 rfl rfl (j := ((tn ca) * 24 + (tn cb))) (by rw [← ix24, ← (hpJ hn hc c_1).1.2, ← (hpJ hn hc c_1).2.2]) (by have h1 := (hpJ hn hc c_1).1.1; have h2 := (hpJ hn hc c_1).2.1; omega) (by decide) dX4_near_38 (fun H locs hP hD hS => ?_)
      have hP := pz_x_5 k a S T dr tr C F G (vp_updL (S_borders S) ((tn ca) * 24 + (tn cb)) bo) hP
      have hD := dz_x_5 k a S T dr tr C F G (vp_updL (S_borders S) ((tn ca) * 24 + (tn cb)) bo) hD
      refine lv_aload_n hx hb dX4_near_39 rfl (lv_at hl 0 rfl) ?_
      refine va_get (D := k.1) (ci := 4) (v := .ref (a 1)) (C := RX4) (T := TX4) (N := 10) hx hb hU inlX4 hown hK.1 hP 0 rfl rfl 0 (by decide) (hU _ uF_X4_10) (fun _ h9 => h9) rfl dX4_near_40 ?_
      refine va_getN (D := k.1) (ci := 2) (v := .ref (a 5)) (C := RX2) (T := TX2) (N := 16) hx hb hU inlX2 hown hK.1 hP 1 rfl rfl 3 (by decide) (hK.nf nF_X4_103) (fun _ h9 => h9) rfl dX4_near_43 ?_
      refine lv_iload_n hx hb dX4_near_46 rfl (lv_at hl 2 rfl) ?_
      refine lv_bipush (v := 24) hx hb dX4_near_47 (by decide) ?_
      refine lv_imul hx hb dX4_near_49 ?_
      refine lv_iload_n hx hb dX4_near_50 rfl (lv_at hl 1 rfl) ?_
      refine lv_iadd hx hb dX4_near_51 ?_
      refine lv_lload_n hx hb dX4_near_52 rfl (lv_at hl 3 rfl) ?_
      refine xa_last hx hb hK.1 hP hD hS 5 1 rfl rfl (j := ((tn cb) * 24 + (tn ca))) (by rw [← ix24, ← (hpJ hn hc c_1).2.2, ← (hpJ hn hc c_1).1.2]) (by have h1 := (hpJ hn hc c_1).1.1; have h2 := (hpJ hn hc c_1).2.1; omega) (by decide) dX4_near_53 (fun H locs hP hD hS => ?_)
      have hP := pz_x_5 k a (sS_borders S (vp_updL (S_borders S) ((tn ca) * 24 + (tn cb)) bo)) T dr tr C F G (vp_updL (S_borders (sS_borders S (vp_updL (S_borders S) ((tn ca) * 24 + (tn cb)) bo))) ((tn cb) * 24 + (tn ca)) bo) hP
      have hD := dz_x_5 k a (sS_borders S (vp_updL (S_borders S) ((tn ca) * 24 + (tn cb)) bo)) T dr tr C F G (vp_updL (S_borders (sS_borders S (vp_updL (S_borders S) ((tn ca) * 24 + (tn cb)) bo))) ((tn cb) * 24 + (tn ca)) bo) hD
      refine lv_iconst (v := 1) hx hb dX4_near_54 (by decide) ?_
      have hP9 : va_P k.1 vwCl (xW k a (w_X4_near_S S ca cb bo) T dr tr C F G) H := by rw [w_X4_near_S, if_neg c_1, if_neg c_2]; exact hP
      have hD9 : va_D A (xW k a (w_X4_near_S S ca cb bo) T dr tr C F G) := by rw [w_X4_near_S, if_neg c_1, if_neg c_2]; exact hD
      exact W.zret (v := 1) hx hb hr rfl (fun t ht hW => ⟨⟨by rw [w_X4_near, if_neg c_1, if_neg c_2], by rw [ht]; exact hP9, hD9⟩, hS.F ht⟩) hS.2.2 dX4_near_55
    · refine lv_iconst (v := 0) hx hb dX4_near_22 (by decide) ?_
      have hP9 : va_P k.1 vwCl (xW k a (w_X4_near_S S ca cb bo) T dr tr C F G) s.heap := by rw [w_X4_near_S, if_neg c_1, if_pos c_2]; exact hP
      have hD9 : va_D A (xW k a (w_X4_near_S S ca cb bo) T dr tr C F G) := by rw [w_X4_near_S, if_neg c_1, if_pos c_2]; exact hD
      exact W.zret (v := 0) hx hb hr rfl (fun t ht hW => ⟨⟨by rw [w_X4_near, if_neg c_1, if_pos c_2], by rw [ht]; exact hP9, hD9⟩, hS.F ht⟩) hS.2.2 dX4_near_23

def w_X4_weight (wv : Int64) : Int32 := if (w_within wv 1000) = 0 then 0 else 1
def w_X4_weight_S (S : SeaT) (wv : Int64) : SeaT := if (w_within wv 1000) = 0 then S else (sS_borderWeight S wv)
set_option maxHeartbeats 4000000 in
set_option maxRecDepth 100000 in
theorem c_X4_weight (l : Launch) (k : KT) (a : Nat → Nat) (S : SeaT) (T : TalT) (dr : Int64) (tr : Int64) (C : ChoT) (F : (Nat → Int32)) (G : GoT) (wv : Int64) (n : Nat) (hn : n ≤ 24) (hc : S_cells S = nI n) : MW l yX4_weight cX4_weight 3 (some .boolean) (rz 1 23) k [.ref (a 0), .long wv] (xW k a S T dr tr C F G) (some (.int (w_X4_weight wv))) (xW k a (w_X4_weight_S S wv) T dr tr C F G) := by
  intro sz
  refine Met.ofW (cc := cX4_weight) (maxL := 3) (ret := (some .boolean)) (by decide) rfl ?_
  intro p e s m args below meth c s₁ B hml hv
  obtain ⟨rfl, hsz, hP, hK, hD0⟩ := hv
  have hx := B.exec
  have hb := B.bytes
  have hr := B.returns
  have hU : ∀ w ∈ wsL_law, w.before [.ref (a 0), .long wv].toArray s = true := fun w h => atoms_spec (ws := Cond.code yX4_weight cX4_weight 3 (some .boolean) :: wsL_law) B.pre w (List.mem_cons_of_mem _ h)
  have hown : s.vm.findClass RX4 = some m.cls := findClass_of_methodNamed B.named
  have hlocks := B.notSynchronized
  have hF : CF p m c cX4_weight 3 s [.ref (a 0), .long wv].toArray RX4 := ⟨hx, hb, hml, hown, hU⟩
  subst hsz
  have hD := hD0.self (sz := s.heap.size)
  generalize hAe : va_A (xW k a S T dr tr C F G) s.heap.size = A at hD ⊢
  have hA : ∀ q : Nat, s.heap.size ≤ q → A q := fun q h => by rw [← hAe]; exact Or.inr h
  have hS : va_S A s.heap s.heap [] := va_S.rf
  have hl := lv_entry ([.ref (a 0), .long wv] : List Value) (n := 3) (Nat.le_of_ble_eq_true rfl)
  rw [lg_entry_eq]
  generalize (lg_sl ([.ref (a 0), .long wv] : List Value) ++ List.replicate (3 - (lg_sl ([.ref (a 0), .long wv] : List Value)).length) Slot.unset).toArray = ls at hl ⊢
  have hl : lv_has ls 3 [(0, .ref (a 0)), (1, .long wv)] := hl
  refine lv_lload_n hx hb dX4_weight_0 rfl (lv_at hl 1 rfl) ?_
  refine lv_ldc2 hx hb hown (hU _ uK_X4_80) dX4_weight_1 ?_
  refine rcS (n := 2) (As := [.long wv, .long 1000]) (rest := []) hF (c_X4_within l k wv 1000) (hP.sub (ws' := []) [] rfl) hK uC_X4_within uN_X4 uM_X4_65 uS_X4_within (by decide +kernel) rfl ⟨Nat.le_of_ble_eq_true rfl, Nat.le_of_ble_eq_true rfl⟩ ⟨Nat.zero_le _, Nat.zero_le _⟩ hl.1 rfl (Nat.le_of_ble_eq_true rfl) dX4_weight_4 ?_
  refine lv_if_ne (tgt := 12) hx hb dX4_weight_7 (by decide) (fun c_1 => ?_) (fun c_1 => ?_)
  · refine lv_aload_n hx hb dX4_weight_12 rfl (lv_at hl 0 rfl) ?_
    refine va_get (D := k.1) (ci := 4) (v := .ref (a 1)) (C := RX4) (T := TX4) (N := 10) hx hb hU inlX4 hown hK.1 hP 0 rfl rfl 0 (by decide) (hU _ uF_X4_10) (fun _ h9 => h9) rfl dX4_weight_13 ?_
    refine lv_lload_n hx hb dX4_weight_16 rfl (lv_at hl 1 rfl) ?_
    refine va_putN (D := k.1) (ci := 2) (v := .long wv) (ty := .long) (C := RX2) (T := TX2) (N := 16) hx hb hU inlX2 tyX2 tyX2_ok nmX2 hown hK.1 hP hD hS 1 rfl rfl 11 (by decide) (hK.nf nF_X4_106) (fun _ h9 => h9) rfl (by decide +kernel) rfl rfl (Nat.le_of_ble_eq_true rfl) dX4_weight_17 (fun H locs hP hD hS => ?_)
    have hP := pz_x_1_11 k a S T dr tr C F G wv hP
    have hD := dz_x_1_11 k a S T dr tr C F G wv hD
    refine lv_iconst (v := 1) hx hb dX4_weight_20 (by decide) ?_
    have hP9 : va_P k.1 vwCl (xW k a (w_X4_weight_S S wv) T dr tr C F G) H := by rw [w_X4_weight_S, if_neg c_1]; exact hP
    have hD9 : va_D A (xW k a (w_X4_weight_S S wv) T dr tr C F G) := by rw [w_X4_weight_S, if_neg c_1]; exact hD
    exact W.zret (v := 1) hx hb hr rfl (fun t ht hW => ⟨⟨by rw [w_X4_weight, if_neg c_1], by rw [ht]; exact hP9, hD9⟩, hS.F ht⟩) hS.2.2 dX4_weight_21
  · refine lv_iconst (v := 0) hx hb dX4_weight_10 (by decide) ?_
    have hP9 : va_P k.1 vwCl (xW k a (w_X4_weight_S S wv) T dr tr C F G) s.heap := by rw [w_X4_weight_S, if_pos c_1]; exact hP
    have hD9 : va_D A (xW k a (w_X4_weight_S S wv) T dr tr C F G) := by rw [w_X4_weight_S, if_pos c_1]; exact hD
    exact W.zret (v := 0) hx hb hr rfl (fun t ht hW => ⟨⟨by rw [w_X4_weight, if_pos c_1], by rw [ht]; exact hP9, hD9⟩, hS.F ht⟩) hS.2.2 dX4_weight_11

def w_X4_must (S : SeaT) (ce : Int32) : Int32 := if (w_hasCell (S_cells S) ce) = 0 then 0 else 1
def w_X4_must_S (S : SeaT) (ce : Int32) : SeaT := if (w_hasCell (S_cells S) ce) = 0 then S else (sS_barred (sS_needed S ((S_needed S) ||| (1 <<< (ce &&& 31)))) ((S_barred S) &&& ((1 <<< (ce &&& 31)) ^^^ (-1))))
set_option maxHeartbeats 4000000 in
set_option maxRecDepth 100000 in
theorem c_X4_must (l : Launch) (k : KT) (a : Nat → Nat) (S : SeaT) (T : TalT) (dr : Int64) (tr : Int64) (C : ChoT) (F : (Nat → Int32)) (G : GoT) (ce : Int32) (n : Nat) (hn : n ≤ 24) (hc : S_cells S = nI n) : MW l yX4_must cX4_must 2 (some .boolean) (rz 1 21) k [.ref (a 0), .int ce] (xW k a S T dr tr C F G) (some (.int (w_X4_must S ce))) (xW k a (w_X4_must_S S ce) T dr tr C F G) := by
  intro sz
  refine Met.ofW (cc := cX4_must) (maxL := 2) (ret := (some .boolean)) (by decide) rfl ?_
  intro p e s m args below meth c s₁ B hml hv
  obtain ⟨rfl, hsz, hP, hK, hD0⟩ := hv
  have hx := B.exec
  have hb := B.bytes
  have hr := B.returns
  have hU : ∀ w ∈ wsL_law, w.before [.ref (a 0), .int ce].toArray s = true := fun w h => atoms_spec (ws := Cond.code yX4_must cX4_must 2 (some .boolean) :: wsL_law) B.pre w (List.mem_cons_of_mem _ h)
  have hown : s.vm.findClass RX4 = some m.cls := findClass_of_methodNamed B.named
  have hlocks := B.notSynchronized
  have hF : CF p m c cX4_must 2 s [.ref (a 0), .int ce].toArray RX4 := ⟨hx, hb, hml, hown, hU⟩
  subst hsz
  have hD := hD0.self (sz := s.heap.size)
  generalize hAe : va_A (xW k a S T dr tr C F G) s.heap.size = A at hD ⊢
  have hA : ∀ q : Nat, s.heap.size ≤ q → A q := fun q h => by rw [← hAe]; exact Or.inr h
  have hS : va_S A s.heap s.heap [] := va_S.rf
  have hl := lv_entry ([.ref (a 0), .int ce] : List Value) (n := 2) (Nat.le_of_ble_eq_true rfl)
  rw [lg_entry_eq]
  generalize (lg_sl ([.ref (a 0), .int ce] : List Value) ++ List.replicate (2 - (lg_sl ([.ref (a 0), .int ce] : List Value)).length) Slot.unset).toArray = ls at hl ⊢
  have hl : lv_has ls 2 [(0, .ref (a 0)), (1, .int ce)] := hl
  refine lv_aload_n hx hb dX4_must_0 rfl (lv_at hl 0 rfl) ?_
  refine va_get (D := k.1) (ci := 4) (v := .ref (a 1)) (C := RX4) (T := TX4) (N := 10) hx hb hU inlX4 hown hK.1 hP 0 rfl rfl 0 (by decide) (hU _ uF_X4_10) (fun _ h9 => h9) rfl dX4_must_1 ?_
  refine lv_iload_n hx hb dX4_must_4 rfl (lv_at hl 1 rfl) ?_
  refine rcVN (n := 1) (As := [.int ce]) (rest := []) hF (c_X2_hasCell l k a S T dr tr C F G ce ) (hP) hK 1 (ci := 2) rfl rfl rfl uC_X2_hasCell uN_X2 nM_X4_73 uI_X2_hasCell uE_X2_hasCell (by decide +kernel) rfl ⟨Nat.le_of_ble_eq_true rfl, Nat.le_of_ble_eq_true rfl⟩ ⟨Nat.zero_le _, Nat.zero_le _⟩ hl.1 rfl (Nat.le_of_ble_eq_true rfl) dX4_must_5 ?_
  refine lv_if_ne (tgt := 13) hx hb dX4_must_8 (by decide) (fun c_1 => ?_) (fun c_1 => ?_)
  · refine lv_aload_n hx hb dX4_must_13 rfl (lv_at hl 0 rfl) ?_
    refine va_get (D := k.1) (ci := 4) (v := .ref (a 1)) (C := RX4) (T := TX4) (N := 10) hx hb hU inlX4 hown hK.1 hP 0 rfl rfl 0 (by decide) (hU _ uF_X4_10) (fun _ h9 => h9) rfl dX4_must_14 ?_
    refine lv_dup hx hb dX4_must_17 rfl ?_
    refine va_getN (D := k.1) (ci := 2) (v := .int (S_needed S)) (C := RX2) (T := TX2) (N := 16) hx hb hU inlX2 hown hK.1 hP 1 rfl rfl 13 (by decide) (hK.nf nF_X4_109) (fun _ h9 => h9) rfl dX4_must_18 ?_
    refine lv_iconst (v := 1) hx hb dX4_must_21 (by decide) ?_
    refine lv_iload_n hx hb dX4_must_22 rfl (lv_at hl 1 rfl) ?_
    refine lv_ishl hx hb dX4_must_23 ?_
    refine lv_ior hx hb dX4_must_24 ?_
    refine va_putN (D := k.1) (ci := 2) (v := .int ((S_needed S) ||| (1 <<< (ce &&& 31)))) (ty := .int) (C := RX2) (T := TX2) (N := 16) hx hb hU inlX2 tyX2 tyX2_ok nmX2 hown hK.1 hP hD hS 1 rfl rfl 13 (by decide) (hK.nf nF_X4_109) (fun _ h9 => h9) rfl (by decide +kernel) rfl rfl (Nat.le_of_ble_eq_true rfl) dX4_must_25 (fun H locs hP hD hS => ?_)
    have hP := pz_x_1_13 k a S T dr tr C F G ((S_needed S) ||| (1 <<< (ce &&& 31))) hP
    have hD := dz_x_1_13 k a S T dr tr C F G ((S_needed S) ||| (1 <<< (ce &&& 31))) hD
    refine lv_aload_n hx hb dX4_must_28 rfl (lv_at hl 0 rfl) ?_
    refine va_get (D := k.1) (ci := 4) (v := .ref (a 1)) (C := RX4) (T := TX4) (N := 10) hx hb hU inlX4 hown hK.1 hP 0 rfl rfl 0 (by decide) (hU _ uF_X4_10) (fun _ h9 => h9) rfl dX4_must_29 ?_
    refine lv_dup hx hb dX4_must_32 rfl ?_
    refine va_getN (D := k.1) (ci := 2) (v := .int (S_barred S)) (C := RX2) (T := TX2) (N := 16) hx hb hU inlX2 hown hK.1 hP 1 rfl rfl 14 (by decide) (hK.nf nF_X4_112) (fun _ h9 => h9) rfl dX4_must_33 ?_
    refine lv_iconst (v := 1) hx hb dX4_must_36 (by decide) ?_
    refine lv_iload_n hx hb dX4_must_37 rfl (lv_at hl 1 rfl) ?_
    refine lv_ishl hx hb dX4_must_38 ?_
    refine lv_iconst (v := (-1)) hx hb dX4_must_39 (by decide) ?_
    refine lv_ixor hx hb dX4_must_40 ?_
    refine lv_iand hx hb dX4_must_41 ?_
    refine va_putN (D := k.1) (ci := 2) (v := .int ((S_barred S) &&& ((1 <<< (ce &&& 31)) ^^^ (-1)))) (ty := .int) (C := RX2) (T := TX2) (N := 16) hx hb hU inlX2 tyX2 tyX2_ok nmX2 hown hK.1 hP hD hS 1 rfl rfl 14 (by decide) (hK.nf nF_X4_112) (fun _ h9 => h9) rfl (by decide +kernel) rfl rfl (Nat.le_of_ble_eq_true rfl) dX4_must_42 (fun H locs hP hD hS => ?_)
    have hP := pz_x_1_14 k a (sS_needed S ((S_needed S) ||| (1 <<< (ce &&& 31)))) T dr tr C F G ((S_barred S) &&& ((1 <<< (ce &&& 31)) ^^^ (-1))) hP
    have hD := dz_x_1_14 k a (sS_needed S ((S_needed S) ||| (1 <<< (ce &&& 31)))) T dr tr C F G ((S_barred S) &&& ((1 <<< (ce &&& 31)) ^^^ (-1))) hD
    refine lv_iconst (v := 1) hx hb dX4_must_45 (by decide) ?_
    have hP9 : va_P k.1 vwCl (xW k a (w_X4_must_S S ce) T dr tr C F G) H := by rw [w_X4_must_S, if_neg c_1]; exact hP
    have hD9 : va_D A (xW k a (w_X4_must_S S ce) T dr tr C F G) := by rw [w_X4_must_S, if_neg c_1]; exact hD
    exact W.zret (v := 1) hx hb hr rfl (fun t ht hW => ⟨⟨by rw [w_X4_must, if_neg c_1], by rw [ht]; exact hP9, hD9⟩, hS.F ht⟩) hS.2.2 dX4_must_46
  · refine lv_iconst (v := 0) hx hb dX4_must_11 (by decide) ?_
    have hP9 : va_P k.1 vwCl (xW k a (w_X4_must_S S ce) T dr tr C F G) s.heap := by rw [w_X4_must_S, if_pos c_1]; exact hP
    have hD9 : va_D A (xW k a (w_X4_must_S S ce) T dr tr C F G) := by rw [w_X4_must_S, if_pos c_1]; exact hD
    exact W.zret (v := 0) hx hb hr rfl (fun t ht hW => ⟨⟨by rw [w_X4_must, if_pos c_1], by rw [ht]; exact hP9, hD9⟩, hS.F ht⟩) hS.2.2 dX4_must_12

def w_X4_bar (S : SeaT) (ce : Int32) : Int32 := if (w_hasCell (S_cells S) ce) = 0 then 0 else 1
def w_X4_bar_S (S : SeaT) (ce : Int32) : SeaT := if (w_hasCell (S_cells S) ce) = 0 then S else (sS_needed (sS_barred S ((S_barred S) ||| (1 <<< (ce &&& 31)))) ((S_needed S) &&& ((1 <<< (ce &&& 31)) ^^^ (-1))))
set_option maxHeartbeats 4000000 in
set_option maxRecDepth 100000 in
theorem c_X4_bar (l : Launch) (k : KT) (a : Nat → Nat) (S : SeaT) (T : TalT) (dr : Int64) (tr : Int64) (C : ChoT) (F : (Nat → Int32)) (G : GoT) (ce : Int32) (n : Nat) (hn : n ≤ 24) (hc : S_cells S = nI n) : MW l yX4_bar cX4_bar 2 (some .boolean) (rz 1 21) k [.ref (a 0), .int ce] (xW k a S T dr tr C F G) (some (.int (w_X4_bar S ce))) (xW k a (w_X4_bar_S S ce) T dr tr C F G) := by
  intro sz
  refine Met.ofW (cc := cX4_bar) (maxL := 2) (ret := (some .boolean)) (by decide) rfl ?_
  intro p e s m args below meth c s₁ B hml hv
  obtain ⟨rfl, hsz, hP, hK, hD0⟩ := hv
  have hx := B.exec
  have hb := B.bytes
  have hr := B.returns
  have hU : ∀ w ∈ wsL_law, w.before [.ref (a 0), .int ce].toArray s = true := fun w h => atoms_spec (ws := Cond.code yX4_bar cX4_bar 2 (some .boolean) :: wsL_law) B.pre w (List.mem_cons_of_mem _ h)
  have hown : s.vm.findClass RX4 = some m.cls := findClass_of_methodNamed B.named
  have hlocks := B.notSynchronized
  have hF : CF p m c cX4_bar 2 s [.ref (a 0), .int ce].toArray RX4 := ⟨hx, hb, hml, hown, hU⟩
  subst hsz
  have hD := hD0.self (sz := s.heap.size)
  generalize hAe : va_A (xW k a S T dr tr C F G) s.heap.size = A at hD ⊢
  have hA : ∀ q : Nat, s.heap.size ≤ q → A q := fun q h => by rw [← hAe]; exact Or.inr h
  have hS : va_S A s.heap s.heap [] := va_S.rf
  have hl := lv_entry ([.ref (a 0), .int ce] : List Value) (n := 2) (Nat.le_of_ble_eq_true rfl)
  rw [lg_entry_eq]
  generalize (lg_sl ([.ref (a 0), .int ce] : List Value) ++ List.replicate (2 - (lg_sl ([.ref (a 0), .int ce] : List Value)).length) Slot.unset).toArray = ls at hl ⊢
  have hl : lv_has ls 2 [(0, .ref (a 0)), (1, .int ce)] := hl
  refine lv_aload_n hx hb dX4_bar_0 rfl (lv_at hl 0 rfl) ?_
  refine va_get (D := k.1) (ci := 4) (v := .ref (a 1)) (C := RX4) (T := TX4) (N := 10) hx hb hU inlX4 hown hK.1 hP 0 rfl rfl 0 (by decide) (hU _ uF_X4_10) (fun _ h9 => h9) rfl dX4_bar_1 ?_
  refine lv_iload_n hx hb dX4_bar_4 rfl (lv_at hl 1 rfl) ?_
  refine rcVN (n := 1) (As := [.int ce]) (rest := []) hF (c_X2_hasCell l k a S T dr tr C F G ce ) (hP) hK 1 (ci := 2) rfl rfl rfl uC_X2_hasCell uN_X2 nM_X4_73 uI_X2_hasCell uE_X2_hasCell (by decide +kernel) rfl ⟨Nat.le_of_ble_eq_true rfl, Nat.le_of_ble_eq_true rfl⟩ ⟨Nat.zero_le _, Nat.zero_le _⟩ hl.1 rfl (Nat.le_of_ble_eq_true rfl) dX4_bar_5 ?_
  refine lv_if_ne (tgt := 13) hx hb dX4_bar_8 (by decide) (fun c_1 => ?_) (fun c_1 => ?_)
  · refine lv_aload_n hx hb dX4_bar_13 rfl (lv_at hl 0 rfl) ?_
    refine va_get (D := k.1) (ci := 4) (v := .ref (a 1)) (C := RX4) (T := TX4) (N := 10) hx hb hU inlX4 hown hK.1 hP 0 rfl rfl 0 (by decide) (hU _ uF_X4_10) (fun _ h9 => h9) rfl dX4_bar_14 ?_
    refine lv_dup hx hb dX4_bar_17 rfl ?_
    refine va_getN (D := k.1) (ci := 2) (v := .int (S_barred S)) (C := RX2) (T := TX2) (N := 16) hx hb hU inlX2 hown hK.1 hP 1 rfl rfl 14 (by decide) (hK.nf nF_X4_112) (fun _ h9 => h9) rfl dX4_bar_18 ?_
    refine lv_iconst (v := 1) hx hb dX4_bar_21 (by decide) ?_
    refine lv_iload_n hx hb dX4_bar_22 rfl (lv_at hl 1 rfl) ?_
    refine lv_ishl hx hb dX4_bar_23 ?_
    refine lv_ior hx hb dX4_bar_24 ?_
    refine va_putN (D := k.1) (ci := 2) (v := .int ((S_barred S) ||| (1 <<< (ce &&& 31)))) (ty := .int) (C := RX2) (T := TX2) (N := 16) hx hb hU inlX2 tyX2 tyX2_ok nmX2 hown hK.1 hP hD hS 1 rfl rfl 14 (by decide) (hK.nf nF_X4_112) (fun _ h9 => h9) rfl (by decide +kernel) rfl rfl (Nat.le_of_ble_eq_true rfl) dX4_bar_25 (fun H locs hP hD hS => ?_)
    have hP := pz_x_1_14 k a S T dr tr C F G ((S_barred S) ||| (1 <<< (ce &&& 31))) hP
    have hD := dz_x_1_14 k a S T dr tr C F G ((S_barred S) ||| (1 <<< (ce &&& 31))) hD
    refine lv_aload_n hx hb dX4_bar_28 rfl (lv_at hl 0 rfl) ?_
    refine va_get (D := k.1) (ci := 4) (v := .ref (a 1)) (C := RX4) (T := TX4) (N := 10) hx hb hU inlX4 hown hK.1 hP 0 rfl rfl 0 (by decide) (hU _ uF_X4_10) (fun _ h9 => h9) rfl dX4_bar_29 ?_
    refine lv_dup hx hb dX4_bar_32 rfl ?_
    refine va_getN (D := k.1) (ci := 2) (v := .int (S_needed S)) (C := RX2) (T := TX2) (N := 16) hx hb hU inlX2 hown hK.1 hP 1 rfl rfl 13 (by decide) (hK.nf nF_X4_109) (fun _ h9 => h9) rfl dX4_bar_33 ?_
    refine lv_iconst (v := 1) hx hb dX4_bar_36 (by decide) ?_
    refine lv_iload_n hx hb dX4_bar_37 rfl (lv_at hl 1 rfl) ?_
    refine lv_ishl hx hb dX4_bar_38 ?_
    refine lv_iconst (v := (-1)) hx hb dX4_bar_39 (by decide) ?_
    refine lv_ixor hx hb dX4_bar_40 ?_
    refine lv_iand hx hb dX4_bar_41 ?_
    refine va_putN (D := k.1) (ci := 2) (v := .int ((S_needed S) &&& ((1 <<< (ce &&& 31)) ^^^ (-1)))) (ty := .int) (C := RX2) (T := TX2) (N := 16) hx hb hU inlX2 tyX2 tyX2_ok nmX2 hown hK.1 hP hD hS 1 rfl rfl 13 (by decide) (hK.nf nF_X4_109) (fun _ h9 => h9) rfl (by decide +kernel) rfl rfl (Nat.le_of_ble_eq_true rfl) dX4_bar_42 (fun H locs hP hD hS => ?_)
    have hP := pz_x_1_13 k a (sS_barred S ((S_barred S) ||| (1 <<< (ce &&& 31)))) T dr tr C F G ((S_needed S) &&& ((1 <<< (ce &&& 31)) ^^^ (-1))) hP
    have hD := dz_x_1_13 k a (sS_barred S ((S_barred S) ||| (1 <<< (ce &&& 31)))) T dr tr C F G ((S_needed S) &&& ((1 <<< (ce &&& 31)) ^^^ (-1))) hD
    refine lv_iconst (v := 1) hx hb dX4_bar_45 (by decide) ?_
    have hP9 : va_P k.1 vwCl (xW k a (w_X4_bar_S S ce) T dr tr C F G) H := by rw [w_X4_bar_S, if_neg c_1]; exact hP
    have hD9 : va_D A (xW k a (w_X4_bar_S S ce) T dr tr C F G) := by rw [w_X4_bar_S, if_neg c_1]; exact hD
    exact W.zret (v := 1) hx hb hr rfl (fun t ht hW => ⟨⟨by rw [w_X4_bar, if_neg c_1], by rw [ht]; exact hP9, hD9⟩, hS.F ht⟩) hS.2.2 dX4_bar_46
  · refine lv_iconst (v := 0) hx hb dX4_bar_11 (by decide) ?_
    have hP9 : va_P k.1 vwCl (xW k a (w_X4_bar_S S ce) T dr tr C F G) s.heap := by rw [w_X4_bar_S, if_pos c_1]; exact hP
    have hD9 : va_D A (xW k a (w_X4_bar_S S ce) T dr tr C F G) := by rw [w_X4_bar_S, if_pos c_1]; exact hD
    exact W.zret (v := 0) hx hb hr rfl (fun t ht hW => ⟨⟨by rw [w_X4_bar, if_pos c_1], by rw [ht]; exact hP9, hD9⟩, hS.F ht⟩) hS.2.2 dX4_bar_12

def w_X4_chosen (S : SeaT) (C : ChoT) (ce : Int32) : Int32 := if (w_hasCell (S_cells S) ce) = 0 then 0 else if (w_hasBit (C_cells C) ce) = 0 then 0 else 1
set_option maxHeartbeats 4000000 in
set_option maxRecDepth 100000 in
theorem c_X4_chosen (l : Launch) (k : KT) (a : Nat → Nat) (S : SeaT) (T : TalT) (dr : Int64) (tr : Int64) (C : ChoT) (F : (Nat → Int32)) (G : GoT) (ce : Int32) (n : Nat) (hn : n ≤ 24) (hc : S_cells S = nI n) : MR l yX4_chosen cX4_chosen 2 (some .boolean) (rz 1 21) k [.ref (a 0), .int ce] (xW k a S T dr tr C F G) (.int (w_X4_chosen S C ce)) := by
  refine Met.ofW (cc := cX4_chosen) (maxL := 2) (ret := (some .boolean)) (by decide) rfl ?_
  intro p e s m args below meth c s₁ B hml hv
  obtain ⟨rfl, hP, hK⟩ := hv
  have hx := B.exec
  have hb := B.bytes
  have hr := B.returns
  have hU : ∀ w ∈ wsL_law, w.before [.ref (a 0), .int ce].toArray s = true := fun w h => atoms_spec (ws := Cond.code yX4_chosen cX4_chosen 2 (some .boolean) :: wsL_law) B.pre w (List.mem_cons_of_mem _ h)
  have hown : s.vm.findClass RX4 = some m.cls := findClass_of_methodNamed B.named
  have hlocks := B.notSynchronized
  have hF : CF p m c cX4_chosen 2 s [.ref (a 0), .int ce].toArray RX4 := ⟨hx, hb, hml, hown, hU⟩
  have hl := lv_entry ([.ref (a 0), .int ce] : List Value) (n := 2) (Nat.le_of_ble_eq_true rfl)
  rw [lg_entry_eq]
  generalize (lg_sl ([.ref (a 0), .int ce] : List Value) ++ List.replicate (2 - (lg_sl ([.ref (a 0), .int ce] : List Value)).length) Slot.unset).toArray = ls at hl ⊢
  have hl : lv_has ls 2 [(0, .ref (a 0)), (1, .int ce)] := hl
  refine lv_aload_n hx hb dX4_chosen_0 rfl (lv_at hl 0 rfl) ?_
  refine va_get (D := k.1) (ci := 4) (v := .ref (a 1)) (C := RX4) (T := TX4) (N := 10) hx hb hU inlX4 hown hK.1 hP 0 rfl rfl 0 (by decide) (hU _ uF_X4_10) (fun _ h9 => h9) rfl dX4_chosen_1 ?_
  refine lv_iload_n hx hb dX4_chosen_4 rfl (lv_at hl 1 rfl) ?_
  refine rcVN (n := 1) (As := [.int ce]) (rest := []) hF (c_X2_hasCell l k a S T dr tr C F G ce ) (hP) hK 1 (ci := 2) rfl rfl rfl uC_X2_hasCell uN_X2 nM_X4_73 uI_X2_hasCell uE_X2_hasCell (by decide +kernel) rfl ⟨Nat.le_of_ble_eq_true rfl, Nat.le_of_ble_eq_true rfl⟩ ⟨Nat.zero_le _, Nat.zero_le _⟩ hl.1 rfl (Nat.le_of_ble_eq_true rfl) dX4_chosen_5 ?_
  refine lv_if_eq (tgt := 29) hx hb dX4_chosen_8 (by decide) (fun c_1 => ?_) (fun c_1 => ?_)
  · refine lv_iconst (v := 0) hx hb dX4_chosen_29 (by decide) ?_
    exact W.zret (v := 0) hx hb hr rfl (fun t ht hW => ⟨by rw [w_X4_chosen, if_pos c_1], ht⟩) (fun q h => absurd h List.not_mem_nil) dX4_chosen_30
  · refine lv_aload_n hx hb dX4_chosen_11 rfl (lv_at hl 0 rfl) ?_
    refine va_get (D := k.1) (ci := 4) (v := .ref (a 16)) (C := RX4) (T := TX4) (N := 10) hx hb hU inlX4 hown hK.1 hP 0 rfl rfl 4 (by decide) (hU _ uF_X4_42) (fun _ h9 => h9) rfl dX4_chosen_12 ?_
    refine va_getN (D := k.1) (ci := 0) (v := .int (C_cells C)) (C := RX0) (T := TX0) (N := 3) hx hb hU inlX0 hown hK.1 hP 16 rfl rfl 1 (by decide) (hK.nf nF_X4_119) (fun _ h9 => h9) rfl dX4_chosen_15 ?_
    refine lv_iload_n hx hb dX4_chosen_18 rfl (lv_at hl 1 rfl) ?_
    refine rcS (n := 2) (As := [.int (C_cells C), .int ce]) (rest := []) hF (c_X4_hasBit l k (C_cells C) ce) (hP.sub (ws' := []) [] rfl) hK uC_X4_hasBit uN_X4 uM_X4_120 uS_X4_hasBit (by decide +kernel) rfl ⟨Nat.le_of_ble_eq_true rfl, Nat.le_of_ble_eq_true rfl⟩ ⟨Nat.zero_le _, Nat.zero_le _⟩ hl.1 rfl (Nat.le_of_ble_eq_true rfl) dX4_chosen_19 ?_
    refine lv_if_eq (tgt := 29) hx hb dX4_chosen_22 (by decide) (fun c_2 => ?_) (fun c_2 => ?_)
    · refine lv_iconst (v := 0) hx hb dX4_chosen_29 (by decide) ?_
      exact W.zret (v := 0) hx hb hr rfl (fun t ht hW => ⟨by rw [w_X4_chosen, if_neg c_1, if_pos c_2], ht⟩) (fun q h => absurd h List.not_mem_nil) dX4_chosen_30
    · refine lv_iconst (v := 1) hx hb dX4_chosen_25 (by decide) ?_
      refine lv_goto (tgt := 30) hx hb dX4_chosen_26 (by decide) ?_
      exact W.zret (v := 1) hx hb hr rfl (fun t ht hW => ⟨by rw [w_X4_chosen, if_neg c_1, if_neg c_2], ht⟩) (fun q h => absurd h List.not_mem_nil) dX4_chosen_30

def w_X4_cost (C : ChoT) : Int64 := (C_price C)
set_option maxHeartbeats 4000000 in
set_option maxRecDepth 100000 in
theorem c_X4_cost (l : Launch) (k : KT) (a : Nat → Nat) (S : SeaT) (T : TalT) (dr : Int64) (tr : Int64) (C : ChoT) (F : (Nat → Int32)) (G : GoT)  (n : Nat) (hn : n ≤ 24) (hc : S_cells S = nI n) : MR l yX4_cost cX4_cost 1 (some .long) (rz 0 0) k [.ref (a 0)] (xW k a S T dr tr C F G) (.long (w_X4_cost C)) := by
  refine Met.ofW (cc := cX4_cost) (maxL := 1) (ret := (some .long)) (by decide) rfl ?_
  intro p e s m args below meth c s₁ B hml hv
  obtain ⟨rfl, hP, hK⟩ := hv
  have hx := B.exec
  have hb := B.bytes
  have hr := B.returns
  have hU : ∀ w ∈ wsL_law, w.before [.ref (a 0)].toArray s = true := fun w h => atoms_spec (ws := Cond.code yX4_cost cX4_cost 1 (some .long) :: wsL_law) B.pre w (List.mem_cons_of_mem _ h)
  have hown : s.vm.findClass RX4 = some m.cls := findClass_of_methodNamed B.named
  have hlocks := B.notSynchronized
  have hF : CF p m c cX4_cost 1 s [.ref (a 0)].toArray RX4 := ⟨hx, hb, hml, hown, hU⟩
  have hl := lv_entry ([.ref (a 0)] : List Value) (n := 1) (Nat.le_of_ble_eq_true rfl)
  rw [lg_entry_eq]
  generalize (lg_sl ([.ref (a 0)] : List Value) ++ List.replicate (1 - (lg_sl ([.ref (a 0)] : List Value)).length) Slot.unset).toArray = ls at hl ⊢
  have hl : lv_has ls 1 [(0, .ref (a 0))] := hl
  refine lv_aload_n hx hb dX4_cost_0 rfl (lv_at hl 0 rfl) ?_
  refine va_get (D := k.1) (ci := 4) (v := .ref (a 16)) (C := RX4) (T := TX4) (N := 10) hx hb hU inlX4 hown hK.1 hP 0 rfl rfl 4 (by decide) (hU _ uF_X4_42) (fun _ h9 => h9) rfl dX4_cost_1 ?_
  refine va_getN (D := k.1) (ci := 0) (v := .long (C_price C)) (C := RX0) (T := TX0) (N := 3) hx hb hU inlX0 hown hK.1 hP 16 rfl rfl 2 (by decide) (hK.nf nF_X4_157) (fun _ h9 => h9) rfl dX4_cost_4 ?_
  exact W.lret (v := (C_price C)) hx hb hr (fun t ht hW => ⟨by rw [w_X4_cost], ht⟩) (fun q h => absurd h List.not_mem_nil) dX4_cost_7

def w_X4_bound (G : GoT) : Int64 := (G_toldBound G)
set_option maxHeartbeats 4000000 in
set_option maxRecDepth 100000 in
theorem c_X4_bound (l : Launch) (k : KT) (a : Nat → Nat) (S : SeaT) (T : TalT) (dr : Int64) (tr : Int64) (C : ChoT) (F : (Nat → Int32)) (G : GoT)  (n : Nat) (hn : n ≤ 24) (hc : S_cells S = nI n) : MR l yX4_bound cX4_bound 1 (some .long) (rz 0 0) k [.ref (a 0)] (xW k a S T dr tr C F G) (.long (w_X4_bound G)) := by
  refine Met.ofW (cc := cX4_bound) (maxL := 1) (ret := (some .long)) (by decide) rfl ?_
  intro p e s m args below meth c s₁ B hml hv
  obtain ⟨rfl, hP, hK⟩ := hv
  have hx := B.exec
  have hb := B.bytes
  have hr := B.returns
  have hU : ∀ w ∈ wsL_law, w.before [.ref (a 0)].toArray s = true := fun w h => atoms_spec (ws := Cond.code yX4_bound cX4_bound 1 (some .long) :: wsL_law) B.pre w (List.mem_cons_of_mem _ h)
  have hown : s.vm.findClass RX4 = some m.cls := findClass_of_methodNamed B.named
  have hlocks := B.notSynchronized
  have hF : CF p m c cX4_bound 1 s [.ref (a 0)].toArray RX4 := ⟨hx, hb, hml, hown, hU⟩
  have hl := lv_entry ([.ref (a 0)] : List Value) (n := 1) (Nat.le_of_ble_eq_true rfl)
  rw [lg_entry_eq]
  generalize (lg_sl ([.ref (a 0)] : List Value) ++ List.replicate (1 - (lg_sl ([.ref (a 0)] : List Value)).length) Slot.unset).toArray = ls at hl ⊢
  have hl : lv_has ls 1 [(0, .ref (a 0))] := hl
  refine lv_aload_n hx hb dX4_bound_0 rfl (lv_at hl 0 rfl) ?_
  refine va_get (D := k.1) (ci := 4) (v := .long (G_toldBound G)) (C := RX4) (T := TX4) (N := 10) hx hb hU inlX4 hown hK.1 hP 0 rfl rfl 8 (by decide) (hU _ uF_X4_56) (fun _ h9 => h9) rfl dX4_bound_1 ?_
  exact W.lret (v := (G_toldBound G)) hx hb hr (fun t ht hW => ⟨by rw [w_X4_bound], ht⟩) (fun q h => absurd h List.not_mem_nil) dX4_bound_4

def w_X4_proved (G : GoT) : Int32 := if (G_runAnswer G) = 0 then 1 else if (G_runAnswer G) = 1 then 1 else 0
set_option maxHeartbeats 4000000 in
set_option maxRecDepth 100000 in
theorem c_X4_proved (l : Launch) (k : KT) (a : Nat → Nat) (S : SeaT) (T : TalT) (dr : Int64) (tr : Int64) (C : ChoT) (F : (Nat → Int32)) (G : GoT)  (n : Nat) (hn : n ≤ 24) (hc : S_cells S = nI n) : MR l yX4_proved cX4_proved 1 (some .boolean) (rz 0 0) k [.ref (a 0)] (xW k a S T dr tr C F G) (.int (w_X4_proved G)) := by
  refine Met.ofW (cc := cX4_proved) (maxL := 1) (ret := (some .boolean)) (by decide) rfl ?_
  intro p e s m args below meth c s₁ B hml hv
  obtain ⟨rfl, hP, hK⟩ := hv
  have hx := B.exec
  have hb := B.bytes
  have hr := B.returns
  have hU : ∀ w ∈ wsL_law, w.before [.ref (a 0)].toArray s = true := fun w h => atoms_spec (ws := Cond.code yX4_proved cX4_proved 1 (some .boolean) :: wsL_law) B.pre w (List.mem_cons_of_mem _ h)
  have hown : s.vm.findClass RX4 = some m.cls := findClass_of_methodNamed B.named
  have hlocks := B.notSynchronized
  have hF : CF p m c cX4_proved 1 s [.ref (a 0)].toArray RX4 := ⟨hx, hb, hml, hown, hU⟩
  have hl := lv_entry ([.ref (a 0)] : List Value) (n := 1) (Nat.le_of_ble_eq_true rfl)
  rw [lg_entry_eq]
  generalize (lg_sl ([.ref (a 0)] : List Value) ++ List.replicate (1 - (lg_sl ([.ref (a 0)] : List Value)).length) Slot.unset).toArray = ls at hl ⊢
  have hl : lv_has ls 1 [(0, .ref (a 0))] := hl
  refine lv_aload_n hx hb dX4_proved_0 rfl (lv_at hl 0 rfl) ?_
  refine va_get (D := k.1) (ci := 4) (v := .int (G_runAnswer G)) (C := RX4) (T := TX4) (N := 10) hx hb hU inlX4 hown hK.1 hP 0 rfl rfl 7 (by decide) (hU _ uF_X4_50) (fun _ h9 => h9) rfl dX4_proved_1 ?_
  refine lv_if_eq (tgt := 15) hx hb dX4_proved_4 (by decide) (fun c_1 => ?_) (fun c_1 => ?_)
  · refine lv_iconst (v := 1) hx hb dX4_proved_15 (by decide) ?_
    refine lv_goto (tgt := 20) hx hb dX4_proved_16 (by decide) ?_
    exact W.zret (v := 1) hx hb hr rfl (fun t ht hW => ⟨by rw [w_X4_proved, if_pos c_1], ht⟩) (fun q h => absurd h List.not_mem_nil) dX4_proved_20
  · refine lv_aload_n hx hb dX4_proved_7 rfl (lv_at hl 0 rfl) ?_
    refine va_get (D := k.1) (ci := 4) (v := .int (G_runAnswer G)) (C := RX4) (T := TX4) (N := 10) hx hb hU inlX4 hown hK.1 hP 0 rfl rfl 7 (by decide) (hU _ uF_X4_50) (fun _ h9 => h9) rfl dX4_proved_8 ?_
    refine lv_iconst (v := 1) hx hb dX4_proved_11 (by decide) ?_
    refine lv_icmp_ne (tgt := 19) hx hb dX4_proved_12 (by decide) (fun c_2 => ?_) (fun c_2 => ?_)
    · refine lv_iconst (v := 0) hx hb dX4_proved_19 (by decide) ?_
      exact W.zret (v := 0) hx hb hr rfl (fun t ht hW => ⟨by rw [w_X4_proved, if_neg c_1, if_neg c_2], ht⟩) (fun q h => absurd h List.not_mem_nil) dX4_proved_20
    · refine lv_iconst (v := 1) hx hb dX4_proved_15 (by decide) ?_
      refine lv_goto (tgt := 20) hx hb dX4_proved_16 (by decide) ?_
      exact W.zret (v := 1) hx hb hr rfl (fun t ht hW => ⟨by rw [w_X4_proved, if_neg c_1, if_pos c_2], ht⟩) (fun q h => absurd h List.not_mem_nil) dX4_proved_20

def w_X4_met (S : SeaT) (T : TalT) (C : ChoT) (ki : Int32) (part : Int32) (n : Nat) : Int64 := if (w_isKind ki) = 0 then (-1) else if (C_there C) = 0 then (-1) else (w_X4_partOf ((T_amounts (bgT S T n (C_cells C) n)) (tn ki)) ((S_kindTotals S) (tn ki)) part)
def w_X4_met_T (S : SeaT) (T : TalT) (C : ChoT) (ki : Int32) (n : Nat) : TalT := if (w_isKind ki) = 0 then T else if (C_there C) = 0 then T else (bgT S T n (C_cells C) n)
set_option maxHeartbeats 4000000 in
set_option maxRecDepth 100000 in
theorem c_X4_met (l : Launch) (k : KT) (a : Nat → Nat) (S : SeaT) (T : TalT) (dr : Int64) (tr : Int64) (C : ChoT) (F : (Nat → Int32)) (G : GoT) (ki : Int32) (part : Int32) (n : Nat) (hn : n ≤ 24) (hc : S_cells S = nI n) : MW l yX4_met cX4_met 3 (some .long) (rz 4 94) k [.ref (a 0), .int ki, .int part] (xW k a S T dr tr C F G) (some (.long (w_X4_met S T C ki part n))) (xW k a S (w_X4_met_T S T C ki n) dr tr C F G) := by
  intro sz
  refine Met.ofW (cc := cX4_met) (maxL := 3) (ret := (some .long)) (by decide) rfl ?_
  intro p e s m args below meth c s₁ B hml hv
  obtain ⟨rfl, hsz, hP, hK, hD0⟩ := hv
  have hx := B.exec
  have hb := B.bytes
  have hr := B.returns
  have hU : ∀ w ∈ wsL_law, w.before [.ref (a 0), .int ki, .int part].toArray s = true := fun w h => atoms_spec (ws := Cond.code yX4_met cX4_met 3 (some .long) :: wsL_law) B.pre w (List.mem_cons_of_mem _ h)
  have hown : s.vm.findClass RX4 = some m.cls := findClass_of_methodNamed B.named
  have hlocks := B.notSynchronized
  have hF : CF p m c cX4_met 3 s [.ref (a 0), .int ki, .int part].toArray RX4 := ⟨hx, hb, hml, hown, hU⟩
  subst hsz
  have hD := hD0.self (sz := s.heap.size)
  generalize hAe : va_A (xW k a S T dr tr C F G) s.heap.size = A at hD ⊢
  have hA : ∀ q : Nat, s.heap.size ≤ q → A q := fun q h => by rw [← hAe]; exact Or.inr h
  have hS : va_S A s.heap s.heap [] := va_S.rf
  have hl := lv_entry ([.ref (a 0), .int ki, .int part] : List Value) (n := 3) (Nat.le_of_ble_eq_true rfl)
  rw [lg_entry_eq]
  generalize (lg_sl ([.ref (a 0), .int ki, .int part] : List Value) ++ List.replicate (3 - (lg_sl ([.ref (a 0), .int ki, .int part] : List Value)).length) Slot.unset).toArray = ls at hl ⊢
  have hl : lv_has ls 3 [(0, .ref (a 0)), (1, .int ki), (2, .int part)] := hl
  refine lv_iload_n hx hb dX4_met_0 rfl (lv_at hl 1 rfl) ?_
  refine rcS (n := 1) (As := [.int ki]) (rest := []) hF (c_X4_isKind l k ki) (hP.sub (ws' := []) [] rfl) hK uC_X4_isKind uN_X4 uM_X4_77 uS_X4_isKind (by decide +kernel) rfl ⟨Nat.le_of_ble_eq_true rfl, Nat.le_of_ble_eq_true rfl⟩ ⟨Nat.zero_le _, Nat.zero_le _⟩ hl.1 rfl (Nat.le_of_ble_eq_true rfl) dX4_met_1 ?_
  refine lv_if_eq (tgt := 17) hx hb dX4_met_4 (by decide) (fun c_1 => ?_) (fun c_1 => ?_)
  · refine lv_ldc2 hx hb hown (hU _ uK_X4_54) dX4_met_17 ?_
    have hP9 : va_P k.1 vwCl (xW k a S (w_X4_met_T S T C ki n) dr tr C F G) s.heap := by rw [w_X4_met_T, if_pos c_1]; exact hP
    have hD9 : va_D A (xW k a S (w_X4_met_T S T C ki n) dr tr C F G) := by rw [w_X4_met_T, if_pos c_1]; exact hD
    exact W.lret (v := (-1)) hx hb hr (fun t ht hW => ⟨⟨by rw [w_X4_met, if_pos c_1], by rw [ht]; exact hP9, hD9⟩, hS.F ht⟩) hS.2.2 dX4_met_20
  · refine lv_aload_n hx hb dX4_met_7 rfl (lv_at hl 0 rfl) ?_
    refine va_get (D := k.1) (ci := 4) (v := .ref (a 16)) (C := RX4) (T := TX4) (N := 10) hx hb hU inlX4 hown hK.1 hP 0 rfl rfl 4 (by decide) (hU _ uF_X4_42) (fun _ h9 => h9) rfl dX4_met_8 ?_
    refine va_getN (D := k.1) (ci := 0) (v := .int (C_there C)) (C := RX0) (T := TX0) (N := 3) hx hb hU inlX0 hown hK.1 hP 16 rfl rfl 0 (by decide) (hK.nf nF_X4_115) (fun _ h9 => h9) rfl dX4_met_11 ?_
    refine lv_if_ne (tgt := 21) hx hb dX4_met_14 (by decide) (fun c_2 => ?_) (fun c_2 => ?_)
    · refine lv_aload_n hx hb dX4_met_21 rfl (lv_at hl 0 rfl) ?_
      refine va_get (D := k.1) (ci := 4) (v := .ref (a 11)) (C := RX4) (T := TX4) (N := 10) hx hb hU inlX4 hown hK.1 hP 0 rfl rfl 1 (by decide) (hU _ uF_X4_21) (fun _ h9 => h9) rfl dX4_met_22 ?_
      refine lv_aload_n hx hb dX4_met_25 rfl (lv_at hl 0 rfl) ?_
      refine va_get (D := k.1) (ci := 4) (v := .ref (a 16)) (C := RX4) (T := TX4) (N := 10) hx hb hU inlX4 hown hK.1 hP 0 rfl rfl 4 (by decide) (hU _ uF_X4_42) (fun _ h9 => h9) rfl dX4_met_26 ?_
      refine va_getN (D := k.1) (ci := 0) (v := .int (C_cells C)) (C := RX0) (T := TX0) (N := 3) hx hb hU inlX0 hown hK.1 hP 16 rfl rfl 1 (by decide) (hK.nf nF_X4_119) (fun _ h9 => h9) rfl dX4_met_29 ?_
      refine wcVN (n := 1) (As := [.int (C_cells C)]) (rest := []) hF (c_X3_begin l k a S T dr tr C F G (C_cells C) n hn hc) hP hD hS hA hK 11 (ci := 3) rfl rfl rfl uC_X3_begin uN_X3 nM_X4_160 uI_X3_begin uE_X3_begin (by decide +kernel) rfl ⟨Nat.le_of_ble_eq_true rfl, Nat.le_of_ble_eq_true rfl⟩ ⟨Nat.zero_le _, Nat.zero_le _⟩ hl.1 rfl (Nat.le_of_ble_eq_true rfl) dX4_met_32 (fun H locs hP hD hS => ?_)
      have hP : va_P k.1 vwCl (xW k a S (bgT S T n (C_cells C) n) dr tr C F G) H := hP
      have hD : va_D A (xW k a S (bgT S T n (C_cells C) n) dr tr C F G) := hD
      refine lv_aload_n hx hb dX4_met_35 rfl (lv_at hl 0 rfl) ?_
      refine va_get (D := k.1) (ci := 4) (v := .ref (a 11)) (C := RX4) (T := TX4) (N := 10) hx hb hU inlX4 hown hK.1 hP 0 rfl rfl 1 (by decide) (hU _ uF_X4_21) (fun _ h9 => h9) rfl dX4_met_36 ?_
      refine va_getN (D := k.1) (ci := 3) (v := .ref (a 12)) (C := RX3) (T := TX3) (N := 7) hx hb hU inlX3 hown hK.1 hP 11 rfl rfl 1 (by decide) (hK.nf nF_X4_164) (fun _ h9 => h9) rfl dX4_met_39 ?_
      refine lv_iload_n hx hb dX4_met_42 rfl (lv_at hl 1 rfl) ?_
      refine xa_lald hx hb hK.1 hP 12 1 rfl rfl (j := (tn ki)) (kiJ c_1).2 (kiJ c_1).1 (by decide) dX4_met_43 ?_
      refine lv_aload_n hx hb dX4_met_44 rfl (lv_at hl 0 rfl) ?_
      refine va_get (D := k.1) (ci := 4) (v := .ref (a 1)) (C := RX4) (T := TX4) (N := 10) hx hb hU inlX4 hown hK.1 hP 0 rfl rfl 0 (by decide) (hU _ uF_X4_10) (fun _ h9 => h9) rfl dX4_met_45 ?_
      refine va_getN (D := k.1) (ci := 2) (v := .ref (a 7)) (C := RX2) (T := TX2) (N := 16) hx hb hU inlX2 hown hK.1 hP 1 rfl rfl 5 (by decide) (hK.nf nF_X4_165) (fun _ h9 => h9) rfl dX4_met_48 ?_
      refine lv_iload_n hx hb dX4_met_51 rfl (lv_at hl 1 rfl) ?_
      refine xa_lald hx hb hK.1 hP 7 1 rfl rfl (j := (tn ki)) (kiJ c_1).2 (kiJ c_1).1 (by decide) dX4_met_52 ?_
      refine lv_iload_n hx hb dX4_met_53 rfl (lv_at hl 2 rfl) ?_
      refine rcS (n := 3) (As := [.long ((T_amounts (bgT S T n (C_cells C) n)) (tn ki)), .long ((S_kindTotals S) (tn ki)), .int part]) (rest := []) hF (c_X4_partOf l k  ((T_amounts (bgT S T n (C_cells C) n)) (tn ki)) ((S_kindTotals S) (tn ki)) part ) (hP.sub (ws' := []) [] rfl) hK uC_X4_partOf uN_X4 uM_X4_168 uS_X4_partOf (by decide +kernel) rfl ⟨Nat.le_of_ble_eq_true rfl, Nat.le_of_ble_eq_true rfl⟩ ⟨Nat.zero_le _, Nat.zero_le _⟩ hl.1 rfl (Nat.le_of_ble_eq_true rfl) dX4_met_54 ?_
      have hP9 : va_P k.1 vwCl (xW k a S (w_X4_met_T S T C ki n) dr tr C F G) H := by rw [w_X4_met_T, if_neg c_1, if_neg c_2]; exact hP
      have hD9 : va_D A (xW k a S (w_X4_met_T S T C ki n) dr tr C F G) := by rw [w_X4_met_T, if_neg c_1, if_neg c_2]; exact hD
      exact W.lret (v := (w_X4_partOf ((T_amounts (bgT S T n (C_cells C) n)) (tn ki)) ((S_kindTotals S) (tn ki)) part)) hx hb hr (fun t ht hW => ⟨⟨by rw [w_X4_met, if_neg c_1, if_neg c_2], by rw [ht]; exact hP9, hD9⟩, hS.F ht⟩) hS.2.2 dX4_met_57
    · refine lv_ldc2 hx hb hown (hU _ uK_X4_54) dX4_met_17 ?_
      have hP9 : va_P k.1 vwCl (xW k a S (w_X4_met_T S T C ki n) dr tr C F G) s.heap := by rw [w_X4_met_T, if_neg c_1, if_pos c_2]; exact hP
      have hD9 : va_D A (xW k a S (w_X4_met_T S T C ki n) dr tr C F G) := by rw [w_X4_met_T, if_neg c_1, if_pos c_2]; exact hD
      exact W.lret (v := (-1)) hx hb hr (fun t ht hW => ⟨⟨by rw [w_X4_met, if_neg c_1, if_pos c_2], by rw [ht]; exact hP9, hD9⟩, hS.F ht⟩) hS.2.2 dX4_met_20

def w_X4_loss (S : SeaT) (T : TalT) (C : ChoT) (ki : Int32) (part : Int32) (n : Nat) : Int64 := if (w_isPort ki) = 0 then (-1) else if (C_there C) = 0 then (-1) else (w_X4_partOf ((T_hours (bgT S T n (C_cells C) n)) (tn ki)) ((S_portTotals S) (tn ki)) part)
def w_X4_loss_T (S : SeaT) (T : TalT) (C : ChoT) (ki : Int32) (n : Nat) : TalT := if (w_isPort ki) = 0 then T else if (C_there C) = 0 then T else (bgT S T n (C_cells C) n)
set_option maxHeartbeats 4000000 in
set_option maxRecDepth 100000 in
theorem c_X4_loss (l : Launch) (k : KT) (a : Nat → Nat) (S : SeaT) (T : TalT) (dr : Int64) (tr : Int64) (C : ChoT) (F : (Nat → Int32)) (G : GoT) (ki : Int32) (part : Int32) (n : Nat) (hn : n ≤ 24) (hc : S_cells S = nI n) : MW l yX4_loss cX4_loss 3 (some .long) (rz 4 94) k [.ref (a 0), .int ki, .int part] (xW k a S T dr tr C F G) (some (.long (w_X4_loss S T C ki part n))) (xW k a S (w_X4_loss_T S T C ki n) dr tr C F G) := by
  intro sz
  refine Met.ofW (cc := cX4_loss) (maxL := 3) (ret := (some .long)) (by decide) rfl ?_
  intro p e s m args below meth c s₁ B hml hv
  obtain ⟨rfl, hsz, hP, hK, hD0⟩ := hv
  have hx := B.exec
  have hb := B.bytes
  have hr := B.returns
  have hU : ∀ w ∈ wsL_law, w.before [.ref (a 0), .int ki, .int part].toArray s = true := fun w h => atoms_spec (ws := Cond.code yX4_loss cX4_loss 3 (some .long) :: wsL_law) B.pre w (List.mem_cons_of_mem _ h)
  have hown : s.vm.findClass RX4 = some m.cls := findClass_of_methodNamed B.named
  have hlocks := B.notSynchronized
  have hF : CF p m c cX4_loss 3 s [.ref (a 0), .int ki, .int part].toArray RX4 := ⟨hx, hb, hml, hown, hU⟩
  subst hsz
  have hD := hD0.self (sz := s.heap.size)
  generalize hAe : va_A (xW k a S T dr tr C F G) s.heap.size = A at hD ⊢
  have hA : ∀ q : Nat, s.heap.size ≤ q → A q := fun q h => by rw [← hAe]; exact Or.inr h
  have hS : va_S A s.heap s.heap [] := va_S.rf
  have hl := lv_entry ([.ref (a 0), .int ki, .int part] : List Value) (n := 3) (Nat.le_of_ble_eq_true rfl)
  rw [lg_entry_eq]
  generalize (lg_sl ([.ref (a 0), .int ki, .int part] : List Value) ++ List.replicate (3 - (lg_sl ([.ref (a 0), .int ki, .int part] : List Value)).length) Slot.unset).toArray = ls at hl ⊢
  have hl : lv_has ls 3 [(0, .ref (a 0)), (1, .int ki), (2, .int part)] := hl
  refine lv_iload_n hx hb dX4_loss_0 rfl (lv_at hl 1 rfl) ?_
  refine rcS (n := 1) (As := [.int ki]) (rest := []) hF (c_X4_isPort l k ki) (hP.sub (ws' := []) [] rfl) hK uC_X4_isPort uN_X4 uM_X4_188 uS_X4_isPort (by decide +kernel) rfl ⟨Nat.le_of_ble_eq_true rfl, Nat.le_of_ble_eq_true rfl⟩ ⟨Nat.zero_le _, Nat.zero_le _⟩ hl.1 rfl (Nat.le_of_ble_eq_true rfl) dX4_loss_1 ?_
  refine lv_if_eq (tgt := 17) hx hb dX4_loss_4 (by decide) (fun c_1 => ?_) (fun c_1 => ?_)
  · refine lv_ldc2 hx hb hown (hU _ uK_X4_54) dX4_loss_17 ?_
    have hP9 : va_P k.1 vwCl (xW k a S (w_X4_loss_T S T C ki n) dr tr C F G) s.heap := by rw [w_X4_loss_T, if_pos c_1]; exact hP
    have hD9 : va_D A (xW k a S (w_X4_loss_T S T C ki n) dr tr C F G) := by rw [w_X4_loss_T, if_pos c_1]; exact hD
    exact W.lret (v := (-1)) hx hb hr (fun t ht hW => ⟨⟨by rw [w_X4_loss, if_pos c_1], by rw [ht]; exact hP9, hD9⟩, hS.F ht⟩) hS.2.2 dX4_loss_20
  · refine lv_aload_n hx hb dX4_loss_7 rfl (lv_at hl 0 rfl) ?_
    refine va_get (D := k.1) (ci := 4) (v := .ref (a 16)) (C := RX4) (T := TX4) (N := 10) hx hb hU inlX4 hown hK.1 hP 0 rfl rfl 4 (by decide) (hU _ uF_X4_42) (fun _ h9 => h9) rfl dX4_loss_8 ?_
    refine va_getN (D := k.1) (ci := 0) (v := .int (C_there C)) (C := RX0) (T := TX0) (N := 3) hx hb hU inlX0 hown hK.1 hP 16 rfl rfl 0 (by decide) (hK.nf nF_X4_115) (fun _ h9 => h9) rfl dX4_loss_11 ?_
    refine lv_if_ne (tgt := 21) hx hb dX4_loss_14 (by decide) (fun c_2 => ?_) (fun c_2 => ?_)
    · refine lv_aload_n hx hb dX4_loss_21 rfl (lv_at hl 0 rfl) ?_
      refine va_get (D := k.1) (ci := 4) (v := .ref (a 11)) (C := RX4) (T := TX4) (N := 10) hx hb hU inlX4 hown hK.1 hP 0 rfl rfl 1 (by decide) (hU _ uF_X4_21) (fun _ h9 => h9) rfl dX4_loss_22 ?_
      refine lv_aload_n hx hb dX4_loss_25 rfl (lv_at hl 0 rfl) ?_
      refine va_get (D := k.1) (ci := 4) (v := .ref (a 16)) (C := RX4) (T := TX4) (N := 10) hx hb hU inlX4 hown hK.1 hP 0 rfl rfl 4 (by decide) (hU _ uF_X4_42) (fun _ h9 => h9) rfl dX4_loss_26 ?_
      refine va_getN (D := k.1) (ci := 0) (v := .int (C_cells C)) (C := RX0) (T := TX0) (N := 3) hx hb hU inlX0 hown hK.1 hP 16 rfl rfl 1 (by decide) (hK.nf nF_X4_119) (fun _ h9 => h9) rfl dX4_loss_29 ?_
      refine wcVN (n := 1) (As := [.int (C_cells C)]) (rest := []) hF (c_X3_begin l k a S T dr tr C F G (C_cells C) n hn hc) hP hD hS hA hK 11 (ci := 3) rfl rfl rfl uC_X3_begin uN_X3 nM_X4_160 uI_X3_begin uE_X3_begin (by decide +kernel) rfl ⟨Nat.le_of_ble_eq_true rfl, Nat.le_of_ble_eq_true rfl⟩ ⟨Nat.zero_le _, Nat.zero_le _⟩ hl.1 rfl (Nat.le_of_ble_eq_true rfl) dX4_loss_32 (fun H locs hP hD hS => ?_)
      have hP : va_P k.1 vwCl (xW k a S (bgT S T n (C_cells C) n) dr tr C F G) H := hP
      have hD : va_D A (xW k a S (bgT S T n (C_cells C) n) dr tr C F G) := hD
      refine lv_aload_n hx hb dX4_loss_35 rfl (lv_at hl 0 rfl) ?_
      refine va_get (D := k.1) (ci := 4) (v := .ref (a 11)) (C := RX4) (T := TX4) (N := 10) hx hb hU inlX4 hown hK.1 hP 0 rfl rfl 1 (by decide) (hU _ uF_X4_21) (fun _ h9 => h9) rfl dX4_loss_36 ?_
      refine va_getN (D := k.1) (ci := 3) (v := .ref (a 13)) (C := RX3) (T := TX3) (N := 7) hx hb hU inlX3 hown hK.1 hP 11 rfl rfl 2 (by decide) (hK.nf nF_X4_194) (fun _ h9 => h9) rfl dX4_loss_39 ?_
      refine lv_iload_n hx hb dX4_loss_42 rfl (lv_at hl 1 rfl) ?_
      refine xa_lald hx hb hK.1 hP 13 1 rfl rfl (j := (tn ki)) (poJ c_1).2 (poJ c_1).1 (by decide) dX4_loss_43 ?_
      refine lv_aload_n hx hb dX4_loss_44 rfl (lv_at hl 0 rfl) ?_
      refine va_get (D := k.1) (ci := 4) (v := .ref (a 1)) (C := RX4) (T := TX4) (N := 10) hx hb hU inlX4 hown hK.1 hP 0 rfl rfl 0 (by decide) (hU _ uF_X4_10) (fun _ h9 => h9) rfl dX4_loss_45 ?_
      refine va_getN (D := k.1) (ci := 2) (v := .ref (a 8)) (C := RX2) (T := TX2) (N := 16) hx hb hU inlX2 hown hK.1 hP 1 rfl rfl 6 (by decide) (hK.nf nF_X4_197) (fun _ h9 => h9) rfl dX4_loss_48 ?_
      refine lv_iload_n hx hb dX4_loss_51 rfl (lv_at hl 1 rfl) ?_
      refine xa_lald hx hb hK.1 hP 8 1 rfl rfl (j := (tn ki)) (poJ c_1).2 (poJ c_1).1 (by decide) dX4_loss_52 ?_
      refine lv_iload_n hx hb dX4_loss_53 rfl (lv_at hl 2 rfl) ?_
      refine rcS (n := 3) (As := [.long ((T_hours (bgT S T n (C_cells C) n)) (tn ki)), .long ((S_portTotals S) (tn ki)), .int part]) (rest := []) hF (c_X4_partOf l k  ((T_hours (bgT S T n (C_cells C) n)) (tn ki)) ((S_portTotals S) (tn ki)) part ) (hP.sub (ws' := []) [] rfl) hK uC_X4_partOf uN_X4 uM_X4_168 uS_X4_partOf (by decide +kernel) rfl ⟨Nat.le_of_ble_eq_true rfl, Nat.le_of_ble_eq_true rfl⟩ ⟨Nat.zero_le _, Nat.zero_le _⟩ hl.1 rfl (Nat.le_of_ble_eq_true rfl) dX4_loss_54 ?_
      have hP9 : va_P k.1 vwCl (xW k a S (w_X4_loss_T S T C ki n) dr tr C F G) H := by rw [w_X4_loss_T, if_neg c_1, if_neg c_2]; exact hP
      have hD9 : va_D A (xW k a S (w_X4_loss_T S T C ki n) dr tr C F G) := by rw [w_X4_loss_T, if_neg c_1, if_neg c_2]; exact hD
      exact W.lret (v := (w_X4_partOf ((T_hours (bgT S T n (C_cells C) n)) (tn ki)) ((S_portTotals S) (tn ki)) part)) hx hb hr (fun t ht hW => ⟨⟨by rw [w_X4_loss, if_neg c_1, if_neg c_2], by rw [ht]; exact hP9, hD9⟩, hS.F ht⟩) hS.2.2 dX4_loss_57
    · refine lv_ldc2 hx hb hown (hU _ uK_X4_54) dX4_loss_17 ?_
      have hP9 : va_P k.1 vwCl (xW k a S (w_X4_loss_T S T C ki n) dr tr C F G) s.heap := by rw [w_X4_loss_T, if_neg c_1, if_pos c_2]; exact hP
      have hD9 : va_D A (xW k a S (w_X4_loss_T S T C ki n) dr tr C F G) := by rw [w_X4_loss_T, if_neg c_1, if_pos c_2]; exact hD
      exact W.lret (v := (-1)) hx hb hr (fun t ht hW => ⟨⟨by rw [w_X4_loss, if_neg c_1, if_pos c_2], by rw [ht]; exact hP9, hD9⟩, hS.F ht⟩) hS.2.2 dX4_loss_20

def w_X4_clash (G : GoT) (kk : Int32) : Int32 := (w_X4_placeOfBit (G_clashingKinds G) kk)
set_option maxHeartbeats 4000000 in
set_option maxRecDepth 100000 in
theorem c_X4_clash (l : Launch) (k : KT) (a : Nat → Nat) (S : SeaT) (T : TalT) (dr : Int64) (tr : Int64) (C : ChoT) (F : (Nat → Int32)) (G : GoT) (kk : Int32) (n : Nat) (hn : n ≤ 24) (hc : S_cells S = nI n) : MR l yX4_clash cX4_clash 2 (some .int) (rz 2 44) k [.ref (a 0), .int kk] (xW k a S T dr tr C F G) (.int (w_X4_clash G kk)) := by
  refine Met.ofW (cc := cX4_clash) (maxL := 2) (ret := (some .int)) (by decide) rfl ?_
  intro p e s m args below meth c s₁ B hml hv
  obtain ⟨rfl, hP, hK⟩ := hv
  have hx := B.exec
  have hb := B.bytes
  have hr := B.returns
  have hU : ∀ w ∈ wsL_law, w.before [.ref (a 0), .int kk].toArray s = true := fun w h => atoms_spec (ws := Cond.code yX4_clash cX4_clash 2 (some .int) :: wsL_law) B.pre w (List.mem_cons_of_mem _ h)
  have hown : s.vm.findClass RX4 = some m.cls := findClass_of_methodNamed B.named
  have hlocks := B.notSynchronized
  have hF : CF p m c cX4_clash 2 s [.ref (a 0), .int kk].toArray RX4 := ⟨hx, hb, hml, hown, hU⟩
  have hl := lv_entry ([.ref (a 0), .int kk] : List Value) (n := 2) (Nat.le_of_ble_eq_true rfl)
  rw [lg_entry_eq]
  generalize (lg_sl ([.ref (a 0), .int kk] : List Value) ++ List.replicate (2 - (lg_sl ([.ref (a 0), .int kk] : List Value)).length) Slot.unset).toArray = ls at hl ⊢
  have hl : lv_has ls 2 [(0, .ref (a 0)), (1, .int kk)] := hl
  refine lv_aload_n hx hb dX4_clash_0 rfl (lv_at hl 0 rfl) ?_
  refine va_get (D := k.1) (ci := 4) (v := .int (G_clashingKinds G)) (C := RX4) (T := TX4) (N := 10) hx hb hU inlX4 hown hK.1 hP 0 rfl rfl 9 (by decide) (hU _ uF_X4_130) (fun _ h9 => h9) rfl dX4_clash_1 ?_
  refine lv_iload_n hx hb dX4_clash_4 rfl (lv_at hl 1 rfl) ?_
  refine rcS (n := 2) (As := [.int (G_clashingKinds G), .int kk]) (rest := []) hF (c_X4_placeOfBit l k  (G_clashingKinds G) kk ) (hP.sub (ws' := []) [] rfl) hK uC_X4_placeOfBit uN_X4 uM_X4_172 uS_X4_placeOfBit (by decide +kernel) rfl ⟨Nat.le_of_ble_eq_true rfl, Nat.le_of_ble_eq_true rfl⟩ ⟨Nat.zero_le _, Nat.zero_le _⟩ hl.1 rfl (Nat.le_of_ble_eq_true rfl) dX4_clash_5 ?_
  exact W.iret (v := (w_X4_placeOfBit (G_clashingKinds G) kk)) hx hb hr (fun t ht hW => ⟨by rw [w_X4_clash], ht⟩) (fun q h => absurd h List.not_mem_nil) dX4_clash_8

def w_X4_port (S : SeaT) (ce : Int32) (ki : Int32) (hv_ : Int64) : Int32 := if (w_hasCell (S_cells S) ce) = 0 then 0 else if (w_isPort ki) = 0 then 0 else if (w_within hv_ 1000000) = 0 then 0 else 1
def w_X4_port_S (S : SeaT) (ce : Int32) (ki : Int32) (hv_ : Int64) : SeaT := if (w_hasCell (S_cells S) ce) = 0 then S else if (w_isPort ki) = 0 then S else if (w_within hv_ 1000000) = 0 then S else (w_X2_putHours_S S hv_ (tn ce) (tn ki))
set_option maxHeartbeats 4000000 in
set_option maxRecDepth 100000 in
theorem c_X4_port (l : Launch) (k : KT) (a : Nat → Nat) (S : SeaT) (T : TalT) (dr : Int64) (tr : Int64) (C : ChoT) (F : (Nat → Int32)) (G : GoT) (ce : Int32) (ki : Int32) (hv_ : Int64) (n : Nat) (hn : n ≤ 24) (hc : S_cells S = nI n) : MW l yX4_port cX4_port 5 (some .boolean) (rz 1 25) k [.ref (a 0), .int ce, .int ki, .long hv_] (xW k a S T dr tr C F G) (some (.int (w_X4_port S ce ki hv_))) (xW k a (w_X4_port_S S ce ki hv_) T dr tr C F G) := by
  intro sz
  refine Met.ofW (cc := cX4_port) (maxL := 5) (ret := (some .boolean)) (by decide) rfl ?_
  intro p e s m args below meth c s₁ B hml hv
  obtain ⟨rfl, hsz, hP, hK, hD0⟩ := hv
  have hx := B.exec
  have hb := B.bytes
  have hr := B.returns
  have hU : ∀ w ∈ wsL_law, w.before [.ref (a 0), .int ce, .int ki, .long hv_].toArray s = true := fun w h => atoms_spec (ws := Cond.code yX4_port cX4_port 5 (some .boolean) :: wsL_law) B.pre w (List.mem_cons_of_mem _ h)
  have hown : s.vm.findClass RX4 = some m.cls := findClass_of_methodNamed B.named
  have hlocks := B.notSynchronized
  have hF : CF p m c cX4_port 5 s [.ref (a 0), .int ce, .int ki, .long hv_].toArray RX4 := ⟨hx, hb, hml, hown, hU⟩
  subst hsz
  have hD := hD0.self (sz := s.heap.size)
  generalize hAe : va_A (xW k a S T dr tr C F G) s.heap.size = A at hD ⊢
  have hA : ∀ q : Nat, s.heap.size ≤ q → A q := fun q h => by rw [← hAe]; exact Or.inr h
  have hS : va_S A s.heap s.heap [] := va_S.rf
  have hl := lv_entry ([.ref (a 0), .int ce, .int ki, .long hv_] : List Value) (n := 5) (Nat.le_of_ble_eq_true rfl)
  rw [lg_entry_eq]
  generalize (lg_sl ([.ref (a 0), .int ce, .int ki, .long hv_] : List Value) ++ List.replicate (5 - (lg_sl ([.ref (a 0), .int ce, .int ki, .long hv_] : List Value)).length) Slot.unset).toArray = ls at hl ⊢
  have hl : lv_has ls 5 [(0, .ref (a 0)), (1, .int ce), (2, .int ki), (3, .long hv_)] := hl
  refine lv_aload_n hx hb dX4_port_0 rfl (lv_at hl 0 rfl) ?_
  refine va_get (D := k.1) (ci := 4) (v := .ref (a 1)) (C := RX4) (T := TX4) (N := 10) hx hb hU inlX4 hown hK.1 hP 0 rfl rfl 0 (by decide) (hU _ uF_X4_10) (fun _ h9 => h9) rfl dX4_port_1 ?_
  refine lv_iload_n hx hb dX4_port_4 rfl (lv_at hl 1 rfl) ?_
  refine rcVN (n := 1) (As := [.int ce]) (rest := []) hF (c_X2_hasCell l k a S T dr tr C F G ce ) (hP) hK 1 (ci := 2) rfl rfl rfl uC_X2_hasCell uN_X2 nM_X4_73 uI_X2_hasCell uE_X2_hasCell (by decide +kernel) rfl ⟨Nat.le_of_ble_eq_true rfl, Nat.le_of_ble_eq_true rfl⟩ ⟨Nat.zero_le _, Nat.zero_le _⟩ hl.1 rfl (Nat.le_of_ble_eq_true rfl) dX4_port_5 ?_
  refine lv_if_eq (tgt := 28) hx hb dX4_port_8 (by decide) (fun c_1 => ?_) (fun c_1 => ?_)
  · refine lv_iconst (v := 0) hx hb dX4_port_28 (by decide) ?_
    have hP9 : va_P k.1 vwCl (xW k a (w_X4_port_S S ce ki hv_) T dr tr C F G) s.heap := by rw [w_X4_port_S, if_pos c_1]; exact hP
    have hD9 : va_D A (xW k a (w_X4_port_S S ce ki hv_) T dr tr C F G) := by rw [w_X4_port_S, if_pos c_1]; exact hD
    exact W.zret (v := 0) hx hb hr rfl (fun t ht hW => ⟨⟨by rw [w_X4_port, if_pos c_1], by rw [ht]; exact hP9, hD9⟩, hS.F ht⟩) hS.2.2 dX4_port_29
  · refine lv_iload_n hx hb dX4_port_11 rfl (lv_at hl 2 rfl) ?_
    refine rcS (n := 1) (As := [.int ki]) (rest := []) hF (c_X4_isPort l k ki) (hP.sub (ws' := []) [] rfl) hK uC_X4_isPort uN_X4 uM_X4_188 uS_X4_isPort (by decide +kernel) rfl ⟨Nat.le_of_ble_eq_true rfl, Nat.le_of_ble_eq_true rfl⟩ ⟨Nat.zero_le _, Nat.zero_le _⟩ hl.1 rfl (Nat.le_of_ble_eq_true rfl) dX4_port_12 ?_
    refine lv_if_eq (tgt := 28) hx hb dX4_port_15 (by decide) (fun c_2 => ?_) (fun c_2 => ?_)
    · refine lv_iconst (v := 0) hx hb dX4_port_28 (by decide) ?_
      have hP9 : va_P k.1 vwCl (xW k a (w_X4_port_S S ce ki hv_) T dr tr C F G) s.heap := by rw [w_X4_port_S, if_neg c_1, if_pos c_2]; exact hP
      have hD9 : va_D A (xW k a (w_X4_port_S S ce ki hv_) T dr tr C F G) := by rw [w_X4_port_S, if_neg c_1, if_pos c_2]; exact hD
      exact W.zret (v := 0) hx hb hr rfl (fun t ht hW => ⟨⟨by rw [w_X4_port, if_neg c_1, if_pos c_2], by rw [ht]; exact hP9, hD9⟩, hS.F ht⟩) hS.2.2 dX4_port_29
    · refine lv_lload_n hx hb dX4_port_18 rfl (lv_at hl 3 rfl) ?_
      refine lv_ldc2 hx hb hown (hU _ uK_X4_63) dX4_port_19 ?_
      refine rcS (n := 2) (As := [.long hv_, .long 1000000]) (rest := []) hF (c_X4_within l k hv_ 1000000) (hP.sub (ws' := []) [] rfl) hK uC_X4_within uN_X4 uM_X4_65 uS_X4_within (by decide +kernel) rfl ⟨Nat.le_of_ble_eq_true rfl, Nat.le_of_ble_eq_true rfl⟩ ⟨Nat.zero_le _, Nat.zero_le _⟩ hl.1 rfl (Nat.le_of_ble_eq_true rfl) dX4_port_22 ?_
      refine lv_if_ne (tgt := 30) hx hb dX4_port_25 (by decide) (fun c_3 => ?_) (fun c_3 => ?_)
      · refine lv_aload_n hx hb dX4_port_30 rfl (lv_at hl 0 rfl) ?_
        refine va_get (D := k.1) (ci := 4) (v := .ref (a 1)) (C := RX4) (T := TX4) (N := 10) hx hb hU inlX4 hown hK.1 hP 0 rfl rfl 0 (by decide) (hU _ uF_X4_10) (fun _ h9 => h9) rfl dX4_port_31 ?_
        refine lv_iload_n hx hb dX4_port_34 rfl (lv_at hl 1 rfl) ?_
        refine lv_iload_n hx hb dX4_port_35 rfl (lv_at hl 2 rfl) ?_
        refine lv_lload_n hx hb dX4_port_36 rfl (lv_at hl 3 rfl) ?_
        refine wcVN (n := 3) (As := [.int ce, .int ki, .long hv_]) (rest := []) hF (c_X2_putHours l k a S T dr tr C F G ce ki hv_ (tn ce) (tn ki) (by have := (hcJ hn hc c_1).1; omega) (poJ c_2).1 (hcJ hn hc c_1).2 (poJ c_2).2) hP hD hS hA hK 1 (ci := 2) rfl rfl rfl uC_X2_putHours uN_X2 nM_X4_191 uI_X2_putHours uE_X2_putHours (by decide +kernel) rfl ⟨Nat.le_of_ble_eq_true rfl, Nat.le_of_ble_eq_true rfl⟩ ⟨Nat.zero_le _, Nat.zero_le _⟩ hl.1 rfl (Nat.le_of_ble_eq_true rfl) dX4_port_37 (fun H locs hP hD hS => ?_)
        have hP : va_P k.1 vwCl (xW k a (w_X2_putHours_S S hv_ (tn ce) (tn ki)) T dr tr C F G) H := hP
        have hD : va_D A (xW k a (w_X2_putHours_S S hv_ (tn ce) (tn ki)) T dr tr C F G) := hD
        refine lv_iconst (v := 1) hx hb dX4_port_40 (by decide) ?_
        have hP9 : va_P k.1 vwCl (xW k a (w_X4_port_S S ce ki hv_) T dr tr C F G) H := by rw [w_X4_port_S, if_neg c_1, if_neg c_2, if_neg c_3]; exact hP
        have hD9 : va_D A (xW k a (w_X4_port_S S ce ki hv_) T dr tr C F G) := by rw [w_X4_port_S, if_neg c_1, if_neg c_2, if_neg c_3]; exact hD
        exact W.zret (v := 1) hx hb hr rfl (fun t ht hW => ⟨⟨by rw [w_X4_port, if_neg c_1, if_neg c_2, if_neg c_3], by rw [ht]; exact hP9, hD9⟩, hS.F ht⟩) hS.2.2 dX4_port_41
      · refine lv_iconst (v := 0) hx hb dX4_port_28 (by decide) ?_
        have hP9 : va_P k.1 vwCl (xW k a (w_X4_port_S S ce ki hv_) T dr tr C F G) s.heap := by rw [w_X4_port_S, if_neg c_1, if_neg c_2, if_pos c_3]; exact hP
        have hD9 : va_D A (xW k a (w_X4_port_S S ce ki hv_) T dr tr C F G) := by rw [w_X4_port_S, if_neg c_1, if_neg c_2, if_pos c_3]; exact hD
        exact W.zret (v := 0) hx hb hr rfl (fun t ht hW => ⟨⟨by rw [w_X4_port, if_neg c_1, if_neg c_2, if_pos c_3], by rw [ht]; exact hP9, hD9⟩, hS.F ht⟩) hS.2.2 dX4_port_29

def w_X4_fair (av : Int64) (bv : Int64) : Int32 := if (w_isShare av bv) = 0 then 0 else 1
def w_X4_fair_S (S : SeaT) (av : Int64) (bv : Int64) : SeaT := if (w_isShare av bv) = 0 then S else (sS_fairBelow (sS_fairAbove S av) bv)
set_option maxHeartbeats 4000000 in
set_option maxRecDepth 100000 in
theorem c_X4_fair (l : Launch) (k : KT) (a : Nat → Nat) (S : SeaT) (T : TalT) (dr : Int64) (tr : Int64) (C : ChoT) (F : (Nat → Int32)) (G : GoT) (av : Int64) (bv : Int64) (n : Nat) (hn : n ≤ 24) (hc : S_cells S = nI n) : MW l yX4_fair cX4_fair 5 (some .boolean) (rz 1 23) k [.ref (a 0), .long av, .long bv] (xW k a S T dr tr C F G) (some (.int (w_X4_fair av bv))) (xW k a (w_X4_fair_S S av bv) T dr tr C F G) := by
  intro sz
  refine Met.ofW (cc := cX4_fair) (maxL := 5) (ret := (some .boolean)) (by decide) rfl ?_
  intro p e s m args below meth c s₁ B hml hv
  obtain ⟨rfl, hsz, hP, hK, hD0⟩ := hv
  have hx := B.exec
  have hb := B.bytes
  have hr := B.returns
  have hU : ∀ w ∈ wsL_law, w.before [.ref (a 0), .long av, .long bv].toArray s = true := fun w h => atoms_spec (ws := Cond.code yX4_fair cX4_fair 5 (some .boolean) :: wsL_law) B.pre w (List.mem_cons_of_mem _ h)
  have hown : s.vm.findClass RX4 = some m.cls := findClass_of_methodNamed B.named
  have hlocks := B.notSynchronized
  have hF : CF p m c cX4_fair 5 s [.ref (a 0), .long av, .long bv].toArray RX4 := ⟨hx, hb, hml, hown, hU⟩
  subst hsz
  have hD := hD0.self (sz := s.heap.size)
  generalize hAe : va_A (xW k a S T dr tr C F G) s.heap.size = A at hD ⊢
  have hA : ∀ q : Nat, s.heap.size ≤ q → A q := fun q h => by rw [← hAe]; exact Or.inr h
  have hS : va_S A s.heap s.heap [] := va_S.rf
  have hl := lv_entry ([.ref (a 0), .long av, .long bv] : List Value) (n := 5) (Nat.le_of_ble_eq_true rfl)
  rw [lg_entry_eq]
  generalize (lg_sl ([.ref (a 0), .long av, .long bv] : List Value) ++ List.replicate (5 - (lg_sl ([.ref (a 0), .long av, .long bv] : List Value)).length) Slot.unset).toArray = ls at hl ⊢
  have hl : lv_has ls 5 [(0, .ref (a 0)), (1, .long av), (3, .long bv)] := hl
  refine lv_lload_n hx hb dX4_fair_0 rfl (lv_at hl 1 rfl) ?_
  refine lv_lload_n hx hb dX4_fair_1 rfl (lv_at hl 2 rfl) ?_
  refine rcS (n := 2) (As := [.long av, .long bv]) (rest := []) hF (c_X4_isShare l k av bv) (hP.sub (ws' := []) [] rfl) hK uC_X4_isShare uN_X4 uM_X4_90 uS_X4_isShare (by decide +kernel) rfl ⟨Nat.le_of_ble_eq_true rfl, Nat.le_of_ble_eq_true rfl⟩ ⟨Nat.zero_le _, Nat.zero_le _⟩ hl.1 rfl (Nat.le_of_ble_eq_true rfl) dX4_fair_2 ?_
  refine lv_if_ne (tgt := 10) hx hb dX4_fair_5 (by decide) (fun c_1 => ?_) (fun c_1 => ?_)
  · refine lv_aload_n hx hb dX4_fair_10 rfl (lv_at hl 0 rfl) ?_
    refine va_get (D := k.1) (ci := 4) (v := .ref (a 1)) (C := RX4) (T := TX4) (N := 10) hx hb hU inlX4 hown hK.1 hP 0 rfl rfl 0 (by decide) (hU _ uF_X4_10) (fun _ h9 => h9) rfl dX4_fair_11 ?_
    refine lv_lload_n hx hb dX4_fair_14 rfl (lv_at hl 1 rfl) ?_
    refine va_putN (D := k.1) (ci := 2) (v := .long av) (ty := .long) (C := RX2) (T := TX2) (N := 16) hx hb hU inlX2 tyX2 tyX2_ok nmX2 hown hK.1 hP hD hS 1 rfl rfl 9 (by decide) (hK.nf nF_X4_200) (fun _ h9 => h9) rfl (by decide +kernel) rfl rfl (Nat.le_of_ble_eq_true rfl) dX4_fair_15 (fun H locs hP hD hS => ?_)
    have hP := pz_x_1_9 k a S T dr tr C F G av hP
    have hD := dz_x_1_9 k a S T dr tr C F G av hD
    refine lv_aload_n hx hb dX4_fair_18 rfl (lv_at hl 0 rfl) ?_
    refine va_get (D := k.1) (ci := 4) (v := .ref (a 1)) (C := RX4) (T := TX4) (N := 10) hx hb hU inlX4 hown hK.1 hP 0 rfl rfl 0 (by decide) (hU _ uF_X4_10) (fun _ h9 => h9) rfl dX4_fair_19 ?_
    refine lv_lload_n hx hb dX4_fair_22 rfl (lv_at hl 2 rfl) ?_
    refine va_putN (D := k.1) (ci := 2) (v := .long bv) (ty := .long) (C := RX2) (T := TX2) (N := 16) hx hb hU inlX2 tyX2 tyX2_ok nmX2 hown hK.1 hP hD hS 1 rfl rfl 10 (by decide) (hK.nf nF_X4_203) (fun _ h9 => h9) rfl (by decide +kernel) rfl rfl (Nat.le_of_ble_eq_true rfl) dX4_fair_23 (fun H locs hP hD hS => ?_)
    have hP := pz_x_1_10 k a (sS_fairAbove S av) T dr tr C F G bv hP
    have hD := dz_x_1_10 k a (sS_fairAbove S av) T dr tr C F G bv hD
    refine lv_iconst (v := 1) hx hb dX4_fair_26 (by decide) ?_
    have hP9 : va_P k.1 vwCl (xW k a (w_X4_fair_S S av bv) T dr tr C F G) H := by rw [w_X4_fair_S, if_neg c_1]; exact hP
    have hD9 : va_D A (xW k a (w_X4_fair_S S av bv) T dr tr C F G) := by rw [w_X4_fair_S, if_neg c_1]; exact hD
    exact W.zret (v := 1) hx hb hr rfl (fun t ht hW => ⟨⟨by rw [w_X4_fair, if_neg c_1], by rw [ht]; exact hP9, hD9⟩, hS.F ht⟩) hS.2.2 dX4_fair_27
  · refine lv_iconst (v := 0) hx hb dX4_fair_8 (by decide) ?_
    have hP9 : va_P k.1 vwCl (xW k a (w_X4_fair_S S av bv) T dr tr C F G) s.heap := by rw [w_X4_fair_S, if_pos c_1]; exact hP
    have hD9 : va_D A (xW k a (w_X4_fair_S S av bv) T dr tr C F G) := by rw [w_X4_fair_S, if_pos c_1]; exact hD
    exact W.zret (v := 0) hx hb hr rfl (fun t ht hW => ⟨⟨by rw [w_X4_fair, if_pos c_1], by rw [ht]; exact hP9, hD9⟩, hS.F ht⟩) hS.2.2 dX4_fair_9

def w_X4_border (S : SeaT) (T : TalT) (C : ChoT) (n : Nat) : Int64 := if (C_there C) = 0 then (-1) else (T_borderLength (bgT S T n (C_cells C) n))
def w_X4_border_T (S : SeaT) (T : TalT) (C : ChoT) (n : Nat) : TalT := if (C_there C) = 0 then T else (bgT S T n (C_cells C) n)
set_option maxHeartbeats 4000000 in
set_option maxRecDepth 100000 in
theorem c_X4_border (l : Launch) (k : KT) (a : Nat → Nat) (S : SeaT) (T : TalT) (dr : Int64) (tr : Int64) (C : ChoT) (F : (Nat → Int32)) (G : GoT)  (n : Nat) (hn : n ≤ 24) (hc : S_cells S = nI n) : MW l yX4_border cX4_border 1 (some .long) (rz 4 94) k [.ref (a 0)] (xW k a S T dr tr C F G) (some (.long (w_X4_border S T C n))) (xW k a S (w_X4_border_T S T C n) dr tr C F G) := by
  intro sz
  refine Met.ofW (cc := cX4_border) (maxL := 1) (ret := (some .long)) (by decide) rfl ?_
  intro p e s m args below meth c s₁ B hml hv
  obtain ⟨rfl, hsz, hP, hK, hD0⟩ := hv
  have hx := B.exec
  have hb := B.bytes
  have hr := B.returns
  have hU : ∀ w ∈ wsL_law, w.before [.ref (a 0)].toArray s = true := fun w h => atoms_spec (ws := Cond.code yX4_border cX4_border 1 (some .long) :: wsL_law) B.pre w (List.mem_cons_of_mem _ h)
  have hown : s.vm.findClass RX4 = some m.cls := findClass_of_methodNamed B.named
  have hlocks := B.notSynchronized
  have hF : CF p m c cX4_border 1 s [.ref (a 0)].toArray RX4 := ⟨hx, hb, hml, hown, hU⟩
  subst hsz
  have hD := hD0.self (sz := s.heap.size)
  generalize hAe : va_A (xW k a S T dr tr C F G) s.heap.size = A at hD ⊢
  have hA : ∀ q : Nat, s.heap.size ≤ q → A q := fun q h => by rw [← hAe]; exact Or.inr h
  have hS : va_S A s.heap s.heap [] := va_S.rf
  have hl := lv_entry ([.ref (a 0)] : List Value) (n := 1) (Nat.le_of_ble_eq_true rfl)
  rw [lg_entry_eq]
  generalize (lg_sl ([.ref (a 0)] : List Value) ++ List.replicate (1 - (lg_sl ([.ref (a 0)] : List Value)).length) Slot.unset).toArray = ls at hl ⊢
  have hl : lv_has ls 1 [(0, .ref (a 0))] := hl
  refine lv_aload_n hx hb dX4_border_0 rfl (lv_at hl 0 rfl) ?_
  refine va_get (D := k.1) (ci := 4) (v := .ref (a 16)) (C := RX4) (T := TX4) (N := 10) hx hb hU inlX4 hown hK.1 hP 0 rfl rfl 4 (by decide) (hU _ uF_X4_42) (fun _ h9 => h9) rfl dX4_border_1 ?_
  refine va_getN (D := k.1) (ci := 0) (v := .int (C_there C)) (C := RX0) (T := TX0) (N := 3) hx hb hU inlX0 hown hK.1 hP 16 rfl rfl 0 (by decide) (hK.nf nF_X4_115) (fun _ h9 => h9) rfl dX4_border_4 ?_
  refine lv_if_ne (tgt := 14) hx hb dX4_border_7 (by decide) (fun c_1 => ?_) (fun c_1 => ?_)
  · refine lv_aload_n hx hb dX4_border_14 rfl (lv_at hl 0 rfl) ?_
    refine va_get (D := k.1) (ci := 4) (v := .ref (a 11)) (C := RX4) (T := TX4) (N := 10) hx hb hU inlX4 hown hK.1 hP 0 rfl rfl 1 (by decide) (hU _ uF_X4_21) (fun _ h9 => h9) rfl dX4_border_15 ?_
    refine lv_aload_n hx hb dX4_border_18 rfl (lv_at hl 0 rfl) ?_
    refine va_get (D := k.1) (ci := 4) (v := .ref (a 16)) (C := RX4) (T := TX4) (N := 10) hx hb hU inlX4 hown hK.1 hP 0 rfl rfl 4 (by decide) (hU _ uF_X4_42) (fun _ h9 => h9) rfl dX4_border_19 ?_
    refine va_getN (D := k.1) (ci := 0) (v := .int (C_cells C)) (C := RX0) (T := TX0) (N := 3) hx hb hU inlX0 hown hK.1 hP 16 rfl rfl 1 (by decide) (hK.nf nF_X4_119) (fun _ h9 => h9) rfl dX4_border_22 ?_
    refine wcVN (n := 1) (As := [.int (C_cells C)]) (rest := []) hF (c_X3_begin l k a S T dr tr C F G (C_cells C) n hn hc) hP hD hS hA hK 11 (ci := 3) rfl rfl rfl uC_X3_begin uN_X3 nM_X4_160 uI_X3_begin uE_X3_begin (by decide +kernel) rfl ⟨Nat.le_of_ble_eq_true rfl, Nat.le_of_ble_eq_true rfl⟩ ⟨Nat.zero_le _, Nat.zero_le _⟩ hl.1 rfl (Nat.le_of_ble_eq_true rfl) dX4_border_25 (fun H locs hP hD hS => ?_)
    have hP : va_P k.1 vwCl (xW k a S (bgT S T n (C_cells C) n) dr tr C F G) H := hP
    have hD : va_D A (xW k a S (bgT S T n (C_cells C) n) dr tr C F G) := hD
    refine lv_aload_n hx hb dX4_border_28 rfl (lv_at hl 0 rfl) ?_
    refine va_get (D := k.1) (ci := 4) (v := .ref (a 11)) (C := RX4) (T := TX4) (N := 10) hx hb hU inlX4 hown hK.1 hP 0 rfl rfl 1 (by decide) (hU _ uF_X4_21) (fun _ h9 => h9) rfl dX4_border_29 ?_
    refine va_getN (D := k.1) (ci := 3) (v := .long (T_borderLength (bgT S T n (C_cells C) n))) (C := RX3) (T := TX3) (N := 7) hx hb hU inlX3 hown hK.1 hP 11 rfl rfl 6 (by decide) (hK.nf nF_X4_206) (fun _ h9 => h9) rfl dX4_border_32 ?_
    have hP9 : va_P k.1 vwCl (xW k a S (w_X4_border_T S T C n) dr tr C F G) H := by rw [w_X4_border_T, if_neg c_1]; exact hP
    have hD9 : va_D A (xW k a S (w_X4_border_T S T C n) dr tr C F G) := by rw [w_X4_border_T, if_neg c_1]; exact hD
    exact W.lret (v := (T_borderLength (bgT S T n (C_cells C) n))) hx hb hr (fun t ht hW => ⟨⟨by rw [w_X4_border, if_neg c_1], by rw [ht]; exact hP9, hD9⟩, hS.F ht⟩) hS.2.2 dX4_border_35
  · refine lv_ldc2 hx hb hown (hU _ uK_X4_54) dX4_border_10 ?_
    have hP9 : va_P k.1 vwCl (xW k a S (w_X4_border_T S T C n) dr tr C F G) s.heap := by rw [w_X4_border_T, if_pos c_1]; exact hP
    have hD9 : va_D A (xW k a S (w_X4_border_T S T C n) dr tr C F G) := by rw [w_X4_border_T, if_pos c_1]; exact hD
    exact W.lret (v := (-1)) hx hb hr (fun t ht hW => ⟨⟨by rw [w_X4_border, if_pos c_1], by rw [ht]; exact hP9, hD9⟩, hS.F ht⟩) hS.2.2 dX4_border_13

def w_X4_size (S : SeaT) (lv_ : Int32) : Int32 := if lv_ < 0 then (-1) else if 24 < lv_ then (-1) else (S_cells S)
def w_X4_size_S (S : SeaT) (lv_ : Int32) : SeaT := if lv_ < 0 then S else if 24 < lv_ then S else (sS_fewest S lv_)
set_option maxHeartbeats 4000000 in
set_option maxRecDepth 100000 in
theorem c_X4_size (l : Launch) (k : KT) (a : Nat → Nat) (S : SeaT) (T : TalT) (dr : Int64) (tr : Int64) (C : ChoT) (F : (Nat → Int32)) (G : GoT) (lv_ : Int32) (n : Nat) (hn : n ≤ 24) (hc : S_cells S = nI n) : MW l yX4_size cX4_size 2 (some .int) (rz 0 0) k [.ref (a 0), .int lv_] (xW k a S T dr tr C F G) (some (.int (w_X4_size S lv_))) (xW k a (w_X4_size_S S lv_) T dr tr C F G) := by
  intro sz
  refine Met.ofW (cc := cX4_size) (maxL := 2) (ret := (some .int)) (by decide) rfl ?_
  intro p e s m args below meth c s₁ B hml hv
  obtain ⟨rfl, hsz, hP, hK, hD0⟩ := hv
  have hx := B.exec
  have hb := B.bytes
  have hr := B.returns
  have hU : ∀ w ∈ wsL_law, w.before [.ref (a 0), .int lv_].toArray s = true := fun w h => atoms_spec (ws := Cond.code yX4_size cX4_size 2 (some .int) :: wsL_law) B.pre w (List.mem_cons_of_mem _ h)
  have hown : s.vm.findClass RX4 = some m.cls := findClass_of_methodNamed B.named
  have hlocks := B.notSynchronized
  have hF : CF p m c cX4_size 2 s [.ref (a 0), .int lv_].toArray RX4 := ⟨hx, hb, hml, hown, hU⟩
  subst hsz
  have hD := hD0.self (sz := s.heap.size)
  generalize hAe : va_A (xW k a S T dr tr C F G) s.heap.size = A at hD ⊢
  have hA : ∀ q : Nat, s.heap.size ≤ q → A q := fun q h => by rw [← hAe]; exact Or.inr h
  have hS : va_S A s.heap s.heap [] := va_S.rf
  have hl := lv_entry ([.ref (a 0), .int lv_] : List Value) (n := 2) (Nat.le_of_ble_eq_true rfl)
  rw [lg_entry_eq]
  generalize (lg_sl ([.ref (a 0), .int lv_] : List Value) ++ List.replicate (2 - (lg_sl ([.ref (a 0), .int lv_] : List Value)).length) Slot.unset).toArray = ls at hl ⊢
  have hl : lv_has ls 2 [(0, .ref (a 0)), (1, .int lv_)] := hl
  refine lv_iload_n hx hb dX4_size_0 rfl (lv_at hl 1 rfl) ?_
  refine lv_if_lt (tgt := 10) hx hb dX4_size_1 (by decide) (fun c_1 => ?_) (fun c_1 => ?_)
  · refine lv_iconst (v := (-1)) hx hb dX4_size_10 (by decide) ?_
    have hP9 : va_P k.1 vwCl (xW k a (w_X4_size_S S lv_) T dr tr C F G) s.heap := by rw [w_X4_size_S, if_pos c_1]; exact hP
    have hD9 : va_D A (xW k a (w_X4_size_S S lv_) T dr tr C F G) := by rw [w_X4_size_S, if_pos c_1]; exact hD
    exact W.iret (v := (-1)) hx hb hr (fun t ht hW => ⟨⟨by rw [w_X4_size, if_pos c_1], by rw [ht]; exact hP9, hD9⟩, hS.F ht⟩) hS.2.2 dX4_size_11
  · refine lv_iload_n hx hb dX4_size_4 rfl (lv_at hl 1 rfl) ?_
    refine lv_bipush (v := 24) hx hb dX4_size_5 (by decide) ?_
    refine xb_le (tgt := 12) hx hb dX4_size_7 (by decide) (fun c_2 => ?_) (fun c_2 => ?_)
    · refine lv_aload_n hx hb dX4_size_12 rfl (lv_at hl 0 rfl) ?_
      refine va_get (D := k.1) (ci := 4) (v := .ref (a 1)) (C := RX4) (T := TX4) (N := 10) hx hb hU inlX4 hown hK.1 hP 0 rfl rfl 0 (by decide) (hU _ uF_X4_10) (fun _ h9 => h9) rfl dX4_size_13 ?_
      refine lv_iload_n hx hb dX4_size_16 rfl (lv_at hl 1 rfl) ?_
      refine va_putN (D := k.1) (ci := 2) (v := .int lv_) (ty := .int) (C := RX2) (T := TX2) (N := 16) hx hb hU inlX2 tyX2 tyX2_ok nmX2 hown hK.1 hP hD hS 1 rfl rfl 15 (by decide) (hK.nf nF_X4_209) (fun _ h9 => h9) rfl (by decide +kernel) rfl rfl (Nat.le_of_ble_eq_true rfl) dX4_size_17 (fun H locs hP hD hS => ?_)
      have hP := pz_x_1_15 k a S T dr tr C F G lv_ hP
      have hD := dz_x_1_15 k a S T dr tr C F G lv_ hD
      refine lv_aload_n hx hb dX4_size_20 rfl (lv_at hl 0 rfl) ?_
      refine va_get (D := k.1) (ci := 4) (v := .ref (a 1)) (C := RX4) (T := TX4) (N := 10) hx hb hU inlX4 hown hK.1 hP 0 rfl rfl 0 (by decide) (hU _ uF_X4_10) (fun _ h9 => h9) rfl dX4_size_21 ?_
      refine va_getN (D := k.1) (ci := 2) (v := .int (S_cells S)) (C := RX2) (T := TX2) (N := 16) hx hb hU inlX2 hown hK.1 hP 1 rfl rfl 12 (by decide) (hK.nf nF_X4_60) (fun _ h9 => h9) rfl dX4_size_24 ?_
      have hP9 : va_P k.1 vwCl (xW k a (w_X4_size_S S lv_) T dr tr C F G) H := by rw [w_X4_size_S, if_neg c_1, if_neg c_2]; exact hP
      have hD9 : va_D A (xW k a (w_X4_size_S S lv_) T dr tr C F G) := by rw [w_X4_size_S, if_neg c_1, if_neg c_2]; exact hD
      exact W.iret (v := (S_cells S)) hx hb hr (fun t ht hW => ⟨⟨by rw [w_X4_size, if_neg c_1, if_neg c_2], by rw [ht]; exact hP9, hD9⟩, hS.F ht⟩) hS.2.2 dX4_size_27
    · refine lv_iconst (v := (-1)) hx hb dX4_size_10 (by decide) ?_
      have hP9 : va_P k.1 vwCl (xW k a (w_X4_size_S S lv_) T dr tr C F G) s.heap := by rw [w_X4_size_S, if_neg c_1, if_pos c_2]; exact hP
      have hD9 : va_D A (xW k a (w_X4_size_S S lv_) T dr tr C F G) := by rw [w_X4_size_S, if_neg c_1, if_pos c_2]; exact hD
      exact W.iret (v := (-1)) hx hb hr (fun t ht hW => ⟨⟨by rw [w_X4_size, if_neg c_1, if_pos c_2], by rw [ht]; exact hP9, hD9⟩, hS.F ht⟩) hS.2.2 dX4_size_11

def w_X4_wind (S : SeaT) (ce : Int32) (mv : Int64) : Int32 := if (w_hasCell (S_cells S) ce) = 0 then 0 else if (w_within mv 1000000) = 0 then 0 else if 10000000 < (((S_costs S) (tn ce)) + mv) then 0 else 1
def w_X4_wind_S (S : SeaT) (ce : Int32) (mv : Int64) : SeaT := if (w_hasCell (S_cells S) ce) = 0 then S else if (w_within mv 1000000) = 0 then S else if 10000000 < (((S_costs S) (tn ce)) + mv) then S else (sS_costs S (vp_updL (S_costs S) (tn ce) (((S_costs S) (tn ce)) + mv)))
set_option maxHeartbeats 4000000 in
set_option maxRecDepth 100000 in
theorem c_X4_wind (l : Launch) (k : KT) (a : Nat → Nat) (S : SeaT) (T : TalT) (dr : Int64) (tr : Int64) (C : ChoT) (F : (Nat → Int32)) (G : GoT) (ce : Int32) (mv : Int64) (n : Nat) (hn : n ≤ 24) (hc : S_cells S = nI n) : MW l yX4_wind cX4_wind 4 (some .boolean) (rz 1 23) k [.ref (a 0), .int ce, .long mv] (xW k a S T dr tr C F G) (some (.int (w_X4_wind S ce mv))) (xW k a (w_X4_wind_S S ce mv) T dr tr C F G) := by
  intro sz
  refine Met.ofW (cc := cX4_wind) (maxL := 4) (ret := (some .boolean)) (by decide) rfl ?_
  intro p e s m args below meth c s₁ B hml hv
  obtain ⟨rfl, hsz, hP, hK, hD0⟩ := hv
  have hx := B.exec
  have hb := B.bytes
  have hr := B.returns
  have hU : ∀ w ∈ wsL_law, w.before [.ref (a 0), .int ce, .long mv].toArray s = true := fun w h => atoms_spec (ws := Cond.code yX4_wind cX4_wind 4 (some .boolean) :: wsL_law) B.pre w (List.mem_cons_of_mem _ h)
  have hown : s.vm.findClass RX4 = some m.cls := findClass_of_methodNamed B.named
  have hlocks := B.notSynchronized
  have hF : CF p m c cX4_wind 4 s [.ref (a 0), .int ce, .long mv].toArray RX4 := ⟨hx, hb, hml, hown, hU⟩
  subst hsz
  have hD := hD0.self (sz := s.heap.size)
  generalize hAe : va_A (xW k a S T dr tr C F G) s.heap.size = A at hD ⊢
  have hA : ∀ q : Nat, s.heap.size ≤ q → A q := fun q h => by rw [← hAe]; exact Or.inr h
  have hS : va_S A s.heap s.heap [] := va_S.rf
  have hl := lv_entry ([.ref (a 0), .int ce, .long mv] : List Value) (n := 4) (Nat.le_of_ble_eq_true rfl)
  rw [lg_entry_eq]
  generalize (lg_sl ([.ref (a 0), .int ce, .long mv] : List Value) ++ List.replicate (4 - (lg_sl ([.ref (a 0), .int ce, .long mv] : List Value)).length) Slot.unset).toArray = ls at hl ⊢
  have hl : lv_has ls 4 [(0, .ref (a 0)), (1, .int ce), (2, .long mv)] := hl
  refine lv_aload_n hx hb dX4_wind_0 rfl (lv_at hl 0 rfl) ?_
  refine va_get (D := k.1) (ci := 4) (v := .ref (a 1)) (C := RX4) (T := TX4) (N := 10) hx hb hU inlX4 hown hK.1 hP 0 rfl rfl 0 (by decide) (hU _ uF_X4_10) (fun _ h9 => h9) rfl dX4_wind_1 ?_
  refine lv_iload_n hx hb dX4_wind_4 rfl (lv_at hl 1 rfl) ?_
  refine rcVN (n := 1) (As := [.int ce]) (rest := []) hF (c_X2_hasCell l k a S T dr tr C F G ce ) (hP) hK 1 (ci := 2) rfl rfl rfl uC_X2_hasCell uN_X2 nM_X4_73 uI_X2_hasCell uE_X2_hasCell (by decide +kernel) rfl ⟨Nat.le_of_ble_eq_true rfl, Nat.le_of_ble_eq_true rfl⟩ ⟨Nat.zero_le _, Nat.zero_le _⟩ hl.1 rfl (Nat.le_of_ble_eq_true rfl) dX4_wind_5 ?_
  refine lv_if_eq (tgt := 21) hx hb dX4_wind_8 (by decide) (fun c_1 => ?_) (fun c_1 => ?_)
  · refine lv_iconst (v := 0) hx hb dX4_wind_21 (by decide) ?_
    have hP9 : va_P k.1 vwCl (xW k a (w_X4_wind_S S ce mv) T dr tr C F G) s.heap := by rw [w_X4_wind_S, if_pos c_1]; exact hP
    have hD9 : va_D A (xW k a (w_X4_wind_S S ce mv) T dr tr C F G) := by rw [w_X4_wind_S, if_pos c_1]; exact hD
    exact W.zret (v := 0) hx hb hr rfl (fun t ht hW => ⟨⟨by rw [w_X4_wind, if_pos c_1], by rw [ht]; exact hP9, hD9⟩, hS.F ht⟩) hS.2.2 dX4_wind_22
  · refine lv_lload_n hx hb dX4_wind_11 rfl (lv_at hl 2 rfl) ?_
    refine lv_ldc2 hx hb hown (hU _ uK_X4_63) dX4_wind_12 ?_
    refine rcS (n := 2) (As := [.long mv, .long 1000000]) (rest := []) hF (c_X4_within l k mv 1000000) (hP.sub (ws' := []) [] rfl) hK uC_X4_within uN_X4 uM_X4_65 uS_X4_within (by decide +kernel) rfl ⟨Nat.le_of_ble_eq_true rfl, Nat.le_of_ble_eq_true rfl⟩ ⟨Nat.zero_le _, Nat.zero_le _⟩ hl.1 rfl (Nat.le_of_ble_eq_true rfl) dX4_wind_15 ?_
    refine lv_if_ne (tgt := 23) hx hb dX4_wind_18 (by decide) (fun c_2 => ?_) (fun c_2 => ?_)
    · refine lv_aload_n hx hb dX4_wind_23 rfl (lv_at hl 0 rfl) ?_
      refine va_get (D := k.1) (ci := 4) (v := .ref (a 1)) (C := RX4) (T := TX4) (N := 10) hx hb hU inlX4 hown hK.1 hP 0 rfl rfl 0 (by decide) (hU _ uF_X4_10) (fun _ h9 => h9) rfl dX4_wind_24 ?_
      refine va_getN (D := k.1) (ci := 2) (v := .ref (a 2)) (C := RX2) (T := TX2) (N := 16) hx hb hU inlX2 hown hK.1 hP 1 rfl rfl 0 (by decide) (hK.nf nF_X4_69) (fun _ h9 => h9) rfl dX4_wind_27 ?_
      refine lv_iload_n hx hb dX4_wind_30 rfl (lv_at hl 1 rfl) ?_
      refine xa_lald hx hb hK.1 hP 2 1 rfl rfl (j := (tn ce)) (hcJ hn hc c_1).2 (by have := (hcJ hn hc c_1).1; omega) (by decide) dX4_wind_31 ?_
      refine lv_lload_n hx hb dX4_wind_32 rfl (lv_at hl 2 rfl) ?_
      refine lv_ladd hx hb dX4_wind_33 ?_
      refine lv_ldc2 hx hb hown (hU _ uK_X4_215) dX4_wind_34 ?_
      refine xl_le (tgt := 43) hx hb dX4_wind_37 dX4_wind_38 (by decide) (fun c_3 => ?_) (fun c_3 => ?_)
      · refine lv_aload_n hx hb dX4_wind_43 rfl (lv_at hl 0 rfl) ?_
        refine va_get (D := k.1) (ci := 4) (v := .ref (a 1)) (C := RX4) (T := TX4) (N := 10) hx hb hU inlX4 hown hK.1 hP 0 rfl rfl 0 (by decide) (hU _ uF_X4_10) (fun _ h9 => h9) rfl dX4_wind_44 ?_
        refine va_getN (D := k.1) (ci := 2) (v := .ref (a 2)) (C := RX2) (T := TX2) (N := 16) hx hb hU inlX2 hown hK.1 hP 1 rfl rfl 0 (by decide) (hK.nf nF_X4_69) (fun _ h9 => h9) rfl dX4_wind_47 ?_
        refine lv_iload_n hx hb dX4_wind_50 rfl (lv_at hl 1 rfl) ?_
        refine lv_dup2_11 hx hb dX4_wind_51 rfl rfl ?_
        refine xa_lald hx hb hK.1 hP 2 1 rfl rfl (j := (tn ce)) (hcJ hn hc c_1).2 (by have := (hcJ hn hc c_1).1; omega) (by decide) dX4_wind_52 ?_
        refine lv_lload_n hx hb dX4_wind_53 rfl (lv_at hl 2 rfl) ?_
        refine lv_ladd hx hb dX4_wind_54 ?_
        refine xa_last hx hb hK.1 hP hD hS 2 1 rfl rfl (j := (tn ce)) (hcJ hn hc c_1).2 (by have := (hcJ hn hc c_1).1; omega) (by decide) dX4_wind_55 (fun H locs hP hD hS => ?_)
        have hP := pz_x_2 k a S T dr tr C F G (vp_updL (S_costs S) (tn ce) (((S_costs S) (tn ce)) + mv)) hP
        have hD := dz_x_2 k a S T dr tr C F G (vp_updL (S_costs S) (tn ce) (((S_costs S) (tn ce)) + mv)) hD
        refine lv_iconst (v := 1) hx hb dX4_wind_56 (by decide) ?_
        have hP9 : va_P k.1 vwCl (xW k a (w_X4_wind_S S ce mv) T dr tr C F G) H := by rw [w_X4_wind_S, if_neg c_1, if_neg c_2, if_neg c_3]; exact hP
        have hD9 : va_D A (xW k a (w_X4_wind_S S ce mv) T dr tr C F G) := by rw [w_X4_wind_S, if_neg c_1, if_neg c_2, if_neg c_3]; exact hD
        exact W.zret (v := 1) hx hb hr rfl (fun t ht hW => ⟨⟨by rw [w_X4_wind, if_neg c_1, if_neg c_2, if_neg c_3], by rw [ht]; exact hP9, hD9⟩, hS.F ht⟩) hS.2.2 dX4_wind_57
      · refine lv_iconst (v := 0) hx hb dX4_wind_41 (by decide) ?_
        have hP9 : va_P k.1 vwCl (xW k a (w_X4_wind_S S ce mv) T dr tr C F G) s.heap := by rw [w_X4_wind_S, if_neg c_1, if_neg c_2, if_pos c_3]; exact hP
        have hD9 : va_D A (xW k a (w_X4_wind_S S ce mv) T dr tr C F G) := by rw [w_X4_wind_S, if_neg c_1, if_neg c_2, if_pos c_3]; exact hD
        exact W.zret (v := 0) hx hb hr rfl (fun t ht hW => ⟨⟨by rw [w_X4_wind, if_neg c_1, if_neg c_2, if_pos c_3], by rw [ht]; exact hP9, hD9⟩, hS.F ht⟩) hS.2.2 dX4_wind_42
    · refine lv_iconst (v := 0) hx hb dX4_wind_21 (by decide) ?_
      have hP9 : va_P k.1 vwCl (xW k a (w_X4_wind_S S ce mv) T dr tr C F G) s.heap := by rw [w_X4_wind_S, if_neg c_1, if_pos c_2]; exact hP
      have hD9 : va_D A (xW k a (w_X4_wind_S S ce mv) T dr tr C F G) := by rw [w_X4_wind_S, if_neg c_1, if_pos c_2]; exact hD
      exact W.zret (v := 0) hx hb hr rfl (fun t ht hW => ⟨⟨by rw [w_X4_wind, if_neg c_1, if_pos c_2], by rw [ht]; exact hP9, hD9⟩, hS.F ht⟩) hS.2.2 dX4_wind_22

def w_X4_unlike (C : ChoT) (G : GoT) (cv : Int32) : Int32 := if cv < 0 then (-1) else if 24 < cv then (-1) else (w_bitCount (((C_cells C) ^^^ (G_cellsBefore G)) &&& ((1 <<< (cv &&& 31)) - 1)))
set_option maxHeartbeats 4000000 in
set_option maxRecDepth 100000 in
theorem c_X4_unlike (l : Launch) (k : KT) (a : Nat → Nat) (S : SeaT) (T : TalT) (dr : Int64) (tr : Int64) (C : ChoT) (F : (Nat → Int32)) (G : GoT) (cv : Int32) (n : Nat) (hn : n ≤ 24) (hc : S_cells S = nI n) : MR l yX4_unlike cX4_unlike 3 (some .int) (rz 1 20) k [.ref (a 0), .int cv] (xW k a S T dr tr C F G) (.int (w_X4_unlike C G cv)) := by
  refine Met.ofW (cc := cX4_unlike) (maxL := 3) (ret := (some .int)) (by decide) rfl ?_
  intro p e s m args below meth c s₁ B hml hv
  obtain ⟨rfl, hP, hK⟩ := hv
  have hx := B.exec
  have hb := B.bytes
  have hr := B.returns
  have hU : ∀ w ∈ wsL_law, w.before [.ref (a 0), .int cv].toArray s = true := fun w h => atoms_spec (ws := Cond.code yX4_unlike cX4_unlike 3 (some .int) :: wsL_law) B.pre w (List.mem_cons_of_mem _ h)
  have hown : s.vm.findClass RX4 = some m.cls := findClass_of_methodNamed B.named
  have hlocks := B.notSynchronized
  have hF : CF p m c cX4_unlike 3 s [.ref (a 0), .int cv].toArray RX4 := ⟨hx, hb, hml, hown, hU⟩
  have hl := lv_entry ([.ref (a 0), .int cv] : List Value) (n := 3) (Nat.le_of_ble_eq_true rfl)
  rw [lg_entry_eq]
  generalize (lg_sl ([.ref (a 0), .int cv] : List Value) ++ List.replicate (3 - (lg_sl ([.ref (a 0), .int cv] : List Value)).length) Slot.unset).toArray = ls at hl ⊢
  have hl : lv_has ls 3 [(0, .ref (a 0)), (1, .int cv)] := hl
  refine lv_iload_n hx hb dX4_unlike_0 rfl (lv_at hl 1 rfl) ?_
  refine lv_if_lt (tgt := 10) hx hb dX4_unlike_1 (by decide) (fun c_1 => ?_) (fun c_1 => ?_)
  · refine lv_iconst (v := (-1)) hx hb dX4_unlike_10 (by decide) ?_
    exact W.iret (v := (-1)) hx hb hr (fun t ht hW => ⟨by rw [w_X4_unlike, if_pos c_1], ht⟩) (fun q h => absurd h List.not_mem_nil) dX4_unlike_11
  · refine lv_iload_n hx hb dX4_unlike_4 rfl (lv_at hl 1 rfl) ?_
    refine lv_bipush (v := 24) hx hb dX4_unlike_5 (by decide) ?_
    refine xb_le (tgt := 12) hx hb dX4_unlike_7 (by decide) (fun c_2 => ?_) (fun c_2 => ?_)
    · refine lv_iconst (v := 1) hx hb dX4_unlike_12 (by decide) ?_
      refine lv_iload_n hx hb dX4_unlike_13 rfl (lv_at hl 1 rfl) ?_
      refine lv_ishl hx hb dX4_unlike_14 ?_
      refine lv_iconst (v := 1) hx hb dX4_unlike_15 (by decide) ?_
      refine lv_isub hx hb dX4_unlike_16 ?_
      refine lv_istore_n (lv' := [(2, .int ((1 <<< (cv &&& 31)) - 1)), (0, .ref (a 0)), (1, .int cv)]) hx hb dX4_unlike_17 rfl hl (by decide) rfl (fun ls hl => ?_)
      refine lv_aload_n hx hb dX4_unlike_18 rfl (lv_at hl 1 rfl) ?_
      refine va_get (D := k.1) (ci := 4) (v := .ref (a 16)) (C := RX4) (T := TX4) (N := 10) hx hb hU inlX4 hown hK.1 hP 0 rfl rfl 4 (by decide) (hU _ uF_X4_42) (fun _ h9 => h9) rfl dX4_unlike_19 ?_
      refine va_getN (D := k.1) (ci := 0) (v := .int (C_cells C)) (C := RX0) (T := TX0) (N := 3) hx hb hU inlX0 hown hK.1 hP 16 rfl rfl 1 (by decide) (hK.nf nF_X4_119) (fun _ h9 => h9) rfl dX4_unlike_22 ?_
      refine lv_aload_n hx hb dX4_unlike_25 rfl (lv_at hl 1 rfl) ?_
      refine va_get (D := k.1) (ci := 4) (v := .int (G_cellsBefore G)) (C := RX4) (T := TX4) (N := 10) hx hb hU inlX4 hown hK.1 hP 0 rfl rfl 6 (by decide) (hU _ uF_X4_133) (fun _ h9 => h9) rfl dX4_unlike_26 ?_
      refine lv_ixor hx hb dX4_unlike_29 ?_
      refine lv_iload_n hx hb dX4_unlike_30 rfl (lv_at hl 0 rfl) ?_
      refine lv_iand hx hb dX4_unlike_31 ?_
      refine rcS (n := 1) (As := [.int (((C_cells C) ^^^ (G_cellsBefore G)) &&& ((1 <<< (cv &&& 31)) - 1))]) (rest := []) hF (c_J6_bitCount_0f7a4 l k (((C_cells C) ^^^ (G_cellsBefore G)) &&& ((1 <<< (cv &&& 31)) - 1))) (hP.sub (ws' := []) [] rfl) hK uC_J6_bitCount_0f7a4 uN_J6 uM_X4_142 uS_J6_bitCount_0f7a4 (by decide +kernel) rfl ⟨Nat.le_of_ble_eq_true rfl, Nat.le_of_ble_eq_true rfl⟩ ⟨Nat.zero_le _, Nat.zero_le _⟩ hl.1 rfl (Nat.le_of_ble_eq_true rfl) dX4_unlike_32 ?_
      exact W.iret (v := (w_bitCount (((C_cells C) ^^^ (G_cellsBefore G)) &&& ((1 <<< (cv &&& 31)) - 1)))) hx hb hr (fun t ht hW => ⟨by rw [w_X4_unlike, if_neg c_1, if_neg c_2], ht⟩) (fun q h => absurd h List.not_mem_nil) dX4_unlike_35
    · refine lv_iconst (v := (-1)) hx hb dX4_unlike_10 (by decide) ?_
      exact W.iret (v := (-1)) hx hb hr (fun t ht hW => ⟨by rw [w_X4_unlike, if_neg c_1, if_pos c_2], ht⟩) (fun q h => absurd h List.not_mem_nil) dX4_unlike_11

def w_X4_far (S : SeaT) (ca : Int32) (cb : Int32) (most : Int32) : Int32 := if (w_X2_hasPair S ca cb) = 0 then 0 else if most < 0 then 1 else 1
def w_X4_far_S (S : SeaT) (ca : Int32) (cb : Int32) (most : Int32) : SeaT := if (w_X2_hasPair S ca cb) = 0 then S else if most < 0 then (sS_tooFar (sS_tooFar S (upd (S_tooFar S) (tn ca) (((S_tooFar S) (tn ca)) ||| (1 <<< (cb &&& 31))))) (upd (S_tooFar (sS_tooFar S (upd (S_tooFar S) (tn ca) (((S_tooFar S) (tn ca)) ||| (1 <<< (cb &&& 31)))))) (tn cb) (((S_tooFar (sS_tooFar S (upd (S_tooFar S) (tn ca) (((S_tooFar S) (tn ca)) ||| (1 <<< (cb &&& 31)))))) (tn cb)) ||| (1 <<< (ca &&& 31))))) else (sS_tooFar (sS_tooFar S (upd (S_tooFar S) (tn ca) (((S_tooFar S) (tn ca)) &&& ((1 <<< (cb &&& 31)) ^^^ (-1))))) (upd (S_tooFar (sS_tooFar S (upd (S_tooFar S) (tn ca) (((S_tooFar S) (tn ca)) &&& ((1 <<< (cb &&& 31)) ^^^ (-1)))))) (tn cb) (((S_tooFar (sS_tooFar S (upd (S_tooFar S) (tn ca) (((S_tooFar S) (tn ca)) &&& ((1 <<< (cb &&& 31)) ^^^ (-1)))))) (tn cb)) &&& ((1 <<< (ca &&& 31)) ^^^ (-1)))))
set_option maxHeartbeats 4000000 in
set_option maxRecDepth 100000 in
theorem c_X4_far (l : Launch) (k : KT) (a : Nat → Nat) (S : SeaT) (T : TalT) (dr : Int64) (tr : Int64) (C : ChoT) (F : (Nat → Int32)) (G : GoT) (ca : Int32) (cb : Int32) (most : Int32) (n : Nat) (hn : n ≤ 24) (hc : S_cells S = nI n) : MW l yX4_far cX4_far 4 (some .boolean) (rz 2 43) k [.ref (a 0), .int ca, .int cb, .int most] (xW k a S T dr tr C F G) (some (.int (w_X4_far S ca cb most))) (xW k a (w_X4_far_S S ca cb most) T dr tr C F G) := by
  intro sz
  refine Met.ofW (cc := cX4_far) (maxL := 4) (ret := (some .boolean)) (by decide) rfl ?_
  intro p e s m args below meth c s₁ B hml hv
  obtain ⟨rfl, hsz, hP, hK, hD0⟩ := hv
  have hx := B.exec
  have hb := B.bytes
  have hr := B.returns
  have hU : ∀ w ∈ wsL_law, w.before [.ref (a 0), .int ca, .int cb, .int most].toArray s = true := fun w h => atoms_spec (ws := Cond.code yX4_far cX4_far 4 (some .boolean) :: wsL_law) B.pre w (List.mem_cons_of_mem _ h)
  have hown : s.vm.findClass RX4 = some m.cls := findClass_of_methodNamed B.named
  have hlocks := B.notSynchronized
  have hF : CF p m c cX4_far 4 s [.ref (a 0), .int ca, .int cb, .int most].toArray RX4 := ⟨hx, hb, hml, hown, hU⟩
  subst hsz
  have hD := hD0.self (sz := s.heap.size)
  generalize hAe : va_A (xW k a S T dr tr C F G) s.heap.size = A at hD ⊢
  have hA : ∀ q : Nat, s.heap.size ≤ q → A q := fun q h => by rw [← hAe]; exact Or.inr h
  have hS : va_S A s.heap s.heap [] := va_S.rf
  have hl := lv_entry ([.ref (a 0), .int ca, .int cb, .int most] : List Value) (n := 4) (Nat.le_of_ble_eq_true rfl)
  rw [lg_entry_eq]
  generalize (lg_sl ([.ref (a 0), .int ca, .int cb, .int most] : List Value) ++ List.replicate (4 - (lg_sl ([.ref (a 0), .int ca, .int cb, .int most] : List Value)).length) Slot.unset).toArray = ls at hl ⊢
  have hl : lv_has ls 4 [(0, .ref (a 0)), (1, .int ca), (2, .int cb), (3, .int most)] := hl
  refine lv_aload_n hx hb dX4_far_0 rfl (lv_at hl 0 rfl) ?_
  refine va_get (D := k.1) (ci := 4) (v := .ref (a 1)) (C := RX4) (T := TX4) (N := 10) hx hb hU inlX4 hown hK.1 hP 0 rfl rfl 0 (by decide) (hU _ uF_X4_10) (fun _ h9 => h9) rfl dX4_far_1 ?_
  refine lv_iload_n hx hb dX4_far_4 rfl (lv_at hl 1 rfl) ?_
  refine lv_iload_n hx hb dX4_far_5 rfl (lv_at hl 2 rfl) ?_
  refine rcVN (n := 2) (As := [.int ca, .int cb]) (rest := []) hF (c_X2_hasPair l k a S T dr tr C F G ca cb ) (hP) hK 1 (ci := 2) rfl rfl rfl uC_X2_hasPair uN_X2 nM_X4_99 uI_X2_hasPair uE_X2_hasPair (by decide +kernel) rfl ⟨Nat.le_of_ble_eq_true rfl, Nat.le_of_ble_eq_true rfl⟩ ⟨Nat.zero_le _, Nat.zero_le _⟩ hl.1 rfl (Nat.le_of_ble_eq_true rfl) dX4_far_6 ?_
  refine lv_if_ne (tgt := 14) hx hb dX4_far_9 (by decide) (fun c_1 => ?_) (fun c_1 => ?_)
  · refine lv_iload_n hx hb dX4_far_14 rfl (lv_at hl 3 rfl) ?_
    refine xz_ge (tgt := 51) hx hb dX4_far_15 (by decide) (fun c_2 => ?_) (fun c_2 => ?_)
    · refine lv_aload_n hx hb dX4_far_51 rfl (lv_at hl 0 rfl) ?_
      refine va_get (D := k.1) (ci := 4) (v := .ref (a 1)) (C := RX4) (T := TX4) (N := 10) hx hb hU inlX4 hown hK.1 hP 0 rfl rfl 0 (by decide) (hU _ uF_X4_10) (fun _ h9 => h9) rfl dX4_far_52 ?_
      refine va_getN (D := k.1) (ci := 2) (v := .ref (a 6)) (C := RX2) (T := TX2) (N := 16) hx hb hU inlX2 hown hK.1 hP 1 rfl rfl 4 (by decide) (hK.nf nF_X4_217) (fun _ h9 => h9) rfl dX4_far_55 ?_
      refine lv_iload_n hx hb dX4_far_58 rfl (lv_at hl 1 rfl) ?_
      refine lv_dup2_11 hx hb dX4_far_59 rfl rfl ?_
      refine xa_iald hx hb hK.1 hP 6 0 rfl rfl (j := (tn ca)) (hpJ hn hc c_1).1.2 (by have := (hpJ hn hc c_1).1.1; omega) (by decide) dX4_far_60 ?_
      refine lv_iconst (v := 1) hx hb dX4_far_61 (by decide) ?_
      refine lv_iload_n hx hb dX4_far_62 rfl (lv_at hl 2 rfl) ?_
      refine lv_ishl hx hb dX4_far_63 ?_
      refine lv_iconst (v := (-1)) hx hb dX4_far_64 (by decide) ?_
      refine lv_ixor hx hb dX4_far_65 ?_
      refine lv_iand hx hb dX4_far_66 ?_
      refine xa_iast hx hb hK.1 hP hD hS 6 0 rfl rfl (j := (tn ca)) (hpJ hn hc c_1).1.2 (by have := (hpJ hn hc c_1).1.1; omega) (by decide) dX4_far_67 (fun H locs hP hD hS => ?_)
      have hP := pz_x_6 k a S T dr tr C F G (upd (S_tooFar S) (tn ca) (((S_tooFar S) (tn ca)) &&& ((1 <<< (cb &&& 31)) ^^^ (-1)))) hP
      have hD := dz_x_6 k a S T dr tr C F G (upd (S_tooFar S) (tn ca) (((S_tooFar S) (tn ca)) &&& ((1 <<< (cb &&& 31)) ^^^ (-1)))) hD
      refine lv_aload_n hx hb dX4_far_68 rfl (lv_at hl 0 rfl) ?_
      refine va_get (D := k.1) (ci := 4) (v := .ref (a 1)) (C := RX4) (T := TX4) (N := 10) hx hb hU inlX4 hown hK.1 hP 0 rfl rfl 0 (by decide) (hU _ uF_X4_10) (fun _ h9 => h9) rfl dX4_far_69 ?_
      refine va_getN (D := k.1) (ci := 2) (v := .ref (a 6)) (C := RX2) (T := TX2) (N := 16) hx hb hU inlX2 hown hK.1 hP 1 rfl rfl 4 (by decide) (hK.nf nF_X4_217) (fun _ h9 => h9) rfl dX4_far_72 ?_
      refine lv_iload_n hx hb dX4_far_75 rfl (lv_at hl 2 rfl) ?_
      refine lv_dup2_11 hx hb dX4_far_76 rfl rfl ?_
      refine xa_iald hx hb hK.1 hP 6 0 rfl rfl (j := (tn cb)) (hpJ hn hc c_1).2.2 (by have := (hpJ hn hc c_1).2.1; omega) (by decide) dX4_far_77 ?_
      refine lv_iconst (v := 1) hx hb dX4_far_78 (by decide) ?_
      refine lv_iload_n hx hb dX4_far_79 rfl (lv_at hl 1 rfl) ?_
      refine lv_ishl hx hb dX4_far_80 ?_
      refine lv_iconst (v := (-1)) hx hb dX4_far_81 (by decide) ?_
      refine lv_ixor hx hb dX4_far_82 ?_
      refine lv_iand hx hb dX4_far_83 ?_
      refine xa_iast hx hb hK.1 hP hD hS 6 0 rfl rfl (j := (tn cb)) (hpJ hn hc c_1).2.2 (by have := (hpJ hn hc c_1).2.1; omega) (by decide) dX4_far_84 (fun H locs hP hD hS => ?_)
      have hP := pz_x_6 k a (sS_tooFar S (upd (S_tooFar S) (tn ca) (((S_tooFar S) (tn ca)) &&& ((1 <<< (cb &&& 31)) ^^^ (-1))))) T dr tr C F G (upd (S_tooFar (sS_tooFar S (upd (S_tooFar S) (tn ca) (((S_tooFar S) (tn ca)) &&& ((1 <<< (cb &&& 31)) ^^^ (-1)))))) (tn cb) (((S_tooFar (sS_tooFar S (upd (S_tooFar S) (tn ca) (((S_tooFar S) (tn ca)) &&& ((1 <<< (cb &&& 31)) ^^^ (-1)))))) (tn cb)) &&& ((1 <<< (ca &&& 31)) ^^^ (-1)))) hP
      have hD := dz_x_6 k a (sS_tooFar S (upd (S_tooFar S) (tn ca) (((S_tooFar S) (tn ca)) &&& ((1 <<< (cb &&& 31)) ^^^ (-1))))) T dr tr C F G (upd (S_tooFar (sS_tooFar S (upd (S_tooFar S) (tn ca) (((S_tooFar S) (tn ca)) &&& ((1 <<< (cb &&& 31)) ^^^ (-1)))))) (tn cb) (((S_tooFar (sS_tooFar S (upd (S_tooFar S) (tn ca) (((S_tooFar S) (tn ca)) &&& ((1 <<< (cb &&& 31)) ^^^ (-1)))))) (tn cb)) &&& ((1 <<< (ca &&& 31)) ^^^ (-1)))) hD
      refine lv_iconst (v := 1) hx hb dX4_far_85 (by decide) ?_
      have hP9 : va_P k.1 vwCl (xW k a (w_X4_far_S S ca cb most) T dr tr C F G) H := by rw [w_X4_far_S, if_neg c_1, if_neg c_2]; exact hP
      have hD9 : va_D A (xW k a (w_X4_far_S S ca cb most) T dr tr C F G) := by rw [w_X4_far_S, if_neg c_1, if_neg c_2]; exact hD
      exact W.zret (v := 1) hx hb hr rfl (fun t ht hW => ⟨⟨by rw [w_X4_far, if_neg c_1, if_neg c_2], by rw [ht]; exact hP9, hD9⟩, hS.F ht⟩) hS.2.2 dX4_far_86
    · refine lv_aload_n hx hb dX4_far_18 rfl (lv_at hl 0 rfl) ?_
      refine va_get (D := k.1) (ci := 4) (v := .ref (a 1)) (C := RX4) (T := TX4) (N := 10) hx hb hU inlX4 hown hK.1 hP 0 rfl rfl 0 (by decide) (hU _ uF_X4_10) (fun _ h9 => h9) rfl dX4_far_19 ?_
      refine va_getN (D := k.1) (ci := 2) (v := .ref (a 6)) (C := RX2) (T := TX2) (N := 16) hx hb hU inlX2 hown hK.1 hP 1 rfl rfl 4 (by decide) (hK.nf nF_X4_217) (fun _ h9 => h9) rfl dX4_far_22 ?_
      refine lv_iload_n hx hb dX4_far_25 rfl (lv_at hl 1 rfl) ?_
      refine lv_dup2_11 hx hb dX4_far_26 rfl rfl ?_
      refine xa_iald hx hb hK.1 hP 6 0 rfl rfl (j := (tn ca)) (hpJ hn hc c_1).1.2 (by have := (hpJ hn hc c_1).1.1; omega) (by decide) dX4_far_27 ?_
      refine lv_iconst (v := 1) hx hb dX4_far_28 (by decide) ?_
      refine lv_iload_n hx hb dX4_far_29 rfl (lv_at hl 2 rfl) ?_
      refine lv_ishl hx hb dX4_far_30 ?_
      refine lv_ior hx hb dX4_far_31 ?_
      refine xa_iast hx hb hK.1 hP hD hS 6 0 rfl rfl (j := (tn ca)) (hpJ hn hc c_1).1.2 (by have := (hpJ hn hc c_1).1.1; omega) (by decide) dX4_far_32 (fun H locs hP hD hS => ?_)
      have hP := pz_x_6 k a S T dr tr C F G (upd (S_tooFar S) (tn ca) (((S_tooFar S) (tn ca)) ||| (1 <<< (cb &&& 31)))) hP
      have hD := dz_x_6 k a S T dr tr C F G (upd (S_tooFar S) (tn ca) (((S_tooFar S) (tn ca)) ||| (1 <<< (cb &&& 31)))) hD
      refine lv_aload_n hx hb dX4_far_33 rfl (lv_at hl 0 rfl) ?_
      refine va_get (D := k.1) (ci := 4) (v := .ref (a 1)) (C := RX4) (T := TX4) (N := 10) hx hb hU inlX4 hown hK.1 hP 0 rfl rfl 0 (by decide) (hU _ uF_X4_10) (fun _ h9 => h9) rfl dX4_far_34 ?_
      refine va_getN (D := k.1) (ci := 2) (v := .ref (a 6)) (C := RX2) (T := TX2) (N := 16) hx hb hU inlX2 hown hK.1 hP 1 rfl rfl 4 (by decide) (hK.nf nF_X4_217) (fun _ h9 => h9) rfl dX4_far_37 ?_
      refine lv_iload_n hx hb dX4_far_40 rfl (lv_at hl 2 rfl) ?_
      refine lv_dup2_11 hx hb dX4_far_41 rfl rfl ?_
      refine xa_iald hx hb hK.1 hP 6 0 rfl rfl (j := (tn cb)) (hpJ hn hc c_1).2.2 (by have := (hpJ hn hc c_1).2.1; omega) (by decide) dX4_far_42 ?_
      refine lv_iconst (v := 1) hx hb dX4_far_43 (by decide) ?_
      refine lv_iload_n hx hb dX4_far_44 rfl (lv_at hl 1 rfl) ?_
      refine lv_ishl hx hb dX4_far_45 ?_
      refine lv_ior hx hb dX4_far_46 ?_
      refine xa_iast hx hb hK.1 hP hD hS 6 0 rfl rfl (j := (tn cb)) (hpJ hn hc c_1).2.2 (by have := (hpJ hn hc c_1).2.1; omega) (by decide) dX4_far_47 (fun H locs hP hD hS => ?_)
      have hP := pz_x_6 k a (sS_tooFar S (upd (S_tooFar S) (tn ca) (((S_tooFar S) (tn ca)) ||| (1 <<< (cb &&& 31))))) T dr tr C F G (upd (S_tooFar (sS_tooFar S (upd (S_tooFar S) (tn ca) (((S_tooFar S) (tn ca)) ||| (1 <<< (cb &&& 31)))))) (tn cb) (((S_tooFar (sS_tooFar S (upd (S_tooFar S) (tn ca) (((S_tooFar S) (tn ca)) ||| (1 <<< (cb &&& 31)))))) (tn cb)) ||| (1 <<< (ca &&& 31)))) hP
      have hD := dz_x_6 k a (sS_tooFar S (upd (S_tooFar S) (tn ca) (((S_tooFar S) (tn ca)) ||| (1 <<< (cb &&& 31))))) T dr tr C F G (upd (S_tooFar (sS_tooFar S (upd (S_tooFar S) (tn ca) (((S_tooFar S) (tn ca)) ||| (1 <<< (cb &&& 31)))))) (tn cb) (((S_tooFar (sS_tooFar S (upd (S_tooFar S) (tn ca) (((S_tooFar S) (tn ca)) ||| (1 <<< (cb &&& 31)))))) (tn cb)) ||| (1 <<< (ca &&& 31)))) hD
      refine lv_goto (tgt := 85) hx hb dX4_far_48 (by decide) ?_
      refine lv_iconst (v := 1) hx hb dX4_far_85 (by decide) ?_
      have hP9 : va_P k.1 vwCl (xW k a (w_X4_far_S S ca cb most) T dr tr C F G) H := by rw [w_X4_far_S, if_neg c_1, if_pos c_2]; exact hP
      have hD9 : va_D A (xW k a (w_X4_far_S S ca cb most) T dr tr C F G) := by rw [w_X4_far_S, if_neg c_1, if_pos c_2]; exact hD
      exact W.zret (v := 1) hx hb hr rfl (fun t ht hW => ⟨⟨by rw [w_X4_far, if_neg c_1, if_pos c_2], by rw [ht]; exact hP9, hD9⟩, hS.F ht⟩) hS.2.2 dX4_far_86
  · refine lv_iconst (v := 0) hx hb dX4_far_12 (by decide) ?_
    have hP9 : va_P k.1 vwCl (xW k a (w_X4_far_S S ca cb most) T dr tr C F G) s.heap := by rw [w_X4_far_S, if_pos c_1]; exact hP
    have hD9 : va_D A (xW k a (w_X4_far_S S ca cb most) T dr tr C F G) := by rw [w_X4_far_S, if_pos c_1]; exact hD
    exact W.zret (v := 0) hx hb hr rfl (fun t ht hW => ⟨⟨by rw [w_X4_far, if_pos c_1], by rw [ht]; exact hP9, hD9⟩, hS.F ht⟩) hS.2.2 dX4_far_13

def w_X4_tie (S : SeaT) (T : TalT) (C : ChoT) (kk : Int32) (n : Nat) : Int32 := if (C_there C) = 0 then (-1) else (w_X4_placeOfBit ((fe S n (w_X3_price S (bgT S T n (C_cells C) n)) (bgT S T n (C_cells C) n) n).2) kk)
def w_X4_tie_T (S : SeaT) (T : TalT) (C : ChoT) (n : Nat) : TalT := if (C_there C) = 0 then T else (fe S n (w_X3_price S (bgT S T n (C_cells C) n)) (bgT S T n (C_cells C) n) n).1
set_option maxHeartbeats 4000000 in
set_option maxRecDepth 100000 in
theorem c_X4_tie (l : Launch) (k : KT) (a : Nat → Nat) (S : SeaT) (T : TalT) (dr : Int64) (tr : Int64) (C : ChoT) (F : (Nat → Int32)) (G : GoT) (kk : Int32) (n : Nat) (hn : n ≤ 24) (hc : S_cells S = nI n) : MW l yX4_tie cX4_tie 2 (some .int) (rz 5 119) k [.ref (a 0), .int kk] (xW k a S T dr tr C F G) (some (.int (w_X4_tie S T C kk n))) (xW k a S (w_X4_tie_T S T C n) dr tr C F G) := by
  intro sz
  refine Met.ofW (cc := cX4_tie) (maxL := 2) (ret := (some .int)) (by decide) rfl ?_
  intro p e s m args below meth c s₁ B hml hv
  obtain ⟨rfl, hsz, hP, hK, hD0⟩ := hv
  have hx := B.exec
  have hb := B.bytes
  have hr := B.returns
  have hU : ∀ w ∈ wsL_law, w.before [.ref (a 0), .int kk].toArray s = true := fun w h => atoms_spec (ws := Cond.code yX4_tie cX4_tie 2 (some .int) :: wsL_law) B.pre w (List.mem_cons_of_mem _ h)
  have hown : s.vm.findClass RX4 = some m.cls := findClass_of_methodNamed B.named
  have hlocks := B.notSynchronized
  have hF : CF p m c cX4_tie 2 s [.ref (a 0), .int kk].toArray RX4 := ⟨hx, hb, hml, hown, hU⟩
  subst hsz
  have hD := hD0.self (sz := s.heap.size)
  generalize hAe : va_A (xW k a S T dr tr C F G) s.heap.size = A at hD ⊢
  have hA : ∀ q : Nat, s.heap.size ≤ q → A q := fun q h => by rw [← hAe]; exact Or.inr h
  have hS : va_S A s.heap s.heap [] := va_S.rf
  have hl := lv_entry ([.ref (a 0), .int kk] : List Value) (n := 2) (Nat.le_of_ble_eq_true rfl)
  rw [lg_entry_eq]
  generalize (lg_sl ([.ref (a 0), .int kk] : List Value) ++ List.replicate (2 - (lg_sl ([.ref (a 0), .int kk] : List Value)).length) Slot.unset).toArray = ls at hl ⊢
  have hl : lv_has ls 2 [(0, .ref (a 0)), (1, .int kk)] := hl
  refine lv_aload_n hx hb dX4_tie_0 rfl (lv_at hl 0 rfl) ?_
  refine va_get (D := k.1) (ci := 4) (v := .ref (a 16)) (C := RX4) (T := TX4) (N := 10) hx hb hU inlX4 hown hK.1 hP 0 rfl rfl 4 (by decide) (hU _ uF_X4_42) (fun _ h9 => h9) rfl dX4_tie_1 ?_
  refine va_getN (D := k.1) (ci := 0) (v := .int (C_there C)) (C := RX0) (T := TX0) (N := 3) hx hb hU inlX0 hown hK.1 hP 16 rfl rfl 0 (by decide) (hK.nf nF_X4_115) (fun _ h9 => h9) rfl dX4_tie_4 ?_
  refine lv_if_eq (tgt := 21) hx hb dX4_tie_7 (by decide) (fun c_1 => ?_) (fun c_1 => ?_)
  · refine lv_iconst (v := (-1)) hx hb dX4_tie_21 (by decide) ?_
    have hP9 : va_P k.1 vwCl (xW k a S (w_X4_tie_T S T C n) dr tr C F G) s.heap := by rw [w_X4_tie_T, if_pos c_1]; exact hP
    have hD9 : va_D A (xW k a S (w_X4_tie_T S T C n) dr tr C F G) := by rw [w_X4_tie_T, if_pos c_1]; exact hD
    exact W.iret (v := (-1)) hx hb hr (fun t ht hW => ⟨⟨by rw [w_X4_tie, if_pos c_1], by rw [ht]; exact hP9, hD9⟩, hS.F ht⟩) hS.2.2 dX4_tie_22
  · refine lv_aload_n hx hb dX4_tie_10 rfl (lv_at hl 0 rfl) ?_
    refine wcV (n := 0) (As := []) (rest := []) hF (c_X4_findExchangeable l k a S T dr tr C F G  n hn hc) hP hD hS hA hK 0 (ci := 4) rfl rfl rfl uC_X4_findExchangeable uN_X4 uM_X4_220 uI_X4_findExchangeable uE_X4_findExchangeable (by decide +kernel) rfl ⟨Nat.le_of_ble_eq_true rfl, Nat.le_of_ble_eq_true rfl⟩ ⟨Nat.zero_le _, Nat.zero_le _⟩ hl.1 rfl (Nat.le_of_ble_eq_true rfl) dX4_tie_11 (fun H locs hP hD hS => ?_)
    have hP : va_P k.1 vwCl (xW k a S (fe S n (w_X3_price S (bgT S T n (C_cells C) n)) (bgT S T n (C_cells C) n) n).1 dr tr C F G) H := hP
    have hD : va_D A (xW k a S (fe S n (w_X3_price S (bgT S T n (C_cells C) n)) (bgT S T n (C_cells C) n) n).1 dr tr C F G) := hD
    refine lv_iload_n hx hb dX4_tie_14 rfl (lv_at hl 1 rfl) ?_
    refine rcS (n := 2) (As := [.int ((fe S n (w_X3_price S (bgT S T n (C_cells C) n)) (bgT S T n (C_cells C) n) n).2), .int kk]) (rest := []) hF (c_X4_placeOfBit l k  ((fe S n (w_X3_price S (bgT S T n (C_cells C) n)) (bgT S T n (C_cells C) n) n).2) kk ) (hP.sub (ws' := []) [] rfl) hK uC_X4_placeOfBit uN_X4 uM_X4_172 uS_X4_placeOfBit (by decide +kernel) rfl ⟨Nat.le_of_ble_eq_true rfl, Nat.le_of_ble_eq_true rfl⟩ ⟨Nat.zero_le _, Nat.zero_le _⟩ hl.1 rfl (Nat.le_of_ble_eq_true rfl) dX4_tie_15 ?_
    refine lv_goto (tgt := 22) hx hb dX4_tie_18 (by decide) ?_
    have hP9 : va_P k.1 vwCl (xW k a S (w_X4_tie_T S T C n) dr tr C F G) H := by rw [w_X4_tie_T, if_neg c_1]; exact hP
    have hD9 : va_D A (xW k a S (w_X4_tie_T S T C n) dr tr C F G) := by rw [w_X4_tie_T, if_neg c_1]; exact hD
    exact W.iret (v := (w_X4_placeOfBit ((fe S n (w_X3_price S (bgT S T n (C_cells C) n)) (bgT S T n (C_cells C) n) n).2) kk)) hx hb hr (fun t ht hW => ⟨⟨by rw [w_X4_tie, if_neg c_1], by rw [ht]; exact hP9, hD9⟩, hS.F ht⟩) hS.2.2 dX4_tie_22
