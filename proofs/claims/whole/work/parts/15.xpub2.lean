def cq (q : Nat → Bool) : Nat → Nat
  | 0 => 0
  | i + 1 => if q i then cq q i + 1 else cq q i
theorem cq_le (q : Nat → Bool) (i : Nat) : cq q i ≤ i := by
  induction i with
  | zero => exact Nat.le_refl 0
  | succ i ih =>
    rw [cq]
    split <;> omega
theorem cq_flat {q : Nat → Bool} {i m : Nat} (him : i ≤ m) (h : ∀ j, i ≤ j → j < m → q j = false) : cq q m = cq q i := by
  induction m with
  | zero => rw [show i = 0 by omega]
  | succ m ih =>
    rcases Nat.lt_or_ge i (m + 1) with h1 | h1
    · rw [cq, h m (by omega) (by omega), ih (by omega) (fun j h2 h3 => h j h2 (by omega))]
      rfl
    · rw [show i = m + 1 by omega]
def q_zone (S : SeaT) (C : ChoT) (z q : Nat) : Nat → Bool := fun c => decide (c % 4 = z) && bt (C_cells C) c && decide (0 < S_amounts S (c * 8 + q))
theorem zc_step (S : SeaT) (C : ChoT) {z q i : Nat} (hi : i % 4 = z) : cq (q_zone S C z q) (i + 4) = if bt (C_cells C) i && decide (0 < S_amounts S (i * 8 + q)) then cq (q_zone S C z q) i + 1 else cq (q_zone S C z q) i := by
  rw [cq_flat (i := i + 1) (by omega) (fun j h1 h2 => by simp [q_zone]; intro h3; omega), cq]
  simp [q_zone, hi]
theorem zc_exit (S : SeaT) (C : ChoT) {z q i n : Nat} (hi : i % 4 = z) (h1 : n ≤ i) (h2 : i < n + 4) : cq (q_zone S C z q) i = cq (q_zone S C z q) n := cq_flat h1 (fun j h3 h4 => by simp [q_zone]; intro h5; omega)
theorem zc_0 (S : SeaT) (C : ChoT) {z q : Nat} (hz : z < 4) : cq (q_zone S C z q) z = 0 := cq_flat (Nat.zero_le z) (fun j h3 h4 => by simp [q_zone]; intro h5; omega)
def w_X4_zone (S : SeaT) (C : ChoT) (z2 ki : Int32) (n : Nat) : Int32 := if z2 < 0 then (-1) else if z2 < 4 then (if (w_isKind ki) = 0 then (-1) else if (C_there C) = 0 then (-1) else nI (cq (q_zone S C (tn z2) (tn ki)) n)) else (-1)

set_option maxHeartbeats 4000000 in
set_option maxRecDepth 100000 in
theorem c_X4_zone (l : Launch) (k : KT) (a : Nat → Nat) (S : SeaT) (T : TalT) (dr : Int64) (tr : Int64) (C : ChoT) (F : (Nat → Int32)) (G : GoT) (z2 : Int32) (ki : Int32) (n : Nat) (hn : n ≤ 24) (hc : S_cells S = nI n) : MR l yX4_zone cX4_zone 5 (some .int) (rz 1 21) k [.ref (a 0), .int z2, .int ki] (xW k a S T dr tr C F G) (.int (w_X4_zone S C z2 ki n)) := by
  refine Met.ofW (cc := cX4_zone) (maxL := 5) (ret := (some .int)) (by decide) rfl ?_
  intro p e s m args below meth c s₁ B hml hv
  obtain ⟨rfl, hP, hK⟩ := hv
  have hx := B.exec
  have hb := B.bytes
  have hr := B.returns
  have hU : ∀ w ∈ wsL_law, w.before [.ref (a 0), .int z2, .int ki].toArray s = true := fun w h => atoms_spec (ws := Cond.code yX4_zone cX4_zone 5 (some .int) :: wsL_law) B.pre w (List.mem_cons_of_mem _ h)
  have hown : s.vm.findClass RX4 = some m.cls := findClass_of_methodNamed B.named
  have hlocks := B.notSynchronized
  have hF : CF p m c cX4_zone 5 s [.ref (a 0), .int z2, .int ki].toArray RX4 := ⟨hx, hb, hml, hown, hU⟩
  have hl := lv_entry ([.ref (a 0), .int z2, .int ki] : List Value) (n := 5) (Nat.le_of_ble_eq_true rfl)
  rw [lg_entry_eq]
  generalize (lg_sl ([.ref (a 0), .int z2, .int ki] : List Value) ++ List.replicate (5 - (lg_sl ([.ref (a 0), .int z2, .int ki] : List Value)).length) Slot.unset).toArray = ls at hl ⊢
  have hl : lv_has ls 5 [(0, .ref (a 0)), (1, .int z2), (2, .int ki)] := hl
  refine lv_iload_n hx hb dX4_zone_0 rfl (lv_at hl 1 rfl) ?_
  refine lv_if_lt (tgt := 26) hx hb dX4_zone_1 (by decide) (fun c_1 => ?_) (fun c_1 => ?_)
  · refine lv_iconst (v := (-1)) hx hb dX4_zone_26 (by decide) ?_
    exact W.iret (v := (-1)) hx hb hr (fun t ht hW => ⟨by rw [w_X4_zone, if_pos c_1], ht⟩) (fun q h => absurd h List.not_mem_nil) dX4_zone_27
  · refine lv_iload_n hx hb dX4_zone_4 rfl (lv_at hl 1 rfl) ?_
    refine lv_iconst (v := 4) hx hb dX4_zone_5 (by decide) ?_
    refine xb_ge (tgt := 26) hx hb dX4_zone_6 (by decide) (fun c_2 => ?_) (fun c_2 => ?_)
    · refine lv_iconst (v := (-1)) hx hb dX4_zone_26 (by decide) ?_
      exact W.iret (v := (-1)) hx hb hr (fun t ht hW => ⟨by rw [w_X4_zone, if_neg c_1, if_neg c_2], ht⟩) (fun q h => absurd h List.not_mem_nil) dX4_zone_27
    · refine lv_iload_n hx hb dX4_zone_9 rfl (lv_at hl 2 rfl) ?_
      refine rcS (n := 1) (As := [.int ki]) (rest := []) hF (c_X4_isKind l k ki) (hP.sub (ws' := []) [] rfl) hK uC_X4_isKind uN_X4 uM_X4_77 uS_X4_isKind (by decide +kernel) rfl ⟨Nat.le_of_ble_eq_true rfl, Nat.le_of_ble_eq_true rfl⟩ ⟨Nat.zero_le _, Nat.zero_le _⟩ hl.1 rfl (Nat.le_of_ble_eq_true rfl) dX4_zone_10 ?_
      refine lv_if_eq (tgt := 26) hx hb dX4_zone_13 (by decide) (fun c_3 => ?_) (fun c_3 => ?_)
      · refine lv_iconst (v := (-1)) hx hb dX4_zone_26 (by decide) ?_
        exact W.iret (v := (-1)) hx hb hr (fun t ht hW => ⟨by rw [w_X4_zone, if_neg c_1, if_pos c_2, if_pos c_3], ht⟩) (fun q h => absurd h List.not_mem_nil) dX4_zone_27
      · refine lv_aload_n hx hb dX4_zone_16 rfl (lv_at hl 0 rfl) ?_
        refine va_get (D := k.1) (ci := 4) (v := .ref (a 16)) (C := RX4) (T := TX4) (N := 10) hx hb hU inlX4 hown hK.1 hP 0 rfl rfl 4 (by decide) (hU _ uF_X4_42) (fun _ h9 => h9) rfl dX4_zone_17 ?_
        refine va_getN (D := k.1) (ci := 0) (v := .int (C_there C)) (C := RX0) (T := TX0) (N := 3) hx hb hU inlX0 hown hK.1 hP 16 rfl rfl 0 (by decide) (hK.nf nF_X4_115) (fun _ h9 => h9) rfl dX4_zone_20 ?_
        refine lv_if_ne (tgt := 28) hx hb dX4_zone_23 (by decide) (fun c_4 => ?_) (fun c_4 => ?_)
        · refine lv_iconst (v := 0) hx hb dX4_zone_28 (by decide) ?_
          have hz := tn_of (x := z2) (n := 4) (by omega) c_1 (fun q => absurd c_2 (Int32.not_lt.mpr q))
          refine W.eq (g2 := F0 m 29 ls [.int (nI (cq (q_zone S C (tn z2) (tn ki)) (tn z2)))]) (by rw [zc_0 S C hz.1]; rfl) ?_
          refine lv_istore_n (lv' := [(3, .int (nI (cq (q_zone S C (tn z2) (tn ki)) (tn z2)))), (0, .ref (a 0)), (1, .int z2), (2, .int ki)]) hx hb dX4_zone_29 rfl hl (by decide) rfl (fun ls hl => ?_)
          refine lv_iload_n hx hb dX4_zone_30 rfl (lv_at hl 2 rfl) ?_
          refine W.eq (g2 := F0 m 31 ls [.int (nI (tn z2))]) (by rw [← hz.2]; try rfl) ?_
          refine lv_istore (lv' := [(4, .int (nI (tn z2))), (3, .int (nI (cq (q_zone S C (tn z2) (tn ki)) (tn z2)))), (0, .ref (a 0)), (1, .int z2), (2, .int ki)]) hx hb dX4_zone_31 hl (by decide) rfl (fun ls hl => ?_)
          have loop_i : ∀ (ri i : Nat), n ≤ i + ri * 4 → ∀ (ls : Array Slot) , lv_has ls 5 [(4, .int (nI i)), (3, .int (nI (cq (q_zone S C (tn z2) (tn ki)) i))), (0, .ref (a 0)), (1, .int z2), (2, .int ki)] → (i % 4 = tn z2 ∧ i < n + 4) → WR p l e s m below meth c yX4_zone cX4_zone 5 (some .int) (rz 1 21) [.ref (a 0), .int z2, .int ki] (.int (w_X4_zone S C z2 ki n)) (F0 m 33 ls []) := by
            intro ri
            induction ri with
            | zero =>
              intro i hi_i ls hl hv_i
              refine lv_iload hx hb dX4_zone_33 (lv_at hl 0 rfl) ?_
              refine lv_aload_n hx hb dX4_zone_35 rfl (lv_at hl 2 rfl) ?_
              refine va_get (D := k.1) (ci := 4) (v := .ref (a 1)) (C := RX4) (T := TX4) (N := 10) hx hb hU inlX4 hown hK.1 hP 0 rfl rfl 0 (by decide) (hU _ uF_X4_10) (fun _ h9 => h9) rfl dX4_zone_36 ?_
              refine va_getN (D := k.1) (ci := 2) (v := .int (S_cells S)) (C := RX2) (T := TX2) (N := 16) hx hb hU inlX2 hown hK.1 hP 1 rfl rfl 12 (by decide) (hK.nf nF_X4_60) (fun _ h9 => h9) rfl dX4_zone_39 ?_
              refine xb_ge (tgt := 89) hx hb dX4_zone_42 (by decide) (fun c_5 => ?_) (fun c9 => absurd c9 (by rw [hc]; exact nI_nlt (a := i) (b := n) (by omega) (by omega)))
              refine lv_iload_n hx hb dX4_zone_89 rfl (lv_at hl 1 rfl) ?_
              exact W.iret (v := (nI (cq (q_zone S C (tn z2) (tn ki)) i))) hx hb hr (fun t ht hW => ⟨by rw [w_X4_zone, if_neg c_1, if_pos c_2, if_neg c_3, if_neg c_4, zc_exit S C hv_i.1 (by omega) hv_i.2], ht⟩) (fun q h => absurd h List.not_mem_nil) dX4_zone_90
            | succ ri ih_i =>
              intro i hi_i ls hl hv_i
              refine lv_iload hx hb dX4_zone_33 (lv_at hl 0 rfl) ?_
              refine lv_aload_n hx hb dX4_zone_35 rfl (lv_at hl 2 rfl) ?_
              refine va_get (D := k.1) (ci := 4) (v := .ref (a 1)) (C := RX4) (T := TX4) (N := 10) hx hb hU inlX4 hown hK.1 hP 0 rfl rfl 0 (by decide) (hU _ uF_X4_10) (fun _ h9 => h9) rfl dX4_zone_36 ?_
              refine va_getN (D := k.1) (ci := 2) (v := .int (S_cells S)) (C := RX2) (T := TX2) (N := 16) hx hb hU inlX2 hown hK.1 hP 1 rfl rfl 12 (by decide) (hK.nf nF_X4_60) (fun _ h9 => h9) rfl dX4_zone_39 ?_
              refine xb_ge (tgt := 89) hx hb dX4_zone_42 (by decide) (fun c_6 => ?_) (fun c_6 => ?_)
              · refine lv_iload_n hx hb dX4_zone_89 rfl (lv_at hl 1 rfl) ?_
                exact W.iret (v := (nI (cq (q_zone S C (tn z2) (tn ki)) i))) hx hb hr (fun t ht hW => ⟨by rw [w_X4_zone, if_neg c_1, if_pos c_2, if_neg c_3, if_neg c_4, zc_exit S C hv_i.1 (Nat.not_lt.mp (fun q => c_6 (by rw [hc]; exact nI_lt q (by omega)))) hv_i.2], ht⟩) (fun q h => absurd h List.not_mem_nil) dX4_zone_90
              · have hin : i < n := (nI_ltI (a := i) (b := n) (by omega) (by omega)).mp (hc ▸ c_6)
                refine lv_aload_n hx hb dX4_zone_45 rfl (lv_at hl 2 rfl) ?_
                refine va_get (D := k.1) (ci := 4) (v := .ref (a 16)) (C := RX4) (T := TX4) (N := 10) hx hb hU inlX4 hown hK.1 hP 0 rfl rfl 4 (by decide) (hU _ uF_X4_42) (fun _ h9 => h9) rfl dX4_zone_46 ?_
                refine va_getN (D := k.1) (ci := 0) (v := .int (C_cells C)) (C := RX0) (T := TX0) (N := 3) hx hb hU inlX0 hown hK.1 hP 16 rfl rfl 1 (by decide) (hK.nf nF_X4_119) (fun _ h9 => h9) rfl dX4_zone_49 ?_
                refine lv_iload hx hb dX4_zone_52 (lv_at hl 0 rfl) ?_
                refine rcS (n := 2) (As := [.int (C_cells C), .int (nI i)]) (rest := []) hF (c_X4_hasBit l k (C_cells C) (nI i)) (hP.sub (ws' := []) [] rfl) hK uC_X4_hasBit uN_X4 uM_X4_120 uS_X4_hasBit (by decide +kernel) rfl ⟨Nat.le_of_ble_eq_true rfl, Nat.le_of_ble_eq_true rfl⟩ ⟨Nat.zero_le _, Nat.zero_le _⟩ hl.1 rfl (Nat.le_of_ble_eq_true rfl) dX4_zone_54 ?_
                refine lv_if_eq (tgt := 83) hx hb dX4_zone_57 (by decide) (fun c_7 => ?_) (fun c_7 => ?_)
                · refine lv_iinc (v := nI (i + 4)) (lv' := [(4, .int (nI (i + 4))), (3, .int (nI (cq (q_zone S C (tn z2) (tn ki)) i))), (0, .ref (a 0)), (1, .int z2), (2, .int ki)]) hx hb dX4_zone_83 hl (k := 0) rfl (nI_add i 4) (by decide) rfl (fun ls hl => ?_)
                  refine lv_goto (tgt := 33) hx hb dX4_zone_86 (by decide) ?_
                  have eb : bt (C_cells C) i = false := (hb0 (C_cells C) (by omega)).mp c_7
                  have hq : (nI (cq (q_zone S C (tn z2) (tn ki)) i)) = (nI (cq (q_zone S C (tn z2) (tn ki)) (i + 4))) := by rw [zc_step S C hv_i.1]; simp [eb]
                  rw [hq] at hl
                  exact ih_i (i + 4) (by omega) ls (lv_sub hl [0, 1, 2, 3, 4] rfl) ⟨by omega, by omega⟩
                · refine lv_aload_n hx hb dX4_zone_60 rfl (lv_at hl 2 rfl) ?_
                  refine va_get (D := k.1) (ci := 4) (v := .ref (a 1)) (C := RX4) (T := TX4) (N := 10) hx hb hU inlX4 hown hK.1 hP 0 rfl rfl 0 (by decide) (hU _ uF_X4_10) (fun _ h9 => h9) rfl dX4_zone_61 ?_
                  refine va_getN (D := k.1) (ci := 2) (v := .ref (a 3)) (C := RX2) (T := TX2) (N := 16) hx hb hU inlX2 hown hK.1 hP 1 rfl rfl 1 (by decide) (hK.nf nF_X4_123) (fun _ h9 => h9) rfl dX4_zone_64 ?_
                  refine lv_iload hx hb dX4_zone_67 (lv_at hl 0 rfl) ?_
                  refine lv_bipush (v := 8) hx hb dX4_zone_69 (by decide) ?_
                  refine lv_imul hx hb dX4_zone_71 ?_
                  refine lv_iload_n hx hb dX4_zone_72 rfl (lv_at hl 4 rfl) ?_
                  refine lv_iadd hx hb dX4_zone_73 ?_
                  refine xa_lald hx hb hK.1 hP 3 1 rfl rfl (j := (i * 8 + (tn ki))) (by rw [← ix8, ← (kiJ c_3).2]) (by have := (kiJ c_3).1; omega) (by decide) dX4_zone_74 ?_
                  refine lv_lconst (v := 0) hx hb dX4_zone_75 (by decide) ?_
                  refine xl_le (tgt := 83) hx hb dX4_zone_76 dX4_zone_77 (by decide) (fun c_8 => ?_) (fun c_8 => ?_)
                  · refine lv_iinc (v := nI (i + 4)) (lv' := [(4, .int (nI (i + 4))), (3, .int (nI (cq (q_zone S C (tn z2) (tn ki)) i))), (0, .ref (a 0)), (1, .int z2), (2, .int ki)]) hx hb dX4_zone_83 hl (k := 0) rfl (nI_add i 4) (by decide) rfl (fun ls hl => ?_)
                    refine lv_goto (tgt := 33) hx hb dX4_zone_86 (by decide) ?_
                    have eb : bt (C_cells C) i = true := (hb1 (C_cells C) (by omega)).mp c_7
                    have hq : (nI (cq (q_zone S C (tn z2) (tn ki)) i)) = (nI (cq (q_zone S C (tn z2) (tn ki)) (i + 4))) := by rw [zc_step S C hv_i.1]; simp [eb, c_8]
                    rw [hq] at hl
                    exact ih_i (i + 4) (by omega) ls (lv_sub hl [0, 1, 2, 3, 4] rfl) ⟨by omega, by omega⟩
                  · refine lv_iinc (v := nI ((cq (q_zone S C (tn z2) (tn ki)) i) + 1)) (lv' := [(3, .int (nI ((cq (q_zone S C (tn z2) (tn ki)) i) + 1))), (4, .int (nI i)), (0, .ref (a 0)), (1, .int z2), (2, .int ki)]) hx hb dX4_zone_80 hl (k := 1) rfl (nI_add (cq (q_zone S C (tn z2) (tn ki)) i) 1) (by decide) rfl (fun ls hl => ?_)
                    refine lv_iinc (v := nI (i + 4)) (lv' := [(4, .int (nI (i + 4))), (3, .int (nI ((cq (q_zone S C (tn z2) (tn ki)) i) + 1))), (0, .ref (a 0)), (1, .int z2), (2, .int ki)]) hx hb dX4_zone_83 hl (k := 1) rfl (nI_add i 4) (by decide) rfl (fun ls hl => ?_)
                    refine lv_goto (tgt := 33) hx hb dX4_zone_86 (by decide) ?_
                    have eb : bt (C_cells C) i = true := (hb1 (C_cells C) (by omega)).mp c_7
                    have hq : nI ((cq (q_zone S C (tn z2) (tn ki)) i) + 1) = (nI (cq (q_zone S C (tn z2) (tn ki)) (i + 4))) := by rw [zc_step S C hv_i.1]; simp [eb, c_8]
                    rw [hq] at hl
                    exact ih_i (i + 4) (by omega) ls (lv_sub hl [0, 1, 2, 3, 4] rfl) ⟨by omega, by omega⟩
          exact loop_i n (tn z2) (by omega) ls (lv_sub hl [0, 1, 2, 3, 4] rfl) ⟨Nat.mod_eq_of_lt hz.1, by omega⟩
        · refine lv_iconst (v := (-1)) hx hb dX4_zone_26 (by decide) ?_
          exact W.iret (v := (-1)) hx hb hr (fun t ht hW => ⟨by rw [w_X4_zone, if_neg c_1, if_pos c_2, if_neg c_3, if_pos c_4], ht⟩) (fun q h => absurd h List.not_mem_nil) dX4_zone_27

def yr (S : SeaT) (C : ChoT) (ce : Int32) (j : Nat) : Nat → Nat
  | 0 => 0
  | i + 1 => if bt (C_cells C) i then (if w_X2_comesBefore S (nI i) ce i j = 0 then yr S C ce j i else yr S C ce j i + 1) else yr S C ce j i
def w_X4_year (S : SeaT) (C : ChoT) (ce : Int32) (n : Nat) : Int32 := if (w_hasCell (S_cells S) ce) = 0 then (-1) else if (w_hasBit (C_cells C) ce) = 0 then (-1) else nI (yr S C ce (tn ce) n) / 2

set_option maxHeartbeats 4000000 in
set_option maxRecDepth 100000 in
theorem c_X4_year (l : Launch) (k : KT) (a : Nat → Nat) (S : SeaT) (T : TalT) (dr : Int64) (tr : Int64) (C : ChoT) (F : (Nat → Int32)) (G : GoT) (ce : Int32) (n : Nat) (hn : n ≤ 24) (hc : S_cells S = nI n) : MR l yX4_year cX4_year 4 (some .int) (rz 1 22) k [.ref (a 0), .int ce] (xW k a S T dr tr C F G) (.int (w_X4_year S C ce n)) := by
  refine Met.ofW (cc := cX4_year) (maxL := 4) (ret := (some .int)) (by decide) rfl ?_
  intro p e s m args below meth c s₁ B hml hv
  obtain ⟨rfl, hP, hK⟩ := hv
  have hx := B.exec
  have hb := B.bytes
  have hr := B.returns
  have hU : ∀ w ∈ wsL_law, w.before [.ref (a 0), .int ce].toArray s = true := fun w h => atoms_spec (ws := Cond.code yX4_year cX4_year 4 (some .int) :: wsL_law) B.pre w (List.mem_cons_of_mem _ h)
  have hown : s.vm.findClass RX4 = some m.cls := findClass_of_methodNamed B.named
  have hlocks := B.notSynchronized
  have hF : CF p m c cX4_year 4 s [.ref (a 0), .int ce].toArray RX4 := ⟨hx, hb, hml, hown, hU⟩
  have hl := lv_entry ([.ref (a 0), .int ce] : List Value) (n := 4) (Nat.le_of_ble_eq_true rfl)
  rw [lg_entry_eq]
  generalize (lg_sl ([.ref (a 0), .int ce] : List Value) ++ List.replicate (4 - (lg_sl ([.ref (a 0), .int ce] : List Value)).length) Slot.unset).toArray = ls at hl ⊢
  have hl : lv_has ls 4 [(0, .ref (a 0)), (1, .int ce)] := hl
  refine lv_aload_n hx hb dX4_year_0 rfl (lv_at hl 0 rfl) ?_
  refine va_get (D := k.1) (ci := 4) (v := .ref (a 1)) (C := RX4) (T := TX4) (N := 10) hx hb hU inlX4 hown hK.1 hP 0 rfl rfl 0 (by decide) (hU _ uF_X4_10) (fun _ h9 => h9) rfl dX4_year_1 ?_
  refine lv_iload_n hx hb dX4_year_4 rfl (lv_at hl 1 rfl) ?_
  refine rcVN (n := 1) (As := [.int ce]) (rest := []) hF (c_X2_hasCell l k a S T dr tr C F G ce ) (hP) hK 1 (ci := 2) rfl rfl rfl uC_X2_hasCell uN_X2 nM_X4_73 uI_X2_hasCell uE_X2_hasCell (by decide +kernel) rfl ⟨Nat.le_of_ble_eq_true rfl, Nat.le_of_ble_eq_true rfl⟩ ⟨Nat.zero_le _, Nat.zero_le _⟩ hl.1 rfl (Nat.le_of_ble_eq_true rfl) dX4_year_5 ?_
  refine lv_if_eq (tgt := 25) hx hb dX4_year_8 (by decide) (fun c_1 => ?_) (fun c_1 => ?_)
  · refine lv_iconst (v := (-1)) hx hb dX4_year_25 (by decide) ?_
    exact W.iret (v := (-1)) hx hb hr (fun t ht hW => ⟨by rw [w_X4_year, if_pos c_1], ht⟩) (fun q h => absurd h List.not_mem_nil) dX4_year_26
  · refine lv_aload_n hx hb dX4_year_11 rfl (lv_at hl 0 rfl) ?_
    refine va_get (D := k.1) (ci := 4) (v := .ref (a 16)) (C := RX4) (T := TX4) (N := 10) hx hb hU inlX4 hown hK.1 hP 0 rfl rfl 4 (by decide) (hU _ uF_X4_42) (fun _ h9 => h9) rfl dX4_year_12 ?_
    refine va_getN (D := k.1) (ci := 0) (v := .int (C_cells C)) (C := RX0) (T := TX0) (N := 3) hx hb hU inlX0 hown hK.1 hP 16 rfl rfl 1 (by decide) (hK.nf nF_X4_119) (fun _ h9 => h9) rfl dX4_year_15 ?_
    refine lv_iload_n hx hb dX4_year_18 rfl (lv_at hl 1 rfl) ?_
    refine rcS (n := 2) (As := [.int (C_cells C), .int ce]) (rest := []) hF (c_X4_hasBit l k (C_cells C) ce) (hP.sub (ws' := []) [] rfl) hK uC_X4_hasBit uN_X4 uM_X4_120 uS_X4_hasBit (by decide +kernel) rfl ⟨Nat.le_of_ble_eq_true rfl, Nat.le_of_ble_eq_true rfl⟩ ⟨Nat.zero_le _, Nat.zero_le _⟩ hl.1 rfl (Nat.le_of_ble_eq_true rfl) dX4_year_19 ?_
    refine lv_if_ne (tgt := 27) hx hb dX4_year_22 (by decide) (fun c_2 => ?_) (fun c_2 => ?_)
    · refine lv_iconst (v := 0) hx hb dX4_year_27 (by decide) ?_
      refine lv_istore_n (lv' := [(2, .int 0), (0, .ref (a 0)), (1, .int ce)]) hx hb dX4_year_28 rfl hl (by decide) rfl (fun ls hl => ?_)
      refine lv_iconst (v := 0) hx hb dX4_year_29 (by decide) ?_
      refine lv_istore_n (lv' := [(3, .int 0), (2, .int 0), (0, .ref (a 0)), (1, .int ce)]) hx hb dX4_year_30 rfl hl (by decide) rfl (fun ls hl => ?_)
      have loop_i : ∀ (ri i : Nat), i + ri * 1 = n → ∀ (ls : Array Slot) , lv_has ls 4 [(3, .int (nI i)), (2, .int (nI (yr S C ce (tn ce) i))), (0, .ref (a 0)), (1, .int ce)] → WR p l e s m below meth c yX4_year cX4_year 4 (some .int) (rz 1 22) [.ref (a 0), .int ce] (.int (w_X4_year S C ce n)) (F0 m 31 ls []) := by
        intro ri
        induction ri with
        | zero =>
          intro i hi_i ls hl
          have he_i : n = i := by omega
          subst he_i
          refine lv_iload_n hx hb dX4_year_31 rfl (lv_at hl 0 rfl) ?_
          refine lv_aload_n hx hb dX4_year_32 rfl (lv_at hl 2 rfl) ?_
          refine va_get (D := k.1) (ci := 4) (v := .ref (a 1)) (C := RX4) (T := TX4) (N := 10) hx hb hU inlX4 hown hK.1 hP 0 rfl rfl 0 (by decide) (hU _ uF_X4_10) (fun _ h9 => h9) rfl dX4_year_33 ?_
          refine va_getN (D := k.1) (ci := 2) (v := .int (S_cells S)) (C := RX2) (T := TX2) (N := 16) hx hb hU inlX2 hown hK.1 hP 1 rfl rfl 12 (by decide) (hK.nf nF_X4_60) (fun _ h9 => h9) rfl dX4_year_36 ?_
          refine xb_ge (tgt := 77) hx hb dX4_year_39 (by decide) (fun c_3 => ?_) (fun c9 => absurd c9 (by rw [hc]; exact nI_nlt (a := n) (b := n) (Nat.le_refl _) (by omega)))
          refine lv_iload_n hx hb dX4_year_77 rfl (lv_at hl 1 rfl) ?_
          refine lv_iconst (v := 2) hx hb dX4_year_78 (by decide) ?_
          refine lv_idiv hx hb dX4_year_79 (by decide) ?_
          exact W.iret (v := ((nI (yr S C ce (tn ce) n)) / 2)) hx hb hr (fun t ht hW => ⟨by rw [w_X4_year, if_neg c_1, if_neg c_2], ht⟩) (fun q h => absurd h List.not_mem_nil) dX4_year_80
        | succ ri ih_i =>
          intro i hi_i ls hl
          have ht_i : i < n := by omega
          refine lv_iload_n hx hb dX4_year_31 rfl (lv_at hl 0 rfl) ?_
          refine lv_aload_n hx hb dX4_year_32 rfl (lv_at hl 2 rfl) ?_
          refine va_get (D := k.1) (ci := 4) (v := .ref (a 1)) (C := RX4) (T := TX4) (N := 10) hx hb hU inlX4 hown hK.1 hP 0 rfl rfl 0 (by decide) (hU _ uF_X4_10) (fun _ h9 => h9) rfl dX4_year_33 ?_
          refine va_getN (D := k.1) (ci := 2) (v := .int (S_cells S)) (C := RX2) (T := TX2) (N := 16) hx hb hU inlX2 hown hK.1 hP 1 rfl rfl 12 (by decide) (hK.nf nF_X4_60) (fun _ h9 => h9) rfl dX4_year_36 ?_
          refine xb_ge (tgt := 77) hx hb dX4_year_39 (by decide) (fun c9 => absurd (by rw [hc]; exact nI_lt (a := i) (b := n) (by omega) (by omega)) c9) (fun c_4 => ?_)
          refine lv_aload_n hx hb dX4_year_42 rfl (lv_at hl 2 rfl) ?_
          refine va_get (D := k.1) (ci := 4) (v := .ref (a 16)) (C := RX4) (T := TX4) (N := 10) hx hb hU inlX4 hown hK.1 hP 0 rfl rfl 4 (by decide) (hU _ uF_X4_42) (fun _ h9 => h9) rfl dX4_year_43 ?_
          refine va_getN (D := k.1) (ci := 0) (v := .int (C_cells C)) (C := RX0) (T := TX0) (N := 3) hx hb hU inlX0 hown hK.1 hP 16 rfl rfl 1 (by decide) (hK.nf nF_X4_119) (fun _ h9 => h9) rfl dX4_year_46 ?_
          refine lv_iload_n hx hb dX4_year_49 rfl (lv_at hl 0 rfl) ?_
          refine rcS (n := 2) (As := [.int (C_cells C), .int (nI i)]) (rest := []) hF (c_X4_hasBit l k (C_cells C) (nI i)) (hP.sub (ws' := []) [] rfl) hK uC_X4_hasBit uN_X4 uM_X4_120 uS_X4_hasBit (by decide +kernel) rfl ⟨Nat.le_of_ble_eq_true rfl, Nat.le_of_ble_eq_true rfl⟩ ⟨Nat.zero_le _, Nat.zero_le _⟩ hl.1 rfl (Nat.le_of_ble_eq_true rfl) dX4_year_50 ?_
          refine lv_if_eq (tgt := 71) hx hb dX4_year_53 (by decide) (fun c_5 => ?_) (fun c_5 => ?_)
          · refine lv_iinc (v := nI (i + 1)) (lv' := [(3, .int (nI (i + 1))), (2, .int (nI (yr S C ce (tn ce) i))), (0, .ref (a 0)), (1, .int ce)]) hx hb dX4_year_71 hl (k := 0) rfl (nI_add i 1) (by decide) rfl (fun ls hl => ?_)
            refine lv_goto (tgt := 31) hx hb dX4_year_74 (by decide) ?_
            have eb : bt (C_cells C) i = false := (hb0 (C_cells C) (by omega)).mp c_5
            have hq : (nI (yr S C ce (tn ce) i)) = (nI (yr S C ce (tn ce) (i + 1))) := by rw [yr, if_neg (by rw [eb]; decide)]
            rw [hq] at hl
            exact ih_i (i + 1) (by omega) ls (lv_sub hl [0, 1, 2, 3] rfl)
          · refine lv_aload_n hx hb dX4_year_56 rfl (lv_at hl 2 rfl) ?_
            refine va_get (D := k.1) (ci := 4) (v := .ref (a 1)) (C := RX4) (T := TX4) (N := 10) hx hb hU inlX4 hown hK.1 hP 0 rfl rfl 0 (by decide) (hU _ uF_X4_10) (fun _ h9 => h9) rfl dX4_year_57 ?_
            refine lv_iload_n hx hb dX4_year_60 rfl (lv_at hl 0 rfl) ?_
            refine lv_iload_n hx hb dX4_year_61 rfl (lv_at hl 3 rfl) ?_
            refine rcVN (n := 2) (As := [.int (nI i), .int ce]) (rest := []) hF (c_X2_comesBefore l k a S T dr tr C F G (nI i) ce i (tn ce) (by omega) (by have := (hcJ hn hc c_1).1; omega) rfl (hcJ hn hc c_1).2) (hP) hK 1 (ci := 2) rfl rfl rfl uC_X2_comesBefore uN_X2 nM_X4_212 uI_X2_comesBefore uE_X2_comesBefore (by decide +kernel) rfl ⟨Nat.le_of_ble_eq_true rfl, Nat.le_of_ble_eq_true rfl⟩ ⟨Nat.zero_le _, Nat.zero_le _⟩ hl.1 rfl (Nat.le_of_ble_eq_true rfl) dX4_year_62 ?_
            refine lv_if_eq (tgt := 71) hx hb dX4_year_65 (by decide) (fun c_6 => ?_) (fun c_6 => ?_)
            · refine lv_iinc (v := nI (i + 1)) (lv' := [(3, .int (nI (i + 1))), (2, .int (nI (yr S C ce (tn ce) i))), (0, .ref (a 0)), (1, .int ce)]) hx hb dX4_year_71 hl (k := 0) rfl (nI_add i 1) (by decide) rfl (fun ls hl => ?_)
              refine lv_goto (tgt := 31) hx hb dX4_year_74 (by decide) ?_
              have eb : bt (C_cells C) i = true := (hb1 (C_cells C) (by omega)).mp c_5
              have hq : (nI (yr S C ce (tn ce) i)) = (nI (yr S C ce (tn ce) (i + 1))) := by rw [yr, if_pos eb, if_pos c_6]
              rw [hq] at hl
              exact ih_i (i + 1) (by omega) ls (lv_sub hl [0, 1, 2, 3] rfl)
            · refine lv_iinc (v := nI ((yr S C ce (tn ce) i) + 1)) (lv' := [(2, .int (nI ((yr S C ce (tn ce) i) + 1))), (3, .int (nI i)), (0, .ref (a 0)), (1, .int ce)]) hx hb dX4_year_68 hl (k := 1) rfl (nI_add (yr S C ce (tn ce) i) 1) (by decide) rfl (fun ls hl => ?_)
              refine lv_iinc (v := nI (i + 1)) (lv' := [(3, .int (nI (i + 1))), (2, .int (nI ((yr S C ce (tn ce) i) + 1))), (0, .ref (a 0)), (1, .int ce)]) hx hb dX4_year_71 hl (k := 1) rfl (nI_add i 1) (by decide) rfl (fun ls hl => ?_)
              refine lv_goto (tgt := 31) hx hb dX4_year_74 (by decide) ?_
              have eb : bt (C_cells C) i = true := (hb1 (C_cells C) (by omega)).mp c_5
              have hq : nI ((yr S C ce (tn ce) i) + 1) = (nI (yr S C ce (tn ce) (i + 1))) := by rw [yr, if_pos eb, if_neg c_6]
              rw [hq] at hl
              exact ih_i (i + 1) (by omega) ls (lv_sub hl [0, 1, 2, 3] rfl)
      exact loop_i n 0 (by omega) ls (lv_sub hl [0, 1, 2, 3] rfl)
    · refine lv_iconst (v := (-1)) hx hb dX4_year_25 (by decide) ?_
      exact W.iret (v := (-1)) hx hb hr (fun t ht hW => ⟨by rw [w_X4_year, if_neg c_1, if_pos c_2], ht⟩) (fun q h => absurd h List.not_mem_nil) dX4_year_26

def w_X4_run (S : SeaT) (T : TalT) (C : ChoT) (nodes : Int64) (n : Nat) : Int32 := if nodes < (lh 1 (w_bitCount (w_X2_freeSet S))) then 2 else if 4096 < (lh 1 (w_bitCount (w_X2_freeSet S))) then 2 else if (C_there (sr S n (sr0 S (bgT S T n (w_X2_openSet S) n) (w_X0_clear_C C) n) (2 ^ cn (w_X2_freeSet S) n)).2) = 0 then 1 else 0
def w_X4_run_T (S : SeaT) (T : TalT) (C : ChoT) (nodes : Int64) (n : Nat) : TalT := if nodes < (lh 1 (w_bitCount (w_X2_freeSet S))) then (bgT S T n (w_X2_openSet S) n) else if 4096 < (lh 1 (w_bitCount (w_X2_freeSet S))) then (bgT S T n (w_X2_openSet S) n) else if (C_there (sr S n (sr0 S (bgT S T n (w_X2_openSet S) n) (w_X0_clear_C C) n) (2 ^ cn (w_X2_freeSet S) n)).2) = 0 then (sr S n (sr0 S (bgT S T n (w_X2_openSet S) n) (w_X0_clear_C C) n) (2 ^ cn (w_X2_freeSet S) n)).1 else (sr S n (sr0 S (bgT S T n (w_X2_openSet S) n) (w_X0_clear_C C) n) (2 ^ cn (w_X2_freeSet S) n)).1
def w_X4_run_C (S : SeaT) (T : TalT) (C : ChoT) (nodes : Int64) (n : Nat) : ChoT := if nodes < (lh 1 (w_bitCount (w_X2_freeSet S))) then (w_X0_clear_C C) else if 4096 < (lh 1 (w_bitCount (w_X2_freeSet S))) then (w_X0_clear_C C) else if (C_there (sr S n (sr0 S (bgT S T n (w_X2_openSet S) n) (w_X0_clear_C C) n) (2 ^ cn (w_X2_freeSet S) n)).2) = 0 then (sr S n (sr0 S (bgT S T n (w_X2_openSet S) n) (w_X0_clear_C C) n) (2 ^ cn (w_X2_freeSet S) n)).2 else (sr S n (sr0 S (bgT S T n (w_X2_openSet S) n) (w_X0_clear_C C) n) (2 ^ cn (w_X2_freeSet S) n)).2
def w_X4_run_F (S : SeaT) (T : TalT) (C : ChoT) (F : (Nat → Int32)) (nodes : Int64) (n : Nat) : (Nat → Int32) := if nodes < (lh 1 (w_bitCount (w_X2_freeSet S))) then F else if 4096 < (lh 1 (w_bitCount (w_X2_freeSet S))) then F else if (C_there (sr S n (sr0 S (bgT S T n (w_X2_openSet S) n) (w_X0_clear_C C) n) (2 ^ cn (w_X2_freeSet S) n)).2) = 0 then (lfF (w_X2_freeSet S) F n) else (lfF (w_X2_freeSet S) F n)
def w_X4_run_G (S : SeaT) (T : TalT) (C : ChoT) (G : GoT) (nodes : Int64) (n : Nat) : GoT := if nodes < (lh 1 (w_bitCount (w_X2_freeSet S))) then (sG_toldBound (sG_runAnswer (sG_cellsBefore (sG_clashingKinds G (fcl S (bgT S T n (w_X2_openSet S) n) 8)) (C_cells C)) 2) (sm (f_costsOf S (S_needed S)) n)) else if 4096 < (lh 1 (w_bitCount (w_X2_freeSet S))) then (sG_toldBound (sG_runAnswer (sG_cellsBefore (sG_clashingKinds G (fcl S (bgT S T n (w_X2_openSet S) n) 8)) (C_cells C)) 2) (sm (f_costsOf S (S_needed S)) n)) else if (C_there (sr S n (sr0 S (bgT S T n (w_X2_openSet S) n) (w_X0_clear_C C) n) (2 ^ cn (w_X2_freeSet S) n)).2) = 0 then (sG_toldBound (sG_runAnswer (sG_cellsBefore (sG_clashingKinds G (fcl S (bgT S T n (w_X2_openSet S) n) 8)) (C_cells C)) 1) (C_price (sr S n (sr0 S (bgT S T n (w_X2_openSet S) n) (w_X0_clear_C C) n) (2 ^ cn (w_X2_freeSet S) n)).2)) else (sG_toldBound (sG_runAnswer (sG_cellsBefore (sG_clashingKinds G (fcl S (bgT S T n (w_X2_openSet S) n) 8)) (C_cells C)) 0) (C_price (sr S n (sr0 S (bgT S T n (w_X2_openSet S) n) (w_X0_clear_C C) n) (2 ^ cn (w_X2_freeSet S) n)).2))
set_option maxHeartbeats 4000000 in
set_option maxRecDepth 100000 in
theorem c_X4_run (l : Launch) (k : KT) (a : Nat → Nat) (S : SeaT) (T : TalT) (dr : Int64) (tr : Int64) (C : ChoT) (F : (Nat → Int32)) (G : GoT) (nodes : Int64) (n : Nat) (hn : n ≤ 24) (hc : S_cells S = nI n) (hbc : ¬ 4096 < lh 1 (w_bitCount (w_X2_freeSet S)) → cn (w_X2_freeSet S) n ≤ 12) : MW l yX4_run cX4_run 5 (some .int) (rz 5 118) k [.ref (a 0), .long nodes] (xW k a S T dr tr C F G) (some (.int (w_X4_run S T C nodes n))) (xW k a S (w_X4_run_T S T C nodes n) dr tr (w_X4_run_C S T C nodes n) (w_X4_run_F S T C F nodes n) (w_X4_run_G S T C G nodes n)) := by
  intro sz
  refine Met.ofW (cc := cX4_run) (maxL := 5) (ret := (some .int)) (by decide) rfl ?_
  intro p e s m args below meth c s₁ B hml hv
  obtain ⟨rfl, hsz, hP, hK, hD0⟩ := hv
  have hx := B.exec
  have hb := B.bytes
  have hr := B.returns
  have hU : ∀ w ∈ wsL_law, w.before [.ref (a 0), .long nodes].toArray s = true := fun w h => atoms_spec (ws := Cond.code yX4_run cX4_run 5 (some .int) :: wsL_law) B.pre w (List.mem_cons_of_mem _ h)
  have hown : s.vm.findClass RX4 = some m.cls := findClass_of_methodNamed B.named
  have hlocks := B.notSynchronized
  have hF : CF p m c cX4_run 5 s [.ref (a 0), .long nodes].toArray RX4 := ⟨hx, hb, hml, hown, hU⟩
  subst hsz
  have hD := hD0.self (sz := s.heap.size)
  generalize hAe : va_A (xW k a S T dr tr C F G) s.heap.size = A at hD ⊢
  have hA : ∀ q : Nat, s.heap.size ≤ q → A q := fun q h => by rw [← hAe]; exact Or.inr h
  have hS : va_S A s.heap s.heap [] := va_S.rf
  have hl := lv_entry ([.ref (a 0), .long nodes] : List Value) (n := 5) (Nat.le_of_ble_eq_true rfl)
  rw [lg_entry_eq]
  generalize (lg_sl ([.ref (a 0), .long nodes] : List Value) ++ List.replicate (5 - (lg_sl ([.ref (a 0), .long nodes] : List Value)).length) Slot.unset).toArray = ls at hl ⊢
  have hl : lv_has ls 5 [(0, .ref (a 0)), (1, .long nodes)] := hl
  refine lv_aload_n hx hb dX4_run_0 rfl (lv_at hl 0 rfl) ?_
  refine lv_aload_n hx hb dX4_run_1 rfl (lv_at hl 0 rfl) ?_
  refine wcV (n := 0) (As := []) (rest := [.ref (a 0)]) hF (c_X4_findClashes l k a S T dr tr C F G  n hn hc) hP hD hS hA hK 0 (ci := 4) rfl rfl rfl uC_X4_findClashes uN_X4 uM_X4_126 uI_X4_findClashes uE_X4_findClashes (by decide +kernel) rfl ⟨Nat.le_of_ble_eq_true rfl, Nat.le_of_ble_eq_true rfl⟩ ⟨Nat.zero_le _, Nat.zero_le _⟩ hl.1 rfl (Nat.le_of_ble_eq_true rfl) dX4_run_2 (fun H locs hP hD hS => ?_)
  have hP : va_P k.1 vwCl (xW k a S (bgT S T n (w_X2_openSet S) n) dr tr C F G) H := hP
  have hD : va_D A (xW k a S (bgT S T n (w_X2_openSet S) n) dr tr C F G) := hD
  refine va_put (D := k.1) (ci := 4) (v := .int (fcl S (bgT S T n (w_X2_openSet S) n) 8)) (ty := .int) (C := RX4) (T := TX4) (N := 10) hx hb hU inlX4 tyX4 tyX4_ok nmX4 hown hK.1 hP hD hS 0 rfl rfl 9 (by decide) (hU _ uF_X4_130) (fun _ h9 => h9) rfl (by decide +kernel) rfl rfl (Nat.le_of_ble_eq_true rfl) dX4_run_5 (fun H locs hP hD hS => ?_)
  have hP := pz_x_0_9 k a S (bgT S T n (w_X2_openSet S) n) dr tr C F G (fcl S (bgT S T n (w_X2_openSet S) n) 8) hP
  have hD := dz_x_0_9 k a S (bgT S T n (w_X2_openSet S) n) dr tr C F G (fcl S (bgT S T n (w_X2_openSet S) n) 8) hD
  refine lv_aload_n hx hb dX4_run_8 rfl (lv_at hl 0 rfl) ?_
  refine lv_aload_n hx hb dX4_run_9 rfl (lv_at hl 0 rfl) ?_
  refine va_get (D := k.1) (ci := 4) (v := .ref (a 16)) (C := RX4) (T := TX4) (N := 10) hx hb hU inlX4 hown hK.1 hP 0 rfl rfl 4 (by decide) (hU _ uF_X4_42) (fun _ h9 => h9) rfl dX4_run_10 ?_
  refine va_getN (D := k.1) (ci := 0) (v := .int (C_cells C)) (C := RX0) (T := TX0) (N := 3) hx hb hU inlX0 hown hK.1 hP 16 rfl rfl 1 (by decide) (hK.nf nF_X4_119) (fun _ h9 => h9) rfl dX4_run_13 ?_
  refine va_put (D := k.1) (ci := 4) (v := .int (C_cells C)) (ty := .int) (C := RX4) (T := TX4) (N := 10) hx hb hU inlX4 tyX4 tyX4_ok nmX4 hown hK.1 hP hD hS 0 rfl rfl 6 (by decide) (hU _ uF_X4_133) (fun _ h9 => h9) rfl (by decide +kernel) rfl rfl (Nat.le_of_ble_eq_true rfl) dX4_run_16 (fun H locs hP hD hS => ?_)
  have hP := pz_x_0_6 k a S (bgT S T n (w_X2_openSet S) n) dr tr C F (sG_clashingKinds G (fcl S (bgT S T n (w_X2_openSet S) n) 8)) (C_cells C) hP
  have hD := dz_x_0_6 k a S (bgT S T n (w_X2_openSet S) n) dr tr C F (sG_clashingKinds G (fcl S (bgT S T n (w_X2_openSet S) n) 8)) (C_cells C) hD
  refine lv_aload_n hx hb dX4_run_19 rfl (lv_at hl 0 rfl) ?_
  refine va_get (D := k.1) (ci := 4) (v := .ref (a 16)) (C := RX4) (T := TX4) (N := 10) hx hb hU inlX4 hown hK.1 hP 0 rfl rfl 4 (by decide) (hU _ uF_X4_42) (fun _ h9 => h9) rfl dX4_run_20 ?_
  refine wcVN (n := 0) (As := []) (rest := []) hF (c_X0_clear l k a S (bgT S T n (w_X2_openSet S) n) dr tr C F (sG_cellsBefore (sG_clashingKinds G (fcl S (bgT S T n (w_X2_openSet S) n) 8)) (C_cells C))  ) hP hD hS hA hK 16 (ci := 0) rfl rfl rfl uC_X0_clear uN_X0 nM_X4_136 uI_X0_clear uE_X0_clear (by decide +kernel) rfl ⟨Nat.le_of_ble_eq_true rfl, Nat.le_of_ble_eq_true rfl⟩ ⟨Nat.zero_le _, Nat.zero_le _⟩ hl.1 rfl (Nat.le_of_ble_eq_true rfl) dX4_run_23 (fun H locs hP hD hS => ?_)
  have hP : va_P k.1 vwCl (xW k a S (bgT S T n (w_X2_openSet S) n) dr tr (w_X0_clear_C C) F (sG_cellsBefore (sG_clashingKinds G (fcl S (bgT S T n (w_X2_openSet S) n) 8)) (C_cells C))) H := hP
  have hD : va_D A (xW k a S (bgT S T n (w_X2_openSet S) n) dr tr (w_X0_clear_C C) F (sG_cellsBefore (sG_clashingKinds G (fcl S (bgT S T n (w_X2_openSet S) n) 8)) (C_cells C))) := hD
  refine lv_lconst (v := 1) hx hb dX4_run_26 (by decide) ?_
  refine lv_aload_n hx hb dX4_run_27 rfl (lv_at hl 0 rfl) ?_
  refine va_get (D := k.1) (ci := 4) (v := .ref (a 1)) (C := RX4) (T := TX4) (N := 10) hx hb hU inlX4 hown hK.1 hP 0 rfl rfl 0 (by decide) (hU _ uF_X4_10) (fun _ h9 => h9) rfl dX4_run_28 ?_
  refine rcVN (n := 0) (As := []) (rest := [.long 1]) hF (c_X2_freeSet l k a S (bgT S T n (w_X2_openSet S) n) dr tr (w_X0_clear_C C) F (sG_cellsBefore (sG_clashingKinds G (fcl S (bgT S T n (w_X2_openSet S) n) 8)) (C_cells C))  ) (hP) hK 1 (ci := 2) rfl rfl rfl uC_X2_freeSet uN_X2 nM_X4_139 uI_X2_freeSet uE_X2_freeSet (by decide +kernel) rfl ⟨Nat.le_of_ble_eq_true rfl, Nat.le_of_ble_eq_true rfl⟩ ⟨Nat.zero_le _, Nat.zero_le _⟩ hl.1 rfl (Nat.le_of_ble_eq_true rfl) dX4_run_31 ?_
  refine rcS (n := 1) (As := [.int (w_X2_freeSet S)]) (rest := [.long 1]) hF (c_J6_bitCount_0f7a4 l k (w_X2_freeSet S)) (hP.sub (ws' := []) [] rfl) hK uC_J6_bitCount_0f7a4 uN_J6 uM_X4_142 uS_J6_bitCount_0f7a4 (by decide +kernel) rfl ⟨Nat.le_of_ble_eq_true rfl, Nat.le_of_ble_eq_true rfl⟩ ⟨Nat.zero_le _, Nat.zero_le _⟩ hl.1 rfl (Nat.le_of_ble_eq_true rfl) dX4_run_34 ?_
  refine lv_lshl (v := (lh 1 (w_bitCount (w_X2_freeSet S)))) hx hb dX4_run_37 rfl ?_
  refine lv_lstore_n (lv' := [(3, .long (lh 1 (w_bitCount (w_X2_freeSet S)))), (0, .ref (a 0)), (1, .long nodes)]) hx hb dX4_run_38 rfl hl (by decide) rfl (fun ls hl => ?_)
  refine lv_lload_n hx hb dX4_run_39 rfl (lv_at hl 0 rfl) ?_
  refine lv_lload_n hx hb dX4_run_40 rfl (lv_at hl 2 rfl) ?_
  refine xl_gt (tgt := 53) hx hb dX4_run_41 dX4_run_42 (by decide) (fun c_1 => ?_) (fun c_1 => ?_)
  · refine lv_aload_n hx hb dX4_run_53 rfl (lv_at hl 1 rfl) ?_
    refine lv_iconst (v := 2) hx hb dX4_run_54 (by decide) ?_
    refine va_put (D := k.1) (ci := 4) (v := .int 2) (ty := .int) (C := RX4) (T := TX4) (N := 10) hx hb hU inlX4 tyX4 tyX4_ok nmX4 hown hK.1 hP hD hS 0 rfl rfl 7 (by decide) (hU _ uF_X4_50) (fun _ h9 => h9) rfl (by decide +kernel) rfl rfl (Nat.le_of_ble_eq_true rfl) dX4_run_55 (fun H locs hP hD hS => ?_)
    have hP := pz_x_0_7 k a S (bgT S T n (w_X2_openSet S) n) dr tr (w_X0_clear_C C) F (sG_cellsBefore (sG_clashingKinds G (fcl S (bgT S T n (w_X2_openSet S) n) 8)) (C_cells C)) 2 hP
    have hD := dz_x_0_7 k a S (bgT S T n (w_X2_openSet S) n) dr tr (w_X0_clear_C C) F (sG_cellsBefore (sG_clashingKinds G (fcl S (bgT S T n (w_X2_openSet S) n) 8)) (C_cells C)) 2 hD
    refine lv_aload_n hx hb dX4_run_58 rfl (lv_at hl 1 rfl) ?_
    refine lv_aload_n hx hb dX4_run_59 rfl (lv_at hl 1 rfl) ?_
    refine va_get (D := k.1) (ci := 4) (v := .ref (a 1)) (C := RX4) (T := TX4) (N := 10) hx hb hU inlX4 hown hK.1 hP 0 rfl rfl 0 (by decide) (hU _ uF_X4_10) (fun _ h9 => h9) rfl dX4_run_60 ?_
    refine lv_aload_n hx hb dX4_run_63 rfl (lv_at hl 1 rfl) ?_
    refine va_get (D := k.1) (ci := 4) (v := .ref (a 1)) (C := RX4) (T := TX4) (N := 10) hx hb hU inlX4 hown hK.1 hP 0 rfl rfl 0 (by decide) (hU _ uF_X4_10) (fun _ h9 => h9) rfl dX4_run_64 ?_
    refine va_getN (D := k.1) (ci := 2) (v := .int (S_needed S)) (C := RX2) (T := TX2) (N := 16) hx hb hU inlX2 hown hK.1 hP 1 rfl rfl 13 (by decide) (hK.nf nF_X4_109) (fun _ h9 => h9) rfl dX4_run_67 ?_
    refine rcVN (n := 1) (As := [.int (S_needed S)]) (rest := [.ref (a 0)]) hF (c_X2_costsOf l k a S (bgT S T n (w_X2_openSet S) n) dr tr (w_X0_clear_C C) F (sG_runAnswer (sG_cellsBefore (sG_clashingKinds G (fcl S (bgT S T n (w_X2_openSet S) n) 8)) (C_cells C)) 2) (S_needed S) n hn hc) (hP) hK 1 (ci := 2) rfl rfl rfl uC_X2_costsOf uN_X2 nM_X4_150 uI_X2_costsOf uE_X2_costsOf (by decide +kernel) rfl ⟨Nat.le_of_ble_eq_true rfl, Nat.le_of_ble_eq_true rfl⟩ ⟨Nat.zero_le _, Nat.zero_le _⟩ hl.1 rfl (Nat.le_of_ble_eq_true rfl) dX4_run_70 ?_
    refine va_put (D := k.1) (ci := 4) (v := .long (sm (f_costsOf S (S_needed S)) n)) (ty := .long) (C := RX4) (T := TX4) (N := 10) hx hb hU inlX4 tyX4 tyX4_ok nmX4 hown hK.1 hP hD hS 0 rfl rfl 8 (by decide) (hU _ uF_X4_56) (fun _ h9 => h9) rfl (by decide +kernel) rfl rfl (Nat.le_of_ble_eq_true rfl) dX4_run_73 (fun H locs hP hD hS => ?_)
    have hP := pz_x_0_8 k a S (bgT S T n (w_X2_openSet S) n) dr tr (w_X0_clear_C C) F (sG_runAnswer (sG_cellsBefore (sG_clashingKinds G (fcl S (bgT S T n (w_X2_openSet S) n) 8)) (C_cells C)) 2) (sm (f_costsOf S (S_needed S)) n) hP
    have hD := dz_x_0_8 k a S (bgT S T n (w_X2_openSet S) n) dr tr (w_X0_clear_C C) F (sG_runAnswer (sG_cellsBefore (sG_clashingKinds G (fcl S (bgT S T n (w_X2_openSet S) n) 8)) (C_cells C)) 2) (sm (f_costsOf S (S_needed S)) n) hD
    refine lv_goto (tgt := 113) hx hb dX4_run_76 (by decide) ?_
    refine lv_aload_n hx hb dX4_run_113 rfl (lv_at hl 1 rfl) ?_
    refine va_get (D := k.1) (ci := 4) (v := .int 2) (C := RX4) (T := TX4) (N := 10) hx hb hU inlX4 hown hK.1 hP 0 rfl rfl 7 (by decide) (hU _ uF_X4_50) (fun _ h9 => h9) rfl dX4_run_114 ?_
    have hP9 : va_P k.1 vwCl (xW k a S (w_X4_run_T S T C nodes n) dr tr (w_X4_run_C S T C nodes n) (w_X4_run_F S T C F nodes n) (w_X4_run_G S T C G nodes n)) H := by rw [w_X4_run_T, if_pos c_1]; rw [w_X4_run_C, if_pos c_1]; rw [w_X4_run_F, if_pos c_1]; rw [w_X4_run_G, if_pos c_1]; exact hP
    have hD9 : va_D A (xW k a S (w_X4_run_T S T C nodes n) dr tr (w_X4_run_C S T C nodes n) (w_X4_run_F S T C F nodes n) (w_X4_run_G S T C G nodes n)) := by rw [w_X4_run_T, if_pos c_1]; rw [w_X4_run_C, if_pos c_1]; rw [w_X4_run_F, if_pos c_1]; rw [w_X4_run_G, if_pos c_1]; exact hD
    exact W.iret (v := 2) hx hb hr (fun t ht hW => ⟨⟨by rw [w_X4_run, if_pos c_1], by rw [ht]; exact hP9, hD9⟩, hS.F ht⟩) hS.2.2 dX4_run_117
  · refine lv_lload_n hx hb dX4_run_45 rfl (lv_at hl 0 rfl) ?_
    refine lv_ldc2 hx hb hown (hU _ uK_X4_148) dX4_run_46 ?_
    refine xl_le (tgt := 79) hx hb dX4_run_49 dX4_run_50 (by decide) (fun c_2 => ?_) (fun c_2 => ?_)
    · refine lv_aload_n hx hb dX4_run_79 rfl (lv_at hl 1 rfl) ?_
      refine wcV (n := 0) (As := []) (rest := []) hF (c_X4_search l k a S (bgT S T n (w_X2_openSet S) n) dr tr (w_X0_clear_C C) F (sG_cellsBefore (sG_clashingKinds G (fcl S (bgT S T n (w_X2_openSet S) n) 8)) (C_cells C))  n hn hc (hbc c_2)) hP hD hS hA hK 0 (ci := 4) rfl rfl rfl uC_X4_search uN_X4 uM_X4_154 uI_X4_search uE_X4_search (by decide +kernel) rfl ⟨Nat.le_of_ble_eq_true rfl, Nat.le_of_ble_eq_true rfl⟩ ⟨Nat.zero_le _, Nat.zero_le _⟩ hl.1 rfl (Nat.le_of_ble_eq_true rfl) dX4_run_80 (fun H locs hP hD hS => ?_)
      have hP : va_P k.1 vwCl (xW k a S (sr S n (sr0 S (bgT S T n (w_X2_openSet S) n) (w_X0_clear_C C) n) (2 ^ cn (w_X2_freeSet S) n)).1 dr tr (sr S n (sr0 S (bgT S T n (w_X2_openSet S) n) (w_X0_clear_C C) n) (2 ^ cn (w_X2_freeSet S) n)).2 (lfF (w_X2_freeSet S) F n) (sG_cellsBefore (sG_clashingKinds G (fcl S (bgT S T n (w_X2_openSet S) n) 8)) (C_cells C))) H := hP
      have hD : va_D A (xW k a S (sr S n (sr0 S (bgT S T n (w_X2_openSet S) n) (w_X0_clear_C C) n) (2 ^ cn (w_X2_freeSet S) n)).1 dr tr (sr S n (sr0 S (bgT S T n (w_X2_openSet S) n) (w_X0_clear_C C) n) (2 ^ cn (w_X2_freeSet S) n)).2 (lfF (w_X2_freeSet S) F n) (sG_cellsBefore (sG_clashingKinds G (fcl S (bgT S T n (w_X2_openSet S) n) 8)) (C_cells C))) := hD
      refine lv_aload_n hx hb dX4_run_83 rfl (lv_at hl 1 rfl) ?_
      refine lv_aload_n hx hb dX4_run_84 rfl (lv_at hl 1 rfl) ?_
      refine va_get (D := k.1) (ci := 4) (v := .ref (a 16)) (C := RX4) (T := TX4) (N := 10) hx hb hU inlX4 hown hK.1 hP 0 rfl rfl 4 (by decide) (hU _ uF_X4_42) (fun _ h9 => h9) rfl dX4_run_85 ?_
      refine va_getN (D := k.1) (ci := 0) (v := .int (C_there (sr S n (sr0 S (bgT S T n (w_X2_openSet S) n) (w_X0_clear_C C) n) (2 ^ cn (w_X2_freeSet S) n)).2)) (C := RX0) (T := TX0) (N := 3) hx hb hU inlX0 hown hK.1 hP 16 rfl rfl 0 (by decide) (hK.nf nF_X4_115) (fun _ h9 => h9) rfl dX4_run_88 ?_
      refine lv_if_eq (tgt := 98) hx hb dX4_run_91 (by decide) (fun c_3 => ?_) (fun c_3 => ?_)
      · refine lv_iconst (v := 1) hx hb dX4_run_98 (by decide) ?_
        refine va_put (D := k.1) (ci := 4) (v := .int 1) (ty := .int) (C := RX4) (T := TX4) (N := 10) hx hb hU inlX4 tyX4 tyX4_ok nmX4 hown hK.1 hP hD hS 0 rfl rfl 7 (by decide) (hU _ uF_X4_50) (fun _ h9 => h9) rfl (by decide +kernel) rfl rfl (Nat.le_of_ble_eq_true rfl) dX4_run_99 (fun H locs hP hD hS => ?_)
        have hP := pz_x_0_7 k a S (sr S n (sr0 S (bgT S T n (w_X2_openSet S) n) (w_X0_clear_C C) n) (2 ^ cn (w_X2_freeSet S) n)).1 dr tr (sr S n (sr0 S (bgT S T n (w_X2_openSet S) n) (w_X0_clear_C C) n) (2 ^ cn (w_X2_freeSet S) n)).2 (lfF (w_X2_freeSet S) F n) (sG_cellsBefore (sG_clashingKinds G (fcl S (bgT S T n (w_X2_openSet S) n) 8)) (C_cells C)) 1 hP
        have hD := dz_x_0_7 k a S (sr S n (sr0 S (bgT S T n (w_X2_openSet S) n) (w_X0_clear_C C) n) (2 ^ cn (w_X2_freeSet S) n)).1 dr tr (sr S n (sr0 S (bgT S T n (w_X2_openSet S) n) (w_X0_clear_C C) n) (2 ^ cn (w_X2_freeSet S) n)).2 (lfF (w_X2_freeSet S) F n) (sG_cellsBefore (sG_clashingKinds G (fcl S (bgT S T n (w_X2_openSet S) n) 8)) (C_cells C)) 1 hD
        refine lv_aload_n hx hb dX4_run_102 rfl (lv_at hl 1 rfl) ?_
        refine lv_aload_n hx hb dX4_run_103 rfl (lv_at hl 1 rfl) ?_
        refine va_get (D := k.1) (ci := 4) (v := .ref (a 16)) (C := RX4) (T := TX4) (N := 10) hx hb hU inlX4 hown hK.1 hP 0 rfl rfl 4 (by decide) (hU _ uF_X4_42) (fun _ h9 => h9) rfl dX4_run_104 ?_
        refine va_getN (D := k.1) (ci := 0) (v := .long (C_price (sr S n (sr0 S (bgT S T n (w_X2_openSet S) n) (w_X0_clear_C C) n) (2 ^ cn (w_X2_freeSet S) n)).2)) (C := RX0) (T := TX0) (N := 3) hx hb hU inlX0 hown hK.1 hP 16 rfl rfl 2 (by decide) (hK.nf nF_X4_157) (fun _ h9 => h9) rfl dX4_run_107 ?_
        refine va_put (D := k.1) (ci := 4) (v := .long (C_price (sr S n (sr0 S (bgT S T n (w_X2_openSet S) n) (w_X0_clear_C C) n) (2 ^ cn (w_X2_freeSet S) n)).2)) (ty := .long) (C := RX4) (T := TX4) (N := 10) hx hb hU inlX4 tyX4 tyX4_ok nmX4 hown hK.1 hP hD hS 0 rfl rfl 8 (by decide) (hU _ uF_X4_56) (fun _ h9 => h9) rfl (by decide +kernel) rfl rfl (Nat.le_of_ble_eq_true rfl) dX4_run_110 (fun H locs hP hD hS => ?_)
        have hP := pz_x_0_8 k a S (sr S n (sr0 S (bgT S T n (w_X2_openSet S) n) (w_X0_clear_C C) n) (2 ^ cn (w_X2_freeSet S) n)).1 dr tr (sr S n (sr0 S (bgT S T n (w_X2_openSet S) n) (w_X0_clear_C C) n) (2 ^ cn (w_X2_freeSet S) n)).2 (lfF (w_X2_freeSet S) F n) (sG_runAnswer (sG_cellsBefore (sG_clashingKinds G (fcl S (bgT S T n (w_X2_openSet S) n) 8)) (C_cells C)) 1) (C_price (sr S n (sr0 S (bgT S T n (w_X2_openSet S) n) (w_X0_clear_C C) n) (2 ^ cn (w_X2_freeSet S) n)).2) hP
        have hD := dz_x_0_8 k a S (sr S n (sr0 S (bgT S T n (w_X2_openSet S) n) (w_X0_clear_C C) n) (2 ^ cn (w_X2_freeSet S) n)).1 dr tr (sr S n (sr0 S (bgT S T n (w_X2_openSet S) n) (w_X0_clear_C C) n) (2 ^ cn (w_X2_freeSet S) n)).2 (lfF (w_X2_freeSet S) F n) (sG_runAnswer (sG_cellsBefore (sG_clashingKinds G (fcl S (bgT S T n (w_X2_openSet S) n) 8)) (C_cells C)) 1) (C_price (sr S n (sr0 S (bgT S T n (w_X2_openSet S) n) (w_X0_clear_C C) n) (2 ^ cn (w_X2_freeSet S) n)).2) hD
        refine lv_aload_n hx hb dX4_run_113 rfl (lv_at hl 1 rfl) ?_
        refine va_get (D := k.1) (ci := 4) (v := .int 1) (C := RX4) (T := TX4) (N := 10) hx hb hU inlX4 hown hK.1 hP 0 rfl rfl 7 (by decide) (hU _ uF_X4_50) (fun _ h9 => h9) rfl dX4_run_114 ?_
        have hP9 : va_P k.1 vwCl (xW k a S (w_X4_run_T S T C nodes n) dr tr (w_X4_run_C S T C nodes n) (w_X4_run_F S T C F nodes n) (w_X4_run_G S T C G nodes n)) H := by rw [w_X4_run_T, if_neg c_1, if_neg c_2, if_pos c_3]; rw [w_X4_run_C, if_neg c_1, if_neg c_2, if_pos c_3]; rw [w_X4_run_F, if_neg c_1, if_neg c_2, if_pos c_3]; rw [w_X4_run_G, if_neg c_1, if_neg c_2, if_pos c_3]; exact hP
        have hD9 : va_D A (xW k a S (w_X4_run_T S T C nodes n) dr tr (w_X4_run_C S T C nodes n) (w_X4_run_F S T C F nodes n) (w_X4_run_G S T C G nodes n)) := by rw [w_X4_run_T, if_neg c_1, if_neg c_2, if_pos c_3]; rw [w_X4_run_C, if_neg c_1, if_neg c_2, if_pos c_3]; rw [w_X4_run_F, if_neg c_1, if_neg c_2, if_pos c_3]; rw [w_X4_run_G, if_neg c_1, if_neg c_2, if_pos c_3]; exact hD
        exact W.iret (v := 1) hx hb hr (fun t ht hW => ⟨⟨by rw [w_X4_run, if_neg c_1, if_neg c_2, if_pos c_3], by rw [ht]; exact hP9, hD9⟩, hS.F ht⟩) hS.2.2 dX4_run_117
      · refine lv_iconst (v := 0) hx hb dX4_run_94 (by decide) ?_
        refine lv_goto (tgt := 99) hx hb dX4_run_95 (by decide) ?_
        refine va_put (D := k.1) (ci := 4) (v := .int 0) (ty := .int) (C := RX4) (T := TX4) (N := 10) hx hb hU inlX4 tyX4 tyX4_ok nmX4 hown hK.1 hP hD hS 0 rfl rfl 7 (by decide) (hU _ uF_X4_50) (fun _ h9 => h9) rfl (by decide +kernel) rfl rfl (Nat.le_of_ble_eq_true rfl) dX4_run_99 (fun H locs hP hD hS => ?_)
        have hP := pz_x_0_7 k a S (sr S n (sr0 S (bgT S T n (w_X2_openSet S) n) (w_X0_clear_C C) n) (2 ^ cn (w_X2_freeSet S) n)).1 dr tr (sr S n (sr0 S (bgT S T n (w_X2_openSet S) n) (w_X0_clear_C C) n) (2 ^ cn (w_X2_freeSet S) n)).2 (lfF (w_X2_freeSet S) F n) (sG_cellsBefore (sG_clashingKinds G (fcl S (bgT S T n (w_X2_openSet S) n) 8)) (C_cells C)) 0 hP
        have hD := dz_x_0_7 k a S (sr S n (sr0 S (bgT S T n (w_X2_openSet S) n) (w_X0_clear_C C) n) (2 ^ cn (w_X2_freeSet S) n)).1 dr tr (sr S n (sr0 S (bgT S T n (w_X2_openSet S) n) (w_X0_clear_C C) n) (2 ^ cn (w_X2_freeSet S) n)).2 (lfF (w_X2_freeSet S) F n) (sG_cellsBefore (sG_clashingKinds G (fcl S (bgT S T n (w_X2_openSet S) n) 8)) (C_cells C)) 0 hD
        refine lv_aload_n hx hb dX4_run_102 rfl (lv_at hl 1 rfl) ?_
        refine lv_aload_n hx hb dX4_run_103 rfl (lv_at hl 1 rfl) ?_
        refine va_get (D := k.1) (ci := 4) (v := .ref (a 16)) (C := RX4) (T := TX4) (N := 10) hx hb hU inlX4 hown hK.1 hP 0 rfl rfl 4 (by decide) (hU _ uF_X4_42) (fun _ h9 => h9) rfl dX4_run_104 ?_
        refine va_getN (D := k.1) (ci := 0) (v := .long (C_price (sr S n (sr0 S (bgT S T n (w_X2_openSet S) n) (w_X0_clear_C C) n) (2 ^ cn (w_X2_freeSet S) n)).2)) (C := RX0) (T := TX0) (N := 3) hx hb hU inlX0 hown hK.1 hP 16 rfl rfl 2 (by decide) (hK.nf nF_X4_157) (fun _ h9 => h9) rfl dX4_run_107 ?_
        refine va_put (D := k.1) (ci := 4) (v := .long (C_price (sr S n (sr0 S (bgT S T n (w_X2_openSet S) n) (w_X0_clear_C C) n) (2 ^ cn (w_X2_freeSet S) n)).2)) (ty := .long) (C := RX4) (T := TX4) (N := 10) hx hb hU inlX4 tyX4 tyX4_ok nmX4 hown hK.1 hP hD hS 0 rfl rfl 8 (by decide) (hU _ uF_X4_56) (fun _ h9 => h9) rfl (by decide +kernel) rfl rfl (Nat.le_of_ble_eq_true rfl) dX4_run_110 (fun H locs hP hD hS => ?_)
        have hP := pz_x_0_8 k a S (sr S n (sr0 S (bgT S T n (w_X2_openSet S) n) (w_X0_clear_C C) n) (2 ^ cn (w_X2_freeSet S) n)).1 dr tr (sr S n (sr0 S (bgT S T n (w_X2_openSet S) n) (w_X0_clear_C C) n) (2 ^ cn (w_X2_freeSet S) n)).2 (lfF (w_X2_freeSet S) F n) (sG_runAnswer (sG_cellsBefore (sG_clashingKinds G (fcl S (bgT S T n (w_X2_openSet S) n) 8)) (C_cells C)) 0) (C_price (sr S n (sr0 S (bgT S T n (w_X2_openSet S) n) (w_X0_clear_C C) n) (2 ^ cn (w_X2_freeSet S) n)).2) hP
        have hD := dz_x_0_8 k a S (sr S n (sr0 S (bgT S T n (w_X2_openSet S) n) (w_X0_clear_C C) n) (2 ^ cn (w_X2_freeSet S) n)).1 dr tr (sr S n (sr0 S (bgT S T n (w_X2_openSet S) n) (w_X0_clear_C C) n) (2 ^ cn (w_X2_freeSet S) n)).2 (lfF (w_X2_freeSet S) F n) (sG_runAnswer (sG_cellsBefore (sG_clashingKinds G (fcl S (bgT S T n (w_X2_openSet S) n) 8)) (C_cells C)) 0) (C_price (sr S n (sr0 S (bgT S T n (w_X2_openSet S) n) (w_X0_clear_C C) n) (2 ^ cn (w_X2_freeSet S) n)).2) hD
        refine lv_aload_n hx hb dX4_run_113 rfl (lv_at hl 1 rfl) ?_
        refine va_get (D := k.1) (ci := 4) (v := .int 0) (C := RX4) (T := TX4) (N := 10) hx hb hU inlX4 hown hK.1 hP 0 rfl rfl 7 (by decide) (hU _ uF_X4_50) (fun _ h9 => h9) rfl dX4_run_114 ?_
        have hP9 : va_P k.1 vwCl (xW k a S (w_X4_run_T S T C nodes n) dr tr (w_X4_run_C S T C nodes n) (w_X4_run_F S T C F nodes n) (w_X4_run_G S T C G nodes n)) H := by rw [w_X4_run_T, if_neg c_1, if_neg c_2, if_neg c_3]; rw [w_X4_run_C, if_neg c_1, if_neg c_2, if_neg c_3]; rw [w_X4_run_F, if_neg c_1, if_neg c_2, if_neg c_3]; rw [w_X4_run_G, if_neg c_1, if_neg c_2, if_neg c_3]; exact hP
        have hD9 : va_D A (xW k a S (w_X4_run_T S T C nodes n) dr tr (w_X4_run_C S T C nodes n) (w_X4_run_F S T C F nodes n) (w_X4_run_G S T C G nodes n)) := by rw [w_X4_run_T, if_neg c_1, if_neg c_2, if_neg c_3]; rw [w_X4_run_C, if_neg c_1, if_neg c_2, if_neg c_3]; rw [w_X4_run_F, if_neg c_1, if_neg c_2, if_neg c_3]; rw [w_X4_run_G, if_neg c_1, if_neg c_2, if_neg c_3]; exact hD
        exact W.iret (v := 0) hx hb hr (fun t ht hW => ⟨⟨by rw [w_X4_run, if_neg c_1, if_neg c_2, if_neg c_3], by rw [ht]; exact hP9, hD9⟩, hS.F ht⟩) hS.2.2 dX4_run_117
    · refine lv_aload_n hx hb dX4_run_53 rfl (lv_at hl 1 rfl) ?_
      refine lv_iconst (v := 2) hx hb dX4_run_54 (by decide) ?_
      refine va_put (D := k.1) (ci := 4) (v := .int 2) (ty := .int) (C := RX4) (T := TX4) (N := 10) hx hb hU inlX4 tyX4 tyX4_ok nmX4 hown hK.1 hP hD hS 0 rfl rfl 7 (by decide) (hU _ uF_X4_50) (fun _ h9 => h9) rfl (by decide +kernel) rfl rfl (Nat.le_of_ble_eq_true rfl) dX4_run_55 (fun H locs hP hD hS => ?_)
      have hP := pz_x_0_7 k a S (bgT S T n (w_X2_openSet S) n) dr tr (w_X0_clear_C C) F (sG_cellsBefore (sG_clashingKinds G (fcl S (bgT S T n (w_X2_openSet S) n) 8)) (C_cells C)) 2 hP
      have hD := dz_x_0_7 k a S (bgT S T n (w_X2_openSet S) n) dr tr (w_X0_clear_C C) F (sG_cellsBefore (sG_clashingKinds G (fcl S (bgT S T n (w_X2_openSet S) n) 8)) (C_cells C)) 2 hD
      refine lv_aload_n hx hb dX4_run_58 rfl (lv_at hl 1 rfl) ?_
      refine lv_aload_n hx hb dX4_run_59 rfl (lv_at hl 1 rfl) ?_
      refine va_get (D := k.1) (ci := 4) (v := .ref (a 1)) (C := RX4) (T := TX4) (N := 10) hx hb hU inlX4 hown hK.1 hP 0 rfl rfl 0 (by decide) (hU _ uF_X4_10) (fun _ h9 => h9) rfl dX4_run_60 ?_
      refine lv_aload_n hx hb dX4_run_63 rfl (lv_at hl 1 rfl) ?_
      refine va_get (D := k.1) (ci := 4) (v := .ref (a 1)) (C := RX4) (T := TX4) (N := 10) hx hb hU inlX4 hown hK.1 hP 0 rfl rfl 0 (by decide) (hU _ uF_X4_10) (fun _ h9 => h9) rfl dX4_run_64 ?_
      refine va_getN (D := k.1) (ci := 2) (v := .int (S_needed S)) (C := RX2) (T := TX2) (N := 16) hx hb hU inlX2 hown hK.1 hP 1 rfl rfl 13 (by decide) (hK.nf nF_X4_109) (fun _ h9 => h9) rfl dX4_run_67 ?_
      refine rcVN (n := 1) (As := [.int (S_needed S)]) (rest := [.ref (a 0)]) hF (c_X2_costsOf l k a S (bgT S T n (w_X2_openSet S) n) dr tr (w_X0_clear_C C) F (sG_runAnswer (sG_cellsBefore (sG_clashingKinds G (fcl S (bgT S T n (w_X2_openSet S) n) 8)) (C_cells C)) 2) (S_needed S) n hn hc) (hP) hK 1 (ci := 2) rfl rfl rfl uC_X2_costsOf uN_X2 nM_X4_150 uI_X2_costsOf uE_X2_costsOf (by decide +kernel) rfl ⟨Nat.le_of_ble_eq_true rfl, Nat.le_of_ble_eq_true rfl⟩ ⟨Nat.zero_le _, Nat.zero_le _⟩ hl.1 rfl (Nat.le_of_ble_eq_true rfl) dX4_run_70 ?_
      refine va_put (D := k.1) (ci := 4) (v := .long (sm (f_costsOf S (S_needed S)) n)) (ty := .long) (C := RX4) (T := TX4) (N := 10) hx hb hU inlX4 tyX4 tyX4_ok nmX4 hown hK.1 hP hD hS 0 rfl rfl 8 (by decide) (hU _ uF_X4_56) (fun _ h9 => h9) rfl (by decide +kernel) rfl rfl (Nat.le_of_ble_eq_true rfl) dX4_run_73 (fun H locs hP hD hS => ?_)
      have hP := pz_x_0_8 k a S (bgT S T n (w_X2_openSet S) n) dr tr (w_X0_clear_C C) F (sG_runAnswer (sG_cellsBefore (sG_clashingKinds G (fcl S (bgT S T n (w_X2_openSet S) n) 8)) (C_cells C)) 2) (sm (f_costsOf S (S_needed S)) n) hP
      have hD := dz_x_0_8 k a S (bgT S T n (w_X2_openSet S) n) dr tr (w_X0_clear_C C) F (sG_runAnswer (sG_cellsBefore (sG_clashingKinds G (fcl S (bgT S T n (w_X2_openSet S) n) 8)) (C_cells C)) 2) (sm (f_costsOf S (S_needed S)) n) hD
      refine lv_goto (tgt := 113) hx hb dX4_run_76 (by decide) ?_
      refine lv_aload_n hx hb dX4_run_113 rfl (lv_at hl 1 rfl) ?_
      refine va_get (D := k.1) (ci := 4) (v := .int 2) (C := RX4) (T := TX4) (N := 10) hx hb hU inlX4 hown hK.1 hP 0 rfl rfl 7 (by decide) (hU _ uF_X4_50) (fun _ h9 => h9) rfl dX4_run_114 ?_
      have hP9 : va_P k.1 vwCl (xW k a S (w_X4_run_T S T C nodes n) dr tr (w_X4_run_C S T C nodes n) (w_X4_run_F S T C F nodes n) (w_X4_run_G S T C G nodes n)) H := by rw [w_X4_run_T, if_neg c_1, if_pos c_2]; rw [w_X4_run_C, if_neg c_1, if_pos c_2]; rw [w_X4_run_F, if_neg c_1, if_pos c_2]; rw [w_X4_run_G, if_neg c_1, if_pos c_2]; exact hP
      have hD9 : va_D A (xW k a S (w_X4_run_T S T C nodes n) dr tr (w_X4_run_C S T C nodes n) (w_X4_run_F S T C F nodes n) (w_X4_run_G S T C G nodes n)) := by rw [w_X4_run_T, if_neg c_1, if_pos c_2]; rw [w_X4_run_C, if_neg c_1, if_pos c_2]; rw [w_X4_run_F, if_neg c_1, if_pos c_2]; rw [w_X4_run_G, if_neg c_1, if_pos c_2]; exact hD
      exact W.iret (v := 2) hx hb hr (fun t ht hW => ⟨⟨by rw [w_X4_run, if_neg c_1, if_pos c_2], by rw [ht]; exact hP9, hD9⟩, hS.F ht⟩) hS.2.2 dX4_run_117

def w_X4_improve (S : SeaT) (T : TalT) (dr : Int64) (steps : Int32) (n : Nat) : Int32 := if steps < 1 then (-1) else if 1000 < steps then (-1) else if (S_cells S) = 0 then (-1) else if (w_dm_dr S T dr n (tn steps)) = (-1) then (w_dm_dr S T dr n (tn steps)) else (w_dm_dr S T dr n (tn steps))
def w_X4_improve_T (S : SeaT) (T : TalT) (dr : Int64) (steps : Int32) (n : Nat) : TalT := if steps < 1 then T else if 1000 < steps then T else if (S_cells S) = 0 then T else if (w_dm_dr S T dr n (tn steps)) = (-1) then (w_dmT_dr S T dr n (tn steps)) else (w_dmT_dr S T dr n (tn steps))
def w_X4_improve_dr (S : SeaT) (T : TalT) (dr : Int64) (steps : Int32) (n : Nat) : Int64 := if steps < 1 then dr else if 1000 < steps then dr else if (S_cells S) = 0 then dr else if (w_dm_dr S T dr n (tn steps)) = (-1) then (w_dmx_dr S T dr n (tn steps)) else (w_dmx_dr S T dr n (tn steps))
def w_X4_improve_C (S : SeaT) (T : TalT) (dr : Int64) (C : ChoT) (steps : Int32) (n : Nat) : ChoT := if steps < 1 then C else if 1000 < steps then C else if (S_cells S) = 0 then C else if (w_dm_dr S T dr n (tn steps)) = (-1) then (w_X0_clear_C C) else (w_X0_take_C (w_X0_clear_C C) (T_cells (w_dmT_dr S T dr n (tn steps))) (w_X3_price S (w_dmT_dr S T dr n (tn steps))))
def w_X4_improve_G (S : SeaT) (T : TalT) (dr : Int64) (C : ChoT) (G : GoT) (steps : Int32) (n : Nat) : GoT := if steps < 1 then G else if 1000 < steps then G else if (S_cells S) = 0 then G else if (w_dm_dr S T dr n (tn steps)) = (-1) then (sG_cellsBefore G (C_cells C)) else (sG_cellsBefore G (C_cells C))
set_option maxHeartbeats 4000000 in
set_option maxRecDepth 100000 in
theorem c_X4_improve (l : Launch) (k : KT) (a : Nat → Nat) (S : SeaT) (T : TalT) (dr : Int64) (tr : Int64) (C : ChoT) (F : (Nat → Int32)) (G : GoT) (steps : Int32) (n : Nat) (hn : n ≤ 24) (hc : S_cells S = nI n) : MW l yX4_improve cX4_improve 3 (some .int) (rz 5 121) k [.ref (a 0), .int steps] (xW k a S T dr tr C F G) (some (.int (w_X4_improve S T dr steps n))) (xW k a S (w_X4_improve_T S T dr steps n) (w_X4_improve_dr S T dr steps n) tr (w_X4_improve_C S T dr C steps n) F (w_X4_improve_G S T dr C G steps n)) := by
  intro sz
  refine Met.ofW (cc := cX4_improve) (maxL := 3) (ret := (some .int)) (by decide) rfl ?_
  intro p e s m args below meth c s₁ B hml hv
  obtain ⟨rfl, hsz, hP, hK, hD0⟩ := hv
  have hx := B.exec
  have hb := B.bytes
  have hr := B.returns
  have hU : ∀ w ∈ wsL_law, w.before [.ref (a 0), .int steps].toArray s = true := fun w h => atoms_spec (ws := Cond.code yX4_improve cX4_improve 3 (some .int) :: wsL_law) B.pre w (List.mem_cons_of_mem _ h)
  have hown : s.vm.findClass RX4 = some m.cls := findClass_of_methodNamed B.named
  have hlocks := B.notSynchronized
  have hF : CF p m c cX4_improve 3 s [.ref (a 0), .int steps].toArray RX4 := ⟨hx, hb, hml, hown, hU⟩
  subst hsz
  have hD := hD0.self (sz := s.heap.size)
  generalize hAe : va_A (xW k a S T dr tr C F G) s.heap.size = A at hD ⊢
  have hA : ∀ q : Nat, s.heap.size ≤ q → A q := fun q h => by rw [← hAe]; exact Or.inr h
  have hS : va_S A s.heap s.heap [] := va_S.rf
  have hl := lv_entry ([.ref (a 0), .int steps] : List Value) (n := 3) (Nat.le_of_ble_eq_true rfl)
  rw [lg_entry_eq]
  generalize (lg_sl ([.ref (a 0), .int steps] : List Value) ++ List.replicate (3 - (lg_sl ([.ref (a 0), .int steps] : List Value)).length) Slot.unset).toArray = ls at hl ⊢
  have hl : lv_has ls 3 [(0, .ref (a 0)), (1, .int steps)] := hl
  refine lv_iload_n hx hb dX4_improve_0 rfl (lv_at hl 1 rfl) ?_
  refine lv_iconst (v := 1) hx hb dX4_improve_1 (by decide) ?_
  refine xb_lt (tgt := 22) hx hb dX4_improve_2 (by decide) (fun c_1 => ?_) (fun c_1 => ?_)
  · refine lv_iconst (v := (-1)) hx hb dX4_improve_22 (by decide) ?_
    have hP9 : va_P k.1 vwCl (xW k a S (w_X4_improve_T S T dr steps n) (w_X4_improve_dr S T dr steps n) tr (w_X4_improve_C S T dr C steps n) F (w_X4_improve_G S T dr C G steps n)) s.heap := by rw [w_X4_improve_T, if_pos c_1]; rw [w_X4_improve_dr, if_pos c_1]; rw [w_X4_improve_C, if_pos c_1]; rw [w_X4_improve_G, if_pos c_1]; exact hP
    have hD9 : va_D A (xW k a S (w_X4_improve_T S T dr steps n) (w_X4_improve_dr S T dr steps n) tr (w_X4_improve_C S T dr C steps n) F (w_X4_improve_G S T dr C G steps n)) := by rw [w_X4_improve_T, if_pos c_1]; rw [w_X4_improve_dr, if_pos c_1]; rw [w_X4_improve_C, if_pos c_1]; rw [w_X4_improve_G, if_pos c_1]; exact hD
    exact W.iret (v := (-1)) hx hb hr (fun t ht hW => ⟨⟨by rw [w_X4_improve, if_pos c_1], by rw [ht]; exact hP9, hD9⟩, hS.F ht⟩) hS.2.2 dX4_improve_23
  · refine lv_iload_n hx hb dX4_improve_5 rfl (lv_at hl 1 rfl) ?_
    refine lv_sipush (v := 1000) hx hb dX4_improve_6 (by decide) ?_
    refine xb_gt (tgt := 22) hx hb dX4_improve_9 (by decide) (fun c_2 => ?_) (fun c_2 => ?_)
    · refine lv_iconst (v := (-1)) hx hb dX4_improve_22 (by decide) ?_
      have hP9 : va_P k.1 vwCl (xW k a S (w_X4_improve_T S T dr steps n) (w_X4_improve_dr S T dr steps n) tr (w_X4_improve_C S T dr C steps n) F (w_X4_improve_G S T dr C G steps n)) s.heap := by rw [w_X4_improve_T, if_neg c_1, if_pos c_2]; rw [w_X4_improve_dr, if_neg c_1, if_pos c_2]; rw [w_X4_improve_C, if_neg c_1, if_pos c_2]; rw [w_X4_improve_G, if_neg c_1, if_pos c_2]; exact hP
      have hD9 : va_D A (xW k a S (w_X4_improve_T S T dr steps n) (w_X4_improve_dr S T dr steps n) tr (w_X4_improve_C S T dr C steps n) F (w_X4_improve_G S T dr C G steps n)) := by rw [w_X4_improve_T, if_neg c_1, if_pos c_2]; rw [w_X4_improve_dr, if_neg c_1, if_pos c_2]; rw [w_X4_improve_C, if_neg c_1, if_pos c_2]; rw [w_X4_improve_G, if_neg c_1, if_pos c_2]; exact hD
      exact W.iret (v := (-1)) hx hb hr (fun t ht hW => ⟨⟨by rw [w_X4_improve, if_neg c_1, if_pos c_2], by rw [ht]; exact hP9, hD9⟩, hS.F ht⟩) hS.2.2 dX4_improve_23
    · refine lv_aload_n hx hb dX4_improve_12 rfl (lv_at hl 0 rfl) ?_
      refine va_get (D := k.1) (ci := 4) (v := .ref (a 1)) (C := RX4) (T := TX4) (N := 10) hx hb hU inlX4 hown hK.1 hP 0 rfl rfl 0 (by decide) (hU _ uF_X4_10) (fun _ h9 => h9) rfl dX4_improve_13 ?_
      refine va_getN (D := k.1) (ci := 2) (v := .int (S_cells S)) (C := RX2) (T := TX2) (N := 16) hx hb hU inlX2 hown hK.1 hP 1 rfl rfl 12 (by decide) (hK.nf nF_X4_60) (fun _ h9 => h9) rfl dX4_improve_16 ?_
      refine lv_if_ne (tgt := 24) hx hb dX4_improve_19 (by decide) (fun c_3 => ?_) (fun c_3 => ?_)
      · refine lv_aload_n hx hb dX4_improve_24 rfl (lv_at hl 0 rfl) ?_
        refine lv_aload_n hx hb dX4_improve_25 rfl (lv_at hl 0 rfl) ?_
        refine va_get (D := k.1) (ci := 4) (v := .ref (a 16)) (C := RX4) (T := TX4) (N := 10) hx hb hU inlX4 hown hK.1 hP 0 rfl rfl 4 (by decide) (hU _ uF_X4_42) (fun _ h9 => h9) rfl dX4_improve_26 ?_
        refine va_getN (D := k.1) (ci := 0) (v := .int (C_cells C)) (C := RX0) (T := TX0) (N := 3) hx hb hU inlX0 hown hK.1 hP 16 rfl rfl 1 (by decide) (hK.nf nF_X4_119) (fun _ h9 => h9) rfl dX4_improve_29 ?_
        refine va_put (D := k.1) (ci := 4) (v := .int (C_cells C)) (ty := .int) (C := RX4) (T := TX4) (N := 10) hx hb hU inlX4 tyX4 tyX4_ok nmX4 hown hK.1 hP hD hS 0 rfl rfl 6 (by decide) (hU _ uF_X4_133) (fun _ h9 => h9) rfl (by decide +kernel) rfl rfl (Nat.le_of_ble_eq_true rfl) dX4_improve_32 (fun H locs hP hD hS => ?_)
        have hP := pz_x_0_6 k a S T dr tr C F G (C_cells C) hP
        have hD := dz_x_0_6 k a S T dr tr C F G (C_cells C) hD
        refine lv_aload_n hx hb dX4_improve_35 rfl (lv_at hl 0 rfl) ?_
        refine va_get (D := k.1) (ci := 4) (v := .ref (a 16)) (C := RX4) (T := TX4) (N := 10) hx hb hU inlX4 hown hK.1 hP 0 rfl rfl 4 (by decide) (hU _ uF_X4_42) (fun _ h9 => h9) rfl dX4_improve_36 ?_
        refine wcVN (n := 0) (As := []) (rest := []) hF (c_X0_clear l k a S T dr tr C F (sG_cellsBefore G (C_cells C))  ) hP hD hS hA hK 16 (ci := 0) rfl rfl rfl uC_X0_clear uN_X0 nM_X4_136 uI_X0_clear uE_X0_clear (by decide +kernel) rfl ⟨Nat.le_of_ble_eq_true rfl, Nat.le_of_ble_eq_true rfl⟩ ⟨Nat.zero_le _, Nat.zero_le _⟩ hl.1 rfl (Nat.le_of_ble_eq_true rfl) dX4_improve_39 (fun H locs hP hD hS => ?_)
        have hP : va_P k.1 vwCl (xW k a S T dr tr (w_X0_clear_C C) F (sG_cellsBefore G (C_cells C))) H := hP
        have hD : va_D A (xW k a S T dr tr (w_X0_clear_C C) F (sG_cellsBefore G (C_cells C))) := hD
        refine lv_aload_n hx hb dX4_improve_42 rfl (lv_at hl 0 rfl) ?_
        refine lv_aload_n hx hb dX4_improve_43 rfl (lv_at hl 0 rfl) ?_
        refine va_get (D := k.1) (ci := 4) (v := .ref (a 14)) (C := RX4) (T := TX4) (N := 10) hx hb hU inlX4 hown hK.1 hP 0 rfl rfl 2 (by decide) (hU _ uF_X4_28) (fun _ h9 => h9) rfl dX4_improve_44 ?_
        refine lv_iload_n hx hb dX4_improve_47 rfl (lv_at hl 1 rfl) ?_
        have hst := rgJ (x := steps) (m := 1000) (by omega) c_1 c_2
        refine W.eq (g2 := F0 m 48 ls [.int (nI (tn steps)), .ref (a 14), .ref (a 0)]) (by rw [← hst.2.1]; try rfl) ?_
        refine wcV (n := 2) (As := [.ref (a 14), .int (nI (tn steps))]) (rest := []) hF (c_X4_drawnMoves_dr l k a S T dr tr (w_X0_clear_C C) F (sG_cellsBefore G (C_cells C)) (tn steps) n hn hc hst.1) hP hD hS hA hK 0 (ci := 4) rfl rfl rfl uC_X4_drawnMoves uN_X4 uM_X4_176 uI_X4_drawnMoves uE_X4_drawnMoves (by decide +kernel) rfl ⟨Nat.le_of_ble_eq_true rfl, Nat.le_of_ble_eq_true rfl⟩ ⟨Nat.zero_le _, Nat.zero_le _⟩ hl.1 rfl (Nat.le_of_ble_eq_true rfl) dX4_improve_48 (fun H locs hP hD hS => ?_)
        have hP : va_P k.1 vwCl (xW k a S (w_dmT_dr S T dr n (tn steps)) (w_dmx_dr S T dr n (tn steps)) tr (w_X0_clear_C C) F (sG_cellsBefore G (C_cells C))) H := hP
        have hD : va_D A (xW k a S (w_dmT_dr S T dr n (tn steps)) (w_dmx_dr S T dr n (tn steps)) tr (w_X0_clear_C C) F (sG_cellsBefore G (C_cells C))) := hD
        refine lv_istore_n (lv' := [(2, .int (w_dm_dr S T dr n (tn steps))), (0, .ref (a 0)), (1, .int steps)]) hx hb dX4_improve_51 rfl hl (by decide) rfl (fun ls hl => ?_)
        refine lv_iload_n hx hb dX4_improve_52 rfl (lv_at hl 0 rfl) ?_
        refine lv_iconst (v := (-1)) hx hb dX4_improve_53 (by decide) ?_
        refine lv_icmp_eq (tgt := 78) hx hb dX4_improve_54 (by decide) (fun c_4 => ?_) (fun c_4 => ?_)
        · refine lv_iload_n hx hb dX4_improve_78 rfl (lv_at hl 0 rfl) ?_
          have hP9 : va_P k.1 vwCl (xW k a S (w_X4_improve_T S T dr steps n) (w_X4_improve_dr S T dr steps n) tr (w_X4_improve_C S T dr C steps n) F (w_X4_improve_G S T dr C G steps n)) H := by rw [w_X4_improve_T, if_neg c_1, if_neg c_2, if_neg c_3, if_pos c_4]; rw [w_X4_improve_dr, if_neg c_1, if_neg c_2, if_neg c_3, if_pos c_4]; rw [w_X4_improve_C, if_neg c_1, if_neg c_2, if_neg c_3, if_pos c_4]; rw [w_X4_improve_G, if_neg c_1, if_neg c_2, if_neg c_3, if_pos c_4]; exact hP
          have hD9 : va_D A (xW k a S (w_X4_improve_T S T dr steps n) (w_X4_improve_dr S T dr steps n) tr (w_X4_improve_C S T dr C steps n) F (w_X4_improve_G S T dr C G steps n)) := by rw [w_X4_improve_T, if_neg c_1, if_neg c_2, if_neg c_3, if_pos c_4]; rw [w_X4_improve_dr, if_neg c_1, if_neg c_2, if_neg c_3, if_pos c_4]; rw [w_X4_improve_C, if_neg c_1, if_neg c_2, if_neg c_3, if_pos c_4]; rw [w_X4_improve_G, if_neg c_1, if_neg c_2, if_neg c_3, if_pos c_4]; exact hD
          exact W.iret (v := (w_dm_dr S T dr n (tn steps))) hx hb hr (fun t ht hW => ⟨⟨by rw [w_X4_improve, if_neg c_1, if_neg c_2, if_neg c_3, if_pos c_4], by rw [ht]; exact hP9, hD9⟩, hS.F ht⟩) hS.2.2 dX4_improve_79
        · refine lv_aload_n hx hb dX4_improve_57 rfl (lv_at hl 1 rfl) ?_
          refine va_get (D := k.1) (ci := 4) (v := .ref (a 16)) (C := RX4) (T := TX4) (N := 10) hx hb hU inlX4 hown hK.1 hP 0 rfl rfl 4 (by decide) (hU _ uF_X4_42) (fun _ h9 => h9) rfl dX4_improve_58 ?_
          refine lv_aload_n hx hb dX4_improve_61 rfl (lv_at hl 1 rfl) ?_
          refine va_get (D := k.1) (ci := 4) (v := .ref (a 11)) (C := RX4) (T := TX4) (N := 10) hx hb hU inlX4 hown hK.1 hP 0 rfl rfl 1 (by decide) (hU _ uF_X4_21) (fun _ h9 => h9) rfl dX4_improve_62 ?_
          refine va_getN (D := k.1) (ci := 3) (v := .int (T_cells (w_dmT_dr S T dr n (tn steps)))) (C := RX3) (T := TX3) (N := 7) hx hb hU inlX3 hown hK.1 hP 11 rfl rfl 3 (by decide) (hK.nf nF_X4_180) (fun _ h9 => h9) rfl dX4_improve_65 ?_
          refine lv_aload_n hx hb dX4_improve_68 rfl (lv_at hl 1 rfl) ?_
          refine va_get (D := k.1) (ci := 4) (v := .ref (a 11)) (C := RX4) (T := TX4) (N := 10) hx hb hU inlX4 hown hK.1 hP 0 rfl rfl 1 (by decide) (hU _ uF_X4_21) (fun _ h9 => h9) rfl dX4_improve_69 ?_
          refine rcVN (n := 0) (As := []) (rest := [.int (T_cells (w_dmT_dr S T dr n (tn steps))), .ref (a 16)]) hF (c_X3_price l k a S (w_dmT_dr S T dr n (tn steps)) (w_dmx_dr S T dr n (tn steps)) tr (w_X0_clear_C C) F (sG_cellsBefore G (C_cells C))  ) (hP) hK 11 (ci := 3) rfl rfl rfl uC_X3_price uN_X3 nM_X4_181 uI_X3_price uE_X3_price (by decide +kernel) rfl ⟨Nat.le_of_ble_eq_true rfl, Nat.le_of_ble_eq_true rfl⟩ ⟨Nat.zero_le _, Nat.zero_le _⟩ hl.1 rfl (Nat.le_of_ble_eq_true rfl) dX4_improve_72 ?_
          refine wcVN (n := 2) (As := [.int (T_cells (w_dmT_dr S T dr n (tn steps))), .long (w_X3_price S (w_dmT_dr S T dr n (tn steps)))]) (rest := []) hF (c_X0_take l k a S (w_dmT_dr S T dr n (tn steps)) (w_dmx_dr S T dr n (tn steps)) tr (w_X0_clear_C C) F (sG_cellsBefore G (C_cells C)) (T_cells (w_dmT_dr S T dr n (tn steps))) (w_X3_price S (w_dmT_dr S T dr n (tn steps))) ) hP hD hS hA hK 16 (ci := 0) rfl rfl rfl uC_X0_take uN_X0 nM_X4_184 uI_X0_take uE_X0_take (by decide +kernel) rfl ⟨Nat.le_of_ble_eq_true rfl, Nat.le_of_ble_eq_true rfl⟩ ⟨Nat.zero_le _, Nat.zero_le _⟩ hl.1 rfl (Nat.le_of_ble_eq_true rfl) dX4_improve_75 (fun H locs hP hD hS => ?_)
          have hP : va_P k.1 vwCl (xW k a S (w_dmT_dr S T dr n (tn steps)) (w_dmx_dr S T dr n (tn steps)) tr (w_X0_take_C (w_X0_clear_C C) (T_cells (w_dmT_dr S T dr n (tn steps))) (w_X3_price S (w_dmT_dr S T dr n (tn steps)))) F (sG_cellsBefore G (C_cells C))) H := hP
          have hD : va_D A (xW k a S (w_dmT_dr S T dr n (tn steps)) (w_dmx_dr S T dr n (tn steps)) tr (w_X0_take_C (w_X0_clear_C C) (T_cells (w_dmT_dr S T dr n (tn steps))) (w_X3_price S (w_dmT_dr S T dr n (tn steps)))) F (sG_cellsBefore G (C_cells C))) := hD
          refine lv_iload_n hx hb dX4_improve_78 rfl (lv_at hl 0 rfl) ?_
          have hP9 : va_P k.1 vwCl (xW k a S (w_X4_improve_T S T dr steps n) (w_X4_improve_dr S T dr steps n) tr (w_X4_improve_C S T dr C steps n) F (w_X4_improve_G S T dr C G steps n)) H := by rw [w_X4_improve_T, if_neg c_1, if_neg c_2, if_neg c_3, if_neg c_4]; rw [w_X4_improve_dr, if_neg c_1, if_neg c_2, if_neg c_3, if_neg c_4]; rw [w_X4_improve_C, if_neg c_1, if_neg c_2, if_neg c_3, if_neg c_4]; rw [w_X4_improve_G, if_neg c_1, if_neg c_2, if_neg c_3, if_neg c_4]; exact hP
          have hD9 : va_D A (xW k a S (w_X4_improve_T S T dr steps n) (w_X4_improve_dr S T dr steps n) tr (w_X4_improve_C S T dr C steps n) F (w_X4_improve_G S T dr C G steps n)) := by rw [w_X4_improve_T, if_neg c_1, if_neg c_2, if_neg c_3, if_neg c_4]; rw [w_X4_improve_dr, if_neg c_1, if_neg c_2, if_neg c_3, if_neg c_4]; rw [w_X4_improve_C, if_neg c_1, if_neg c_2, if_neg c_3, if_neg c_4]; rw [w_X4_improve_G, if_neg c_1, if_neg c_2, if_neg c_3, if_neg c_4]; exact hD
          exact W.iret (v := (w_dm_dr S T dr n (tn steps))) hx hb hr (fun t ht hW => ⟨⟨by rw [w_X4_improve, if_neg c_1, if_neg c_2, if_neg c_3, if_neg c_4], by rw [ht]; exact hP9, hD9⟩, hS.F ht⟩) hS.2.2 dX4_improve_79
      · refine lv_iconst (v := (-1)) hx hb dX4_improve_22 (by decide) ?_
        have hP9 : va_P k.1 vwCl (xW k a S (w_X4_improve_T S T dr steps n) (w_X4_improve_dr S T dr steps n) tr (w_X4_improve_C S T dr C steps n) F (w_X4_improve_G S T dr C G steps n)) s.heap := by rw [w_X4_improve_T, if_neg c_1, if_neg c_2, if_pos c_3]; rw [w_X4_improve_dr, if_neg c_1, if_neg c_2, if_pos c_3]; rw [w_X4_improve_C, if_neg c_1, if_neg c_2, if_pos c_3]; rw [w_X4_improve_G, if_neg c_1, if_neg c_2, if_pos c_3]; exact hP
        have hD9 : va_D A (xW k a S (w_X4_improve_T S T dr steps n) (w_X4_improve_dr S T dr steps n) tr (w_X4_improve_C S T dr C steps n) F (w_X4_improve_G S T dr C G steps n)) := by rw [w_X4_improve_T, if_neg c_1, if_neg c_2, if_pos c_3]; rw [w_X4_improve_dr, if_neg c_1, if_neg c_2, if_pos c_3]; rw [w_X4_improve_C, if_neg c_1, if_neg c_2, if_pos c_3]; rw [w_X4_improve_G, if_neg c_1, if_neg c_2, if_pos c_3]; exact hD
        exact W.iret (v := (-1)) hx hb hr (fun t ht hW => ⟨⟨by rw [w_X4_improve, if_neg c_1, if_neg c_2, if_pos c_3], by rw [ht]; exact hP9, hD9⟩, hS.F ht⟩) hS.2.2 dX4_improve_23

abbrev OfT : Type := TalT × Int64 × Int64 × Bool
def ofs (S : SeaT) (n : Nat) (ce : Int32) (y : OfT) (i : Nat) : OfT :=
  if y.2.2.2 = true then y else
    if w_dm_tr S y.1 (w_X1_start_dr (Int32.toInt64 (nI i))) n 40 = (-1) then (w_dmT_tr S y.1 (w_X1_start_dr (Int32.toInt64 (nI i))) n 40, w_dmx_tr S y.1 (w_X1_start_dr (Int32.toInt64 (nI i))) n 40, y.2.2.1, true)
    else if w_hasBit (T_cells (w_dmT_tr S y.1 (w_X1_start_dr (Int32.toInt64 (nI i))) n 40)) ce = 0 then (w_dmT_tr S y.1 (w_X1_start_dr (Int32.toInt64 (nI i))) n 40, w_dmx_tr S y.1 (w_X1_start_dr (Int32.toInt64 (nI i))) n 40, y.2.2.1, false)
    else (w_dmT_tr S y.1 (w_X1_start_dr (Int32.toInt64 (nI i))) n 40, w_dmx_tr S y.1 (w_X1_start_dr (Int32.toInt64 (nI i))) n 40, y.2.2.1 + 1, false)
def of_ (S : SeaT) (n : Nat) (ce : Int32) (x : OfT) : Nat → OfT
  | 0 => x
  | i + 1 => if i = 0 then x else ofs S n ce (of_ S n ce x i) i
theorem of_stop {S : SeaT} {n : Nat} {ce : Int32} {x : OfT} {i m : Nat} (hi : 1 ≤ i) (h : (of_ S n ce x i).2.2.2 = true) (hm : i ≤ m) : of_ S n ce x m = of_ S n ce x i := by
  induction m with
  | zero => omega
  | succ m ih =>
    rcases Nat.lt_or_ge i (m + 1) with h1 | h1
    · rw [of_, if_neg (by omega), ih (by omega), ofs, if_pos h]
    · rw [show i = m + 1 by omega]
def ofE (S : SeaT) (T : TalT) (tr : Int64) (n : Nat) (ce seeds : Int32) : OfT := if (w_hasCell (S_cells S) ce) = 0 then (T, tr, 0, true) else if seeds < 1 then (T, tr, 0, true) else if 20 < seeds then (T, tr, 0, true) else of_ S n ce (T, tr, 0, false) (tn seeds + 1)
def w_X4_often (S : SeaT) (T : TalT) (tr : Int64) (n : Nat) (ce seeds : Int32) : Int64 := if (ofE S T tr n ce seeds).2.2.2 = true then (-1) else (ofE S T tr n ce seeds).2.2.1

set_option maxHeartbeats 4000000 in
set_option maxRecDepth 100000 in
theorem c_X4_often (l : Launch) (k : KT) (a : Nat → Nat) (S : SeaT) (T : TalT) (dr : Int64) (tr : Int64) (C : ChoT) (F : (Nat → Int32)) (G : GoT) (ce : Int32) (seeds : Int32) (n : Nat) (hn : n ≤ 24) (hc : S_cells S = nI n) : MW l yX4_often cX4_often 6 (some .long) (rz 5 121) k [.ref (a 0), .int ce, .int seeds] (xW k a S T dr tr C F G) (some (.long (w_X4_often S T tr n ce seeds))) (xW k a S (ofE S T tr n ce seeds).1 dr (ofE S T tr n ce seeds).2.1 C F G) := by
  intro sz
  refine Met.ofW (cc := cX4_often) (maxL := 6) (ret := (some .long)) (by decide) rfl ?_
  intro p e s m args below meth c s₁ B hml hv
  obtain ⟨rfl, hsz, hP, hK, hD0⟩ := hv
  have hx := B.exec
  have hb := B.bytes
  have hr := B.returns
  have hU : ∀ w ∈ wsL_law, w.before [.ref (a 0), .int ce, .int seeds].toArray s = true := fun w h => atoms_spec (ws := Cond.code yX4_often cX4_often 6 (some .long) :: wsL_law) B.pre w (List.mem_cons_of_mem _ h)
  have hown : s.vm.findClass RX4 = some m.cls := findClass_of_methodNamed B.named
  have hlocks := B.notSynchronized
  have hF : CF p m c cX4_often 6 s [.ref (a 0), .int ce, .int seeds].toArray RX4 := ⟨hx, hb, hml, hown, hU⟩
  subst hsz
  have hD := hD0.self (sz := s.heap.size)
  generalize hAe : va_A (xW k a S T dr tr C F G) s.heap.size = A at hD ⊢
  have hA : ∀ q : Nat, s.heap.size ≤ q → A q := fun q h => by rw [← hAe]; exact Or.inr h
  have hS : va_S A s.heap s.heap [] := va_S.rf
  have hl := lv_entry ([.ref (a 0), .int ce, .int seeds] : List Value) (n := 6) (Nat.le_of_ble_eq_true rfl)
  rw [lg_entry_eq]
  generalize (lg_sl ([.ref (a 0), .int ce, .int seeds] : List Value) ++ List.replicate (6 - (lg_sl ([.ref (a 0), .int ce, .int seeds] : List Value)).length) Slot.unset).toArray = ls at hl ⊢
  have hl : lv_has ls 6 [(0, .ref (a 0)), (1, .int ce), (2, .int seeds)] := hl
  refine lv_aload_n hx hb dX4_often_0 rfl (lv_at hl 0 rfl) ?_
  refine va_get (D := k.1) (ci := 4) (v := .ref (a 1)) (C := RX4) (T := TX4) (N := 10) hx hb hU inlX4 hown hK.1 hP 0 rfl rfl 0 (by decide) (hU _ uF_X4_10) (fun _ h9 => h9) rfl dX4_often_1 ?_
  refine lv_iload_n hx hb dX4_often_4 rfl (lv_at hl 1 rfl) ?_
  refine rcVN (n := 1) (As := [.int ce]) (rest := []) hF (c_X2_hasCell l k a S T dr tr C F G ce ) (hP) hK 1 (ci := 2) rfl rfl rfl uC_X2_hasCell uN_X2 nM_X4_73 uI_X2_hasCell uE_X2_hasCell (by decide +kernel) rfl ⟨Nat.le_of_ble_eq_true rfl, Nat.le_of_ble_eq_true rfl⟩ ⟨Nat.zero_le _, Nat.zero_le _⟩ hl.1 rfl (Nat.le_of_ble_eq_true rfl) dX4_often_5 ?_
  refine lv_if_eq (tgt := 22) hx hb dX4_often_8 (by decide) (fun c_1 => ?_) (fun c_1 => ?_)
  · refine lv_ldc2 hx hb hown (hU _ uK_X4_54) dX4_often_22 ?_
    have hE : ofE S T tr n ce seeds = (T, tr, 0, true) := by rw [ofE, if_pos c_1]
    have hP9 : va_P k.1 vwCl (xW k a S (ofE S T tr n ce seeds).1 dr (ofE S T tr n ce seeds).2.1 C F G) s.heap := by rw [hE]; exact hP
    have hD9 : va_D A (xW k a S (ofE S T tr n ce seeds).1 dr (ofE S T tr n ce seeds).2.1 C F G) := by rw [hE]; exact hD
    exact W.lret (v := (-1)) hx hb hr (fun t ht hW => ⟨⟨by rw [w_X4_often, hE]; rfl, by rw [ht]; exact hP9, hD9⟩, hS.F ht⟩) hS.2.2 dX4_often_25
  · refine lv_iload_n hx hb dX4_often_11 rfl (lv_at hl 2 rfl) ?_
    refine lv_iconst (v := 1) hx hb dX4_often_12 (by decide) ?_
    refine xb_lt (tgt := 22) hx hb dX4_often_13 (by decide) (fun c_2 => ?_) (fun c_2 => ?_)
    · refine lv_ldc2 hx hb hown (hU _ uK_X4_54) dX4_often_22 ?_
      have hE : ofE S T tr n ce seeds = (T, tr, 0, true) := by rw [ofE, if_neg c_1, if_pos c_2]
      have hP9 : va_P k.1 vwCl (xW k a S (ofE S T tr n ce seeds).1 dr (ofE S T tr n ce seeds).2.1 C F G) s.heap := by rw [hE]; exact hP
      have hD9 : va_D A (xW k a S (ofE S T tr n ce seeds).1 dr (ofE S T tr n ce seeds).2.1 C F G) := by rw [hE]; exact hD
      exact W.lret (v := (-1)) hx hb hr (fun t ht hW => ⟨⟨by rw [w_X4_often, hE]; rfl, by rw [ht]; exact hP9, hD9⟩, hS.F ht⟩) hS.2.2 dX4_often_25
    · refine lv_iload_n hx hb dX4_often_16 rfl (lv_at hl 2 rfl) ?_
      refine lv_bipush (v := 20) hx hb dX4_often_17 (by decide) ?_
      refine xb_le (tgt := 26) hx hb dX4_often_19 (by decide) (fun c_3 => ?_) (fun c_3 => ?_)
      · have hsd := rgJ (x := seeds) (m := 20) (by omega) c_2 c_3
        obtain ⟨N, hN⟩ : ∃ N : Nat, N = tn seeds := ⟨_, rfl⟩
        have hN20 : N ≤ 20 := by rw [hN]; exact hsd.1
        have hNs : seeds = nI N := by rw [hN]; exact hsd.2.1
        have hN1 : 1 ≤ N := by rw [hN]; exact hsd.2.2
        refine lv_lconst (v := 0) hx hb dX4_often_26 (by decide) ?_
        refine lv_lstore_n (lv' := [(3, .long 0), (0, .ref (a 0)), (1, .int ce), (2, .int seeds)]) hx hb dX4_often_27 rfl hl (by decide) rfl (fun ls hl => ?_)
        refine lv_iconst (v := 1) hx hb dX4_often_28 (by decide) ?_
        refine lv_istore (lv' := [(5, .int 1), (3, .long 0), (0, .ref (a 0)), (1, .int ce), (2, .int seeds)]) hx hb dX4_often_29 hl (by decide) rfl (fun ls hl => ?_)
        have loop_i : ∀ (ri i : Nat), i + ri * 1 = (N + 1) → ∀ (ls : Array Slot) (H : Heap) (locs : List Loc) , lv_has ls 6 [(5, .int (nI i)), (3, .long ((of_ S n ce (T, tr, 0, false) i).2.2.1)), (0, .ref (a 0)), (1, .int ce), (2, .int seeds)] → va_P k.1 vwCl (xW k a S (of_ S n ce (T, tr, 0, false) i).1 dr (of_ S n ce (T, tr, 0, false) i).2.1 C F G) H → va_D A (xW k a S (of_ S n ce (T, tr, 0, false) i).1 dr (of_ S n ce (T, tr, 0, false) i).2.1 C F G) → va_S A s.heap H locs → (1 ≤ i ∧ (of_ S n ce (T, tr, 0, false) i).2.2.2 = false) → WW p l e s m below meth c yX4_often cX4_often 6 (some .long) (rz 5 121) [.ref (a 0), .int ce, .int seeds] (some (.long (w_X4_often S T tr n ce seeds))) k (xW k a S (ofE S T tr n ce seeds).1 dr (ofE S T tr n ce seeds).2.1 C F G) A H locs (F0 m 31 ls []) := by
          intro ri
          induction ri with
          | zero =>
            intro i hi_i ls H locs hl hP hD hS hv_i
            have he_i : (N + 1) = i := by omega
            subst he_i
            refine lv_iload hx hb dX4_often_31 (lv_at hl 0 rfl) ?_
            refine lv_iload_n hx hb dX4_often_33 rfl (lv_at hl 4 rfl) ?_
            refine xb_gt (tgt := 89) hx hb dX4_often_34 (by decide) (fun c_4 => ?_) (fun c9 => absurd (by rw [hNs]; exact nI_lt (by omega) (by omega)) c9)
            refine lv_lload_n hx hb dX4_often_89 rfl (lv_at hl 1 rfl) ?_
            have hE : ofE S T tr n ce seeds = (of_ S n ce (T, tr, 0, false) (N + 1)) := by rw [ofE, if_neg c_1, if_neg c_2, if_neg c_3, ← hN]
            have hP9 : va_P k.1 vwCl (xW k a S (ofE S T tr n ce seeds).1 dr (ofE S T tr n ce seeds).2.1 C F G) H := by rw [hE]; exact hP
            have hD9 : va_D A (xW k a S (ofE S T tr n ce seeds).1 dr (ofE S T tr n ce seeds).2.1 C F G) := by rw [hE]; exact hD
            exact W.lret (v := ((of_ S n ce (T, tr, 0, false) (N + 1)).2.2.1)) hx hb hr (fun t ht hW => ⟨⟨by rw [w_X4_often, hE, if_neg (by rw [hv_i.2]; decide)], by rw [ht]; exact hP9, hD9⟩, hS.F ht⟩) hS.2.2 dX4_often_90
          | succ ri ih_i =>
            intro i hi_i ls H locs hl hP hD hS hv_i
            have ht_i : i < (N + 1) := by omega
            refine lv_iload hx hb dX4_often_31 (lv_at hl 0 rfl) ?_
            refine lv_iload_n hx hb dX4_often_33 rfl (lv_at hl 4 rfl) ?_
            refine xb_gt (tgt := 89) hx hb dX4_often_34 (by decide) (fun c9 => absurd c9 (by rw [hNs]; exact nI_nlt (by omega) (by omega))) (fun c_5 => ?_)
            refine lv_aload_n hx hb dX4_often_37 rfl (lv_at hl 2 rfl) ?_
            refine va_get (D := k.1) (ci := 4) (v := .ref (a 15)) (C := RX4) (T := TX4) (N := 10) hx hb hU inlX4 hown hK.1 hP 0 rfl rfl 3 (by decide) (hU _ uF_X4_36) (fun _ h9 => h9) rfl dX4_often_38 ?_
            refine lv_iload hx hb dX4_often_41 (lv_at hl 0 rfl) ?_
            refine lv_i2l (v := (Int32.toInt64 (nI i))) hx hb dX4_often_43 rfl ?_
            refine wc1 (n := 1) (As := [.long (Int32.toInt64 (nI i))]) (rest := []) hF (c_X1_start l k (fun _ => a 15) (of_ S n ce (T, tr, 0, false) i).2.1 (Int32.toInt64 (nI i))) hP hD hS hA hK 15 (ci := 1) rfl rfl ⟨rfl, rfl⟩ uC_X1_start uN_X1 nM_X4_32 uI_X1_start uE_X1_start (by decide +kernel) rfl ⟨Nat.le_of_ble_eq_true rfl, Nat.le_of_ble_eq_true rfl⟩ ⟨Nat.zero_le _, Nat.zero_le _⟩ hl.1 rfl (Nat.le_of_ble_eq_true rfl) dX4_often_44 (fun H locs hP hD hS => ?_)
            have hP : va_P k.1 vwCl (xW k a S (of_ S n ce (T, tr, 0, false) i).1 dr (w_X1_start_dr (Int32.toInt64 (nI i))) C F G) H := hP
            have hD : va_D A (xW k a S (of_ S n ce (T, tr, 0, false) i).1 dr (w_X1_start_dr (Int32.toInt64 (nI i))) C F G) := hD
            refine lv_aload_n hx hb dX4_often_47 rfl (lv_at hl 2 rfl) ?_
            refine lv_aload_n hx hb dX4_often_48 rfl (lv_at hl 2 rfl) ?_
            refine va_get (D := k.1) (ci := 4) (v := .ref (a 15)) (C := RX4) (T := TX4) (N := 10) hx hb hU inlX4 hown hK.1 hP 0 rfl rfl 3 (by decide) (hU _ uF_X4_36) (fun _ h9 => h9) rfl dX4_often_49 ?_
            refine lv_bipush (v := 40) hx hb dX4_often_52 (by decide) ?_
            refine wcV (n := 2) (As := [.ref (a 15), .int 40]) (rest := []) hF (c_X4_drawnMoves_tr l k a S (of_ S n ce (T, tr, 0, false) i).1 dr (w_X1_start_dr (Int32.toInt64 (nI i))) C F G 40 n hn hc (by omega)) hP hD hS hA hK 0 (ci := 4) rfl rfl rfl uC_X4_drawnMoves uN_X4 uM_X4_176 uI_X4_drawnMoves uE_X4_drawnMoves (by decide +kernel) rfl ⟨Nat.le_of_ble_eq_true rfl, Nat.le_of_ble_eq_true rfl⟩ ⟨Nat.zero_le _, Nat.zero_le _⟩ hl.1 rfl (Nat.le_of_ble_eq_true rfl) dX4_often_54 (fun H locs hP hD hS => ?_)
            have hP : va_P k.1 vwCl (xW k a S (w_dmT_tr S (of_ S n ce (T, tr, 0, false) i).1 (w_X1_start_dr (Int32.toInt64 (nI i))) n 40) dr (w_dmx_tr S (of_ S n ce (T, tr, 0, false) i).1 (w_X1_start_dr (Int32.toInt64 (nI i))) n 40) C F G) H := hP
            have hD : va_D A (xW k a S (w_dmT_tr S (of_ S n ce (T, tr, 0, false) i).1 (w_X1_start_dr (Int32.toInt64 (nI i))) n 40) dr (w_dmx_tr S (of_ S n ce (T, tr, 0, false) i).1 (w_X1_start_dr (Int32.toInt64 (nI i))) n 40) C F G) := hD
            refine lv_iconst (v := (-1)) hx hb dX4_often_57 (by decide) ?_
            refine lv_icmp_ne (tgt := 65) hx hb dX4_often_58 (by decide) (fun c_6 => ?_) (fun c_6 => ?_)
            · refine lv_aload_n hx hb dX4_often_65 rfl (lv_at hl 2 rfl) ?_
              refine va_get (D := k.1) (ci := 4) (v := .ref (a 11)) (C := RX4) (T := TX4) (N := 10) hx hb hU inlX4 hown hK.1 hP 0 rfl rfl 1 (by decide) (hU _ uF_X4_21) (fun _ h9 => h9) rfl dX4_often_66 ?_
              refine va_getN (D := k.1) (ci := 3) (v := .int (T_cells (w_dmT_tr S (of_ S n ce (T, tr, 0, false) i).1 (w_X1_start_dr (Int32.toInt64 (nI i))) n 40))) (C := RX3) (T := TX3) (N := 7) hx hb hU inlX3 hown hK.1 hP 11 rfl rfl 3 (by decide) (hK.nf nF_X4_180) (fun _ h9 => h9) rfl dX4_often_69 ?_
              refine lv_iload_n hx hb dX4_often_72 rfl (lv_at hl 3 rfl) ?_
              refine rcS (n := 2) (As := [.int (T_cells (w_dmT_tr S (of_ S n ce (T, tr, 0, false) i).1 (w_X1_start_dr (Int32.toInt64 (nI i))) n 40)), .int ce]) (rest := []) hF (c_X4_hasBit l k (T_cells (w_dmT_tr S (of_ S n ce (T, tr, 0, false) i).1 (w_X1_start_dr (Int32.toInt64 (nI i))) n 40)) ce) (hP.sub (ws' := []) [] rfl) hK uC_X4_hasBit uN_X4 uM_X4_120 uS_X4_hasBit (by decide +kernel) rfl ⟨Nat.le_of_ble_eq_true rfl, Nat.le_of_ble_eq_true rfl⟩ ⟨Nat.zero_le _, Nat.zero_le _⟩ hl.1 rfl (Nat.le_of_ble_eq_true rfl) dX4_often_73 ?_
              refine lv_if_eq (tgt := 83) hx hb dX4_often_76 (by decide) (fun c_7 => ?_) (fun c_7 => ?_)
              · refine lv_iinc (v := nI (i + 1)) (lv' := [(5, .int (nI (i + 1))), (3, .long ((of_ S n ce (T, tr, 0, false) i).2.2.1)), (0, .ref (a 0)), (1, .int ce), (2, .int seeds)]) hx hb dX4_often_83 hl (k := 0) rfl (nI_add i 1) (by decide) rfl (fun ls hl => ?_)
                refine lv_goto (tgt := 31) hx hb dX4_often_86 (by decide) ?_
                have hq3 : (of_ S n ce (T, tr, 0, false) i).2.2.1 = (of_ S n ce (T, tr, 0, false) (i + 1)).2.2.1 := by rw [of_, if_neg (by omega), ofs, if_neg (by rw [hv_i.2]; decide), if_neg c_6, if_pos c_7]
                rw [hq3] at hl
                have hq1 : (w_dmT_tr S (of_ S n ce (T, tr, 0, false) i).1 (w_X1_start_dr (Int32.toInt64 (nI i))) n 40) = (of_ S n ce (T, tr, 0, false) (i + 1)).1 := by rw [of_, if_neg (by omega), ofs, if_neg (by rw [hv_i.2]; decide), if_neg c_6, if_pos c_7]
                rw [hq1] at hP hD
                have hq2 : (w_dmx_tr S (of_ S n ce (T, tr, 0, false) i).1 (w_X1_start_dr (Int32.toInt64 (nI i))) n 40) = (of_ S n ce (T, tr, 0, false) (i + 1)).2.1 := by rw [of_, if_neg (by omega), ofs, if_neg (by rw [hv_i.2]; decide), if_neg c_6, if_pos c_7]
                rw [hq2] at hP hD
                have hq4 : (of_ S n ce (T, tr, 0, false) (i + 1)).2.2.2 = false := by rw [of_, if_neg (by omega), ofs, if_neg (by rw [hv_i.2]; decide), if_neg c_6, if_pos c_7]
                exact ih_i (i + 1) (by omega) ls _ _ (lv_sub hl [0, 1, 2, 3, 4] rfl) hP hD hS ⟨by omega, hq4⟩
              · refine lv_lload_n hx hb dX4_often_79 rfl (lv_at hl 1 rfl) ?_
                refine lv_lconst (v := 1) hx hb dX4_often_80 (by decide) ?_
                refine lv_ladd hx hb dX4_often_81 ?_
                refine lv_lstore_n (lv' := [(3, .long (((of_ S n ce (T, tr, 0, false) i).2.2.1) + 1)), (5, .int (nI i)), (0, .ref (a 0)), (1, .int ce), (2, .int seeds)]) hx hb dX4_often_82 rfl hl (by decide) rfl (fun ls hl => ?_)
                refine lv_iinc (v := nI (i + 1)) (lv' := [(5, .int (nI (i + 1))), (3, .long (((of_ S n ce (T, tr, 0, false) i).2.2.1) + 1)), (0, .ref (a 0)), (1, .int ce), (2, .int seeds)]) hx hb dX4_often_83 hl (k := 1) rfl (nI_add i 1) (by decide) rfl (fun ls hl => ?_)
                refine lv_goto (tgt := 31) hx hb dX4_often_86 (by decide) ?_
                have hq3 : (((of_ S n ce (T, tr, 0, false) i).2.2.1) + 1) = (of_ S n ce (T, tr, 0, false) (i + 1)).2.2.1 := by rw [of_, if_neg (by omega), ofs, if_neg (by rw [hv_i.2]; decide), if_neg c_6, if_neg c_7]
                rw [hq3] at hl
                have hq1 : (w_dmT_tr S (of_ S n ce (T, tr, 0, false) i).1 (w_X1_start_dr (Int32.toInt64 (nI i))) n 40) = (of_ S n ce (T, tr, 0, false) (i + 1)).1 := by rw [of_, if_neg (by omega), ofs, if_neg (by rw [hv_i.2]; decide), if_neg c_6, if_neg c_7]
                rw [hq1] at hP hD
                have hq2 : (w_dmx_tr S (of_ S n ce (T, tr, 0, false) i).1 (w_X1_start_dr (Int32.toInt64 (nI i))) n 40) = (of_ S n ce (T, tr, 0, false) (i + 1)).2.1 := by rw [of_, if_neg (by omega), ofs, if_neg (by rw [hv_i.2]; decide), if_neg c_6, if_neg c_7]
                rw [hq2] at hP hD
                have hq4 : (of_ S n ce (T, tr, 0, false) (i + 1)).2.2.2 = false := by rw [of_, if_neg (by omega), ofs, if_neg (by rw [hv_i.2]; decide), if_neg c_6, if_neg c_7]
                exact ih_i (i + 1) (by omega) ls _ _ (lv_sub hl [0, 1, 2, 3, 4] rfl) hP hD hS ⟨by omega, hq4⟩
            · refine lv_ldc2 hx hb hown (hU _ uK_X4_54) dX4_often_61 ?_
              have hE1 : (of_ S n ce (T, tr, 0, false) (i + 1)) = ((w_dmT_tr S (of_ S n ce (T, tr, 0, false) i).1 (w_X1_start_dr (Int32.toInt64 (nI i))) n 40), (w_dmx_tr S (of_ S n ce (T, tr, 0, false) i).1 (w_X1_start_dr (Int32.toInt64 (nI i))) n 40), (of_ S n ce (T, tr, 0, false) i).2.2.1, true) := by rw [of_, if_neg (by omega), ofs, if_neg (by rw [hv_i.2]; decide), if_pos c_6]
              have hE : ofE S T tr n ce seeds = ((w_dmT_tr S (of_ S n ce (T, tr, 0, false) i).1 (w_X1_start_dr (Int32.toInt64 (nI i))) n 40), (w_dmx_tr S (of_ S n ce (T, tr, 0, false) i).1 (w_X1_start_dr (Int32.toInt64 (nI i))) n 40), (of_ S n ce (T, tr, 0, false) i).2.2.1, true) := by rw [ofE, if_neg c_1, if_neg c_2, if_neg c_3, ← hN, of_stop (i := i + 1) (by omega) (by rw [hE1]) (by omega), hE1]
              have hP9 : va_P k.1 vwCl (xW k a S (ofE S T tr n ce seeds).1 dr (ofE S T tr n ce seeds).2.1 C F G) H := by rw [hE]; exact hP
              have hD9 : va_D A (xW k a S (ofE S T tr n ce seeds).1 dr (ofE S T tr n ce seeds).2.1 C F G) := by rw [hE]; exact hD
              exact W.lret (v := (-1)) hx hb hr (fun t ht hW => ⟨⟨by rw [w_X4_often, hE]; rfl, by rw [ht]; exact hP9, hD9⟩, hS.F ht⟩) hS.2.2 dX4_often_64
        exact loop_i (((N + 1) - 1) / 1) 1 (by omega) ls _ _ (lv_sub hl [0, 1, 2, 3, 4] rfl) hP hD hS ⟨Nat.le_refl 1, rfl⟩
      · refine lv_ldc2 hx hb hown (hU _ uK_X4_54) dX4_often_22 ?_
        have hE : ofE S T tr n ce seeds = (T, tr, 0, true) := by rw [ofE, if_neg c_1, if_neg c_2, if_pos c_3]
        have hP9 : va_P k.1 vwCl (xW k a S (ofE S T tr n ce seeds).1 dr (ofE S T tr n ce seeds).2.1 C F G) s.heap := by rw [hE]; exact hP
        have hD9 : va_D A (xW k a S (ofE S T tr n ce seeds).1 dr (ofE S T tr n ce seeds).2.1 C F G) := by rw [hE]; exact hD
        exact W.lret (v := (-1)) hx hb hr (fun t ht hW => ⟨⟨by rw [w_X4_often, hE]; rfl, by rw [ht]; exact hP9, hD9⟩, hS.F ht⟩) hS.2.2 dX4_often_25
