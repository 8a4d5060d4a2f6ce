def rA (M : ModT) (n : Nat) : Nat → ModT
  | 0 => sM_clashes (sM_hasRun M 1) 0
  | i + 1 => if w_X5_meets (rA M n i) (opn (rA M n i) n) n i = 0 then sM_clashes (rA M n i) (M_clashes (rA M n i) ||| (1 <<< (nI i &&& 31))) else sM_clashes (rA M n i) (M_clashes (rA M n i))
def q_fr (M : ModT) : Nat → Bool := fun c => decide (M_states M c = 0)
def mst (M : ModT) : Nat → Int32
  | 0 => 0
  | i + 1 => if M_states M i = 1 then mst M i ||| (1 <<< (nI i &&& 31)) else mst M i
def f_cm (M : ModT) : Nat → Int64 := fun c => if M_states M c = 1 then M_costs M c else 0
/-- the choice number v: the free cells whose bits are set, and those that must be -/
def rS (M : ModT) (n v : Nat) : Nat → Int32
  | 0 => mst M n
  | i + 1 => if M_states M i = 0 then (if w_X5_has (nI v) (nI (cq (q_fr M) i)) = 0 then rS M n v i else rS M n v i ||| (1 <<< (nI i &&& 31))) else rS M n v i
abbrev RcT : Type := Int32 × Int32 × Int64
def rCs (M : ModT) (n : Nat) (y : RcT) (v : Nat) : RcT :=
  if y.1 = 0 then (if w_X5_stands M (rS M n v n) n = 0 then y else (1, rS M n v n, w_X5_costOf M (rS M n v n) n))
  else if w_X5_costOf M (rS M n v n) n < y.2.2 then (if w_X5_stands M (rS M n v n) n = 0 then y else (1, rS M n v n, w_X5_costOf M (rS M n v n) n))
  else if w_X5_costOf M (rS M n v n) n = y.2.2 then (if w_X5_isBefore (rS M n v n) y.2.1 n = 0 then y else if w_X5_stands M (rS M n v n) n = 0 then y else (1, rS M n v n, w_X5_costOf M (rS M n v n) n))
  else y
def rC (M : ModT) (n : Nat) : Nat → RcT
  | 0 => (0, 0, 0)
  | i + 1 => rCs M n (rC M n i) i
theorem rC_01 (M : ModT) (n i : Nat) : (rC M n i).1 = 0 ∨ (rC M n i).1 = 1 := by
  induction i with
  | zero => exact Or.inl rfl
  | succ i ih =>
    rw [rC, rCs]
    split
    · split
      · exact ih
      · exact Or.inr rfl
    · split
      · split
        · exact ih
        · exact Or.inr rfl
      · split
        · split
          · exact ih
          · split
            · exact ih
            · exact Or.inr rfl
        · exact ih
def fr_n (M : ModT) (n : Nat) : Nat := cq (q_fr M) n
def big (M : ModT) (n : Nat) (nodes : Int64) : Prop := 12 < nI (fr_n M n) ∨ nodes < lh 1 (nI (fr_n M n))

def w_X5_run (M : ModT) (n : Nat) (nodes : Int64) : Int32 := if 12 < nI (fr_n (rA M n 8) n) then 2 else if nodes < lh 1 (nI (fr_n (rA M n 8) n)) then 2 else if (rC (rA M n 8) n (2 ^ fr_n (rA M n 8) n)).1 = 0 then 1 else 0
def w_X5_run_2 (M : ModT) (n : Nat) : ModT := sM_answer (sM_bound (w_X5_become_M (rA M n 8) 0 0 0) (sm (f_cm (rA M n 8)) n)) 2
def w_X5_run_M (M : ModT) (n : Nat) (nodes : Int64) : ModT := if 12 < nI (fr_n (rA M n 8) n) then w_X5_run_2 M n else if nodes < lh 1 (nI (fr_n (rA M n 8) n)) then w_X5_run_2 M n else
  if (rC (rA M n 8) n (2 ^ fr_n (rA M n 8) n)).1 = 0 then sM_answer (sM_bound (w_X5_become_M (rA M n 8) (rC (rA M n 8) n (2 ^ fr_n (rA M n 8) n)).1 (rC (rA M n 8) n (2 ^ fr_n (rA M n 8) n)).2.1 (rC (rA M n 8) n (2 ^ fr_n (rA M n 8) n)).2.2) (-1)) 1 else sM_answer (sM_bound (w_X5_become_M (rA M n 8) (rC (rA M n 8) n (2 ^ fr_n (rA M n 8) n)).1 (rC (rA M n 8) n (2 ^ fr_n (rA M n 8) n)).2.1 (rC (rA M n 8) n (2 ^ fr_n (rA M n 8) n)).2.2) (rC (rA M n 8) n (2 ^ fr_n (rA M n 8) n)).2.2) 0

set_option maxHeartbeats 4000000 in
set_option maxRecDepth 100000 in
theorem c_X5_run (l : Launch) (k : KT) (a : Nat → Nat) (M : ModT) (nodes : Int64) (n : Nat) (hn : n ≤ 24) (hc : M_cells M = nI n) : MW l yX5_run cX5_run 16 (some .int) (rz 4 91) k [.ref (a 0), .long nodes] (mW k a M) (some (.int (w_X5_run M n nodes))) (mW k a (w_X5_run_M M n nodes)) := by
  intro sz
  refine Met.ofW (cc := cX5_run) (maxL := 16) (ret := (some .int)) (by decide) rfl ?_
  intro p e s m args below meth c s₁ B hml hv
  obtain ⟨rfl, hsz, hP, hK, hD0⟩ := hv
  have hx := B.exec
  have hb := B.bytes
  have hr := B.returns
  have hU : ∀ w ∈ wsL_law, w.before [.ref (a 0), .long nodes].toArray s = true := fun w h => atoms_spec (ws := Cond.code yX5_run cX5_run 16 (some .int) :: wsL_law) B.pre w (List.mem_cons_of_mem _ h)
  have hown : s.vm.findClass RX5 = some m.cls := findClass_of_methodNamed B.named
  have hlocks := B.notSynchronized
  have hF : CF p m c cX5_run 16 s [.ref (a 0), .long nodes].toArray RX5 := ⟨hx, hb, hml, hown, hU⟩
  subst hsz
  have hD := hD0.self (sz := s.heap.size)
  generalize hAe : va_A (mW k a M) s.heap.size = A at hD ⊢
  have hA : ∀ q : Nat, s.heap.size ≤ q → A q := fun q h => by rw [← hAe]; exact Or.inr h
  have hS : va_S A s.heap s.heap [] := va_S.rf
  have hl := lv_entry ([.ref (a 0), .long nodes] : List Value) (n := 16) (Nat.le_of_ble_eq_true rfl)
  rw [lg_entry_eq]
  generalize (lg_sl ([.ref (a 0), .long nodes] : List Value) ++ List.replicate (16 - (lg_sl ([.ref (a 0), .long nodes] : List Value)).length) Slot.unset).toArray = ls at hl ⊢
  have hl : lv_has ls 16 [(0, .ref (a 0)), (1, .long nodes)] := hl
  refine lv_aload_n hx hb dX5_run_0 rfl (lv_at hl 0 rfl) ?_
  refine lv_iconst (v := 1) hx hb dX5_run_1 (by decide) ?_
  refine va_put (D := k.1) (ci := 5) (v := .int 1) (ty := .boolean) (C := RX5) (T := TX5) (N := 27) hx hb hU inlX5 tyX5 tyX5_ok nmX5 hown hK.1 hP hD hS 0 rfl rfl 20 (by decide) (hU _ uF_X5_133) (fun _ h9 => h9) rfl (by decide +kernel) rfl rfl (Nat.le_of_ble_eq_true rfl) dX5_run_2 (fun H locs hP hD hS => ?_)
  have hP := pz_m_0_20 k a M 1 hP
  have hD := dz_m_0_20 k a M 1 hD
  refine lv_aload_n hx hb dX5_run_5 rfl (lv_at hl 0 rfl) ?_
  refine lv_iconst (v := 0) hx hb dX5_run_6 (by decide) ?_
  refine va_put (D := k.1) (ci := 5) (v := .int 0) (ty := .int) (C := RX5) (T := TX5) (N := 27) hx hb hU inlX5 tyX5 tyX5_ok nmX5 hown hK.1 hP hD hS 0 rfl rfl 23 (by decide) (hU _ uF_X5_136) (fun _ h9 => h9) rfl (by decide +kernel) rfl rfl (Nat.le_of_ble_eq_true rfl) dX5_run_7 (fun H locs hP hD hS => ?_)
  have hP := pz_m_0_23 k a (sM_hasRun M 1) 0 hP
  have hD := dz_m_0_23 k a (sM_hasRun M 1) 0 hD
  refine lv_iconst (v := 0) hx hb dX5_run_10 (by decide) ?_
  refine lv_istore_n (lv' := [(3, .int 0), (0, .ref (a 0)), (1, .long nodes)]) hx hb dX5_run_11 rfl hl (by decide) rfl (fun ls hl => ?_)
  have loop_g : ∀ (rg g : Nat), g + rg * 1 = 8 → ∀ (ls : Array Slot) (H : Heap) (locs : List Loc) , lv_has ls 16 [(3, .int (nI g)), (0, .ref (a 0)), (1, .long nodes)] → va_P k.1 vwCl (mW k a (rA M n g)) H → va_D A (mW k a (rA M n g)) → va_S A s.heap H locs → M_cells (rA M n g) = nI n → WW p l e s m below meth c yX5_run cX5_run 16 (some .int) (rz 4 91) [.ref (a 0), .long nodes] (some (.int (w_X5_run M n nodes))) k (mW k a (w_X5_run_M M n nodes)) A H locs (F0 m 12 ls []) := by
    intro rg
    induction rg with
    | zero =>
      intro g hi_g ls H locs hl hP hD hS hv_g
      have he_g : 8 = g := by omega
      subst he_g
      refine lv_iload_n hx hb dX5_run_12 rfl (lv_at hl 0 rfl) ?_
      refine lv_bipush (v := 8) hx hb dX5_run_13 (by decide) ?_
      refine xb_ge (tgt := 55) hx hb dX5_run_15 (by decide) (fun c_1 => ?_) (fun c9 => absurd c9 (nI_nlt (a := 8) (b := 8) (Nat.le_refl _) (by omega)))
      refine lv_iconst (v := 0) hx hb dX5_run_55 (by decide) ?_
      refine lv_istore_n (lv' := [(3, .int 0), (0, .ref (a 0)), (1, .long nodes)]) hx hb dX5_run_56 rfl hl (by decide) rfl (fun ls hl => ?_)
      refine lv_iconst (v := 0) hx hb dX5_run_57 (by decide) ?_
      refine lv_istore (lv' := [(4, .int 0), (3, .int 0), (0, .ref (a 0)), (1, .long nodes)]) hx hb dX5_run_58 hl (by decide) rfl (fun ls hl => ?_)
      refine lv_lconst (v := 0) hx hb dX5_run_60 (by decide) ?_
      refine lv_lstore (lv' := [(5, .long 0), (4, .int 0), (3, .int 0), (0, .ref (a 0)), (1, .long nodes)]) hx hb dX5_run_61 hl (by decide) rfl (fun ls hl => ?_)
      refine lv_iconst (v := 0) hx hb dX5_run_63 (by decide) ?_
      refine lv_istore (lv' := [(7, .int 0), (5, .long 0), (4, .int 0), (3, .int 0), (0, .ref (a 0)), (1, .long nodes)]) hx hb dX5_run_64 hl (by decide) rfl (fun ls hl => ?_)
      have loop_i : ∀ (ri i : Nat), i + ri * 1 = n → ∀ (ls : Array Slot) (H : Heap) (locs : List Loc) , lv_has ls 16 [(7, .int (nI i)), (5, .long (sm (f_cm (rA M n 8)) i)), (4, .int (mst (rA M n 8) i)), (3, .int (nI (cq (q_fr (rA M n 8)) i))), (0, .ref (a 0)), (1, .long nodes)] → va_P k.1 vwCl (mW k a (rA M n 8)) H → va_D A (mW k a (rA M n 8)) → va_S A s.heap H locs → WW p l e s m below meth c yX5_run cX5_run 16 (some .int) (rz 4 91) [.ref (a 0), .long nodes] (some (.int (w_X5_run M n nodes))) k (mW k a (w_X5_run_M M n nodes)) A H locs (F0 m 66 ls []) := by
        intro ri
        induction ri with
        | zero =>
          intro i hi_i ls H locs hl hP hD hS
          have he_i : n = i := by omega
          subst he_i
          refine lv_iload hx hb dX5_run_66 (lv_at hl 0 rfl) ?_
          refine lv_aload_n hx hb dX5_run_68 rfl (lv_at hl 4 rfl) ?_
          refine va_get (D := k.1) (ci := 5) (v := .int (M_cells (rA M n 8))) (C := RX5) (T := TX5) (N := 27) hx hb hU inlX5 hown hK.1 hP 0 rfl rfl 0 (by decide) (hU _ uF_X5_49) (fun _ h9 => h9) rfl dX5_run_69 ?_
          refine xb_ge (tgt := 151) hx hb dX5_run_72 (by decide) (fun c_2 => ?_) (fun c9 => absurd c9 (by rw [hv_g]; exact nI_nlt (a := n) (b := n) (Nat.le_refl _) (by omega)))
          refine lv_iload_n hx hb dX5_run_151 rfl (lv_at hl 3 rfl) ?_
          refine lv_bipush (v := 12) hx hb dX5_run_152 (by decide) ?_
          refine xb_gt (tgt := 165) hx hb dX5_run_154 (by decide) (fun c_3 => ?_) (fun c_3 => ?_)
          · refine lv_aload_n hx hb dX5_run_165 rfl (lv_at hl 4 rfl) ?_
            refine lv_iconst (v := 0) hx hb dX5_run_166 (by decide) ?_
            refine lv_iconst (v := 0) hx hb dX5_run_167 (by decide) ?_
            refine lv_lconst (v := 0) hx hb dX5_run_168 (by decide) ?_
            refine wcV (n := 3) (As := [.int 0, .int 0, .long 0]) (rest := []) hF (c_X5_become l k a (rA M n 8) 0 0 0 (Or.inl rfl)) hP hD hS hA hK 0 (ci := 5) rfl rfl rfl uC_X5_become uN_X5 uM_X5_142 uI_X5_become uE_X5_become (by decide +kernel) rfl ⟨Nat.le_of_ble_eq_true rfl, Nat.le_of_ble_eq_true rfl⟩ ⟨Nat.zero_le _, Nat.zero_le _⟩ hl.1 rfl (Nat.le_of_ble_eq_true rfl) dX5_run_169 (fun H locs hP hD hS => ?_)
            have hP : va_P k.1 vwCl (mW k a (w_X5_become_M (rA M n 8) 0 0 0)) H := hP
            have hD : va_D A (mW k a (w_X5_become_M (rA M n 8) 0 0 0)) := hD
            refine lv_aload_n hx hb dX5_run_172 rfl (lv_at hl 4 rfl) ?_
            refine lv_lload hx hb dX5_run_173 (lv_at hl 1 rfl) ?_
            refine va_put (D := k.1) (ci := 5) (v := .long (sm (f_cm (rA M n 8)) n)) (ty := .long) (C := RX5) (T := TX5) (N := 27) hx hb hU inlX5 tyX5 tyX5_ok nmX5 hown hK.1 hP hD hS 0 rfl rfl 22 (by decide) (hU _ uF_X5_146) (fun _ h9 => h9) rfl (by decide +kernel) rfl rfl (Nat.le_of_ble_eq_true rfl) dX5_run_175 (fun H locs hP hD hS => ?_)
            have hP := pz_m_0_22 k a (w_X5_become_M (rA M n 8) 0 0 0) (sm (f_cm (rA M n 8)) n) hP
            have hD := dz_m_0_22 k a (w_X5_become_M (rA M n 8) 0 0 0) (sm (f_cm (rA M n 8)) n) hD
            refine lv_aload_n hx hb dX5_run_178 rfl (lv_at hl 4 rfl) ?_
            refine lv_iconst (v := 2) hx hb dX5_run_179 (by decide) ?_
            refine va_put (D := k.1) (ci := 5) (v := .int 2) (ty := .int) (C := RX5) (T := TX5) (N := 27) hx hb hU inlX5 tyX5 tyX5_ok nmX5 hown hK.1 hP hD hS 0 rfl rfl 21 (by decide) (hU _ uF_X5_149) (fun _ h9 => h9) rfl (by decide +kernel) rfl rfl (Nat.le_of_ble_eq_true rfl) dX5_run_180 (fun H locs hP hD hS => ?_)
            have hP := pz_m_0_21 k a (sM_bound (w_X5_become_M (rA M n 8) 0 0 0) (sm (f_cm (rA M n 8)) n)) 2 hP
            have hD := dz_m_0_21 k a (sM_bound (w_X5_become_M (rA M n 8) 0 0 0) (sm (f_cm (rA M n 8)) n)) 2 hD
            refine lv_iconst (v := 2) hx hb dX5_run_183 (by decide) ?_
            have hP9 : va_P k.1 vwCl (mW k a (w_X5_run_M M n nodes)) H := by rw [w_X5_run_M]; unfold fr_n; rw [if_pos c_3]; exact hP
            have hD9 : va_D A (mW k a (w_X5_run_M M n nodes)) := by rw [w_X5_run_M]; unfold fr_n; rw [if_pos c_3]; exact hD
            exact W.iret (v := 2) hx hb hr (fun t ht hW => ⟨⟨by rw [w_X5_run]; unfold fr_n; rw [if_pos c_3], by rw [ht]; exact hP9, hD9⟩, hS.F ht⟩) hS.2.2 dX5_run_184
          · refine lv_lconst (v := 1) hx hb dX5_run_157 (by decide) ?_
            refine lv_iload_n hx hb dX5_run_158 rfl (lv_at hl 3 rfl) ?_
            refine lv_lshl (v := (lh 1 (nI (cq (q_fr (rA M n 8)) n)))) hx hb dX5_run_159 rfl ?_
            refine lv_lload_n hx hb dX5_run_160 rfl (lv_at hl 5 rfl) ?_
            refine xl_le (tgt := 185) hx hb dX5_run_161 dX5_run_162 (by decide) (fun c_4 => ?_) (fun c_4 => ?_)
            · have hm12 : fr_n (rA M n 8) n ≤ 12 := by rcases Nat.lt_or_ge 12 (fr_n (rA M n 8) n) with h | h; exact absurd (nI_lt h (by have := cq_le (q_fr (rA M n 8)) n; unfold fr_n; omega)) c_3; exact h
              obtain ⟨wy, hwy⟩ : ∃ wy : Nat, wy = 2 ^ fr_n (rA M n 8) n := ⟨_, rfl⟩
              have hwl : wy ≤ 4096 := by rw [hwy]; exact m2_pos hm12
              refine lv_iconst (v := 0) hx hb dX5_run_185 (by decide) ?_
              refine lv_istore (lv' := [(7, .int 0), (5, .long (sm (f_cm (rA M n 8)) n)), (4, .int (mst (rA M n 8) n)), (3, .int (nI (cq (q_fr (rA M n 8)) n))), (0, .ref (a 0)), (1, .long nodes)]) hx hb dX5_run_186 hl (by decide) rfl (fun ls hl => ?_)
              refine lv_iconst (v := 0) hx hb dX5_run_188 (by decide) ?_
              refine lv_istore (lv' := [(8, .int 0), (7, .int 0), (5, .long (sm (f_cm (rA M n 8)) n)), (4, .int (mst (rA M n 8) n)), (3, .int (nI (cq (q_fr (rA M n 8)) n))), (0, .ref (a 0)), (1, .long nodes)]) hx hb dX5_run_189 hl (by decide) rfl (fun ls hl => ?_)
              refine lv_lconst (v := 0) hx hb dX5_run_191 (by decide) ?_
              refine lv_lstore (lv' := [(9, .long 0), (8, .int 0), (7, .int 0), (5, .long (sm (f_cm (rA M n 8)) n)), (4, .int (mst (rA M n 8) n)), (3, .int (nI (cq (q_fr (rA M n 8)) n))), (0, .ref (a 0)), (1, .long nodes)]) hx hb dX5_run_192 hl (by decide) rfl (fun ls hl => ?_)
              refine lv_iconst (v := 0) hx hb dX5_run_194 (by decide) ?_
              refine lv_istore (lv' := [(11, .int 0), (9, .long 0), (8, .int 0), (7, .int 0), (5, .long (sm (f_cm (rA M n 8)) n)), (4, .int (mst (rA M n 8) n)), (3, .int (nI (cq (q_fr (rA M n 8)) n))), (0, .ref (a 0)), (1, .long nodes)]) hx hb dX5_run_195 hl (by decide) rfl (fun ls hl => ?_)
              have loop_v : ∀ (rv v : Nat), v + rv * 1 = wy → ∀ (ls : Array Slot) (H : Heap) (locs : List Loc) , lv_has ls 16 [(11, .int (nI v)), (9, .long ((rC (rA M n 8) n v).2.2)), (8, .int ((rC (rA M n 8) n v).2.1)), (7, .int ((rC (rA M n 8) n v).1)), (5, .long (sm (f_cm (rA M n 8)) n)), (4, .int (mst (rA M n 8) n)), (3, .int (nI (cq (q_fr (rA M n 8)) n))), (0, .ref (a 0)), (1, .long nodes)] → va_P k.1 vwCl (mW k a (rA M n 8)) H → va_D A (mW k a (rA M n 8)) → va_S A s.heap H locs → WW p l e s m below meth c yX5_run cX5_run 16 (some .int) (rz 4 91) [.ref (a 0), .long nodes] (some (.int (w_X5_run M n nodes))) k (mW k a (w_X5_run_M M n nodes)) A H locs (F0 m 197 ls []) := by
                intro rv
                induction rv with
                | zero =>
                  intro v hi_v ls H locs hl hP hD hS
                  have he_v : wy = v := by omega
                  subst he_v
                  refine lv_iload hx hb dX5_run_197 (lv_at hl 0 rfl) ?_
                  refine lv_iconst (v := 1) hx hb dX5_run_199 (by decide) ?_
                  refine lv_iload_n hx hb dX5_run_200 rfl (lv_at hl 6 rfl) ?_
                  refine lv_ishl hx hb dX5_run_201 ?_
                  refine W.eq (g2 := F0 m 202 ls [.int (nI wy), .int (nI wy)]) (by rw [show (1 : Int32) <<< ((nI (cq (q_fr (rA M n 8)) n)) &&& 31) = nI wy from by rw [hwy]; exact shl_nI _ (Nat.lt_of_le_of_lt hm12 (by omega))]; try rfl) ?_
                  refine xb_ge (tgt := 333) hx hb dX5_run_202 (by decide) (fun c_5 => ?_) (fun c9 => absurd c9 (nI_nlt (a := wy) (b := wy) (Nat.le_refl _) (by omega)))
                  refine lv_aload_n hx hb dX5_run_333 rfl (lv_at hl 7 rfl) ?_
                  refine lv_iload hx hb dX5_run_334 (lv_at hl 3 rfl) ?_
                  refine lv_iload hx hb dX5_run_336 (lv_at hl 2 rfl) ?_
                  refine lv_lload hx hb dX5_run_338 (lv_at hl 1 rfl) ?_
                  refine wcV (n := 3) (As := [.int ((rC (rA M n 8) n wy).1), .int ((rC (rA M n 8) n wy).2.1), .long ((rC (rA M n 8) n wy).2.2)]) (rest := []) hF (c_X5_become l k a (rA M n 8) ((rC (rA M n 8) n wy).1) ((rC (rA M n 8) n wy).2.1) ((rC (rA M n 8) n wy).2.2) (rC_01 _ _ _)) hP hD hS hA hK 0 (ci := 5) rfl rfl rfl uC_X5_become uN_X5 uM_X5_142 uI_X5_become uE_X5_become (by decide +kernel) rfl ⟨Nat.le_of_ble_eq_true rfl, Nat.le_of_ble_eq_true rfl⟩ ⟨Nat.zero_le _, Nat.zero_le _⟩ hl.1 rfl (Nat.le_of_ble_eq_true rfl) dX5_run_340 (fun H locs hP hD hS => ?_)
                  have hP : va_P k.1 vwCl (mW k a (w_X5_become_M (rA M n 8) ((rC (rA M n 8) n wy).1) ((rC (rA M n 8) n wy).2.1) ((rC (rA M n 8) n wy).2.2))) H := hP
                  have hD : va_D A (mW k a (w_X5_become_M (rA M n 8) ((rC (rA M n 8) n wy).1) ((rC (rA M n 8) n wy).2.1) ((rC (rA M n 8) n wy).2.2))) := hD
                  refine lv_aload_n hx hb dX5_run_343 rfl (lv_at hl 7 rfl) ?_
                  refine lv_iload hx hb dX5_run_344 (lv_at hl 3 rfl) ?_
                  refine lv_if_eq (tgt := 354) hx hb dX5_run_346 (by decide) (fun c_6 => ?_) (fun c_6 => ?_)
                  · refine lv_ldc2 hx hb hown (hU _ uK_X5_161) dX5_run_354 ?_
                    refine va_put (D := k.1) (ci := 5) (v := .long (-1)) (ty := .long) (C := RX5) (T := TX5) (N := 27) hx hb hU inlX5 tyX5 tyX5_ok nmX5 hown hK.1 hP hD hS 0 rfl rfl 22 (by decide) (hU _ uF_X5_146) (fun _ h9 => h9) rfl (by decide +kernel) rfl rfl (Nat.le_of_ble_eq_true rfl) dX5_run_357 (fun H locs hP hD hS => ?_)
                    have hP := pz_m_0_22 k a (w_X5_become_M (rA M n 8) ((rC (rA M n 8) n wy).1) ((rC (rA M n 8) n wy).2.1) ((rC (rA M n 8) n wy).2.2)) (-1) hP
                    have hD := dz_m_0_22 k a (w_X5_become_M (rA M n 8) ((rC (rA M n 8) n wy).1) ((rC (rA M n 8) n wy).2.1) ((rC (rA M n 8) n wy).2.2)) (-1) hD
                    refine lv_aload_n hx hb dX5_run_360 rfl (lv_at hl 7 rfl) ?_
                    refine lv_iload hx hb dX5_run_361 (lv_at hl 3 rfl) ?_
                    refine lv_if_eq (tgt := 370) hx hb dX5_run_363 (by decide) (fun c_7 => ?_) (fun c_7 => ?_)
                    · refine lv_iconst (v := 1) hx hb dX5_run_370 (by decide) ?_
                      refine va_put (D := k.1) (ci := 5) (v := .int 1) (ty := .int) (C := RX5) (T := TX5) (N := 27) hx hb hU inlX5 tyX5 tyX5_ok nmX5 hown hK.1 hP hD hS 0 rfl rfl 21 (by decide) (hU _ uF_X5_149) (fun _ h9 => h9) rfl (by decide +kernel) rfl rfl (Nat.le_of_ble_eq_true rfl) dX5_run_371 (fun H locs hP hD hS => ?_)
                      have hP := pz_m_0_21 k a (sM_bound (w_X5_become_M (rA M n 8) ((rC (rA M n 8) n wy).1) ((rC (rA M n 8) n wy).2.1) ((rC (rA M n 8) n wy).2.2)) (-1)) 1 hP
                      have hD := dz_m_0_21 k a (sM_bound (w_X5_become_M (rA M n 8) ((rC (rA M n 8) n wy).1) ((rC (rA M n 8) n wy).2.1) ((rC (rA M n 8) n wy).2.2)) (-1)) 1 hD
                      refine lv_aload_n hx hb dX5_run_374 rfl (lv_at hl 7 rfl) ?_
                      refine va_get (D := k.1) (ci := 5) (v := .int 1) (C := RX5) (T := TX5) (N := 27) hx hb hU inlX5 hown hK.1 hP 0 rfl rfl 21 (by decide) (hU _ uF_X5_149) (fun _ h9 => h9) rfl dX5_run_375 ?_
                      have hP9 : va_P k.1 vwCl (mW k a (w_X5_run_M M n nodes)) H := by rw [w_X5_run_M]; unfold fr_n; rw [if_neg c_3, if_neg c_4]; have hw2 : 2 ^ cq (q_fr (rA M n 8)) n = wy := hwy.symm; rw [hw2]; rw [if_pos c_7]; exact hP
                      have hD9 : va_D A (mW k a (w_X5_run_M M n nodes)) := by rw [w_X5_run_M]; unfold fr_n; rw [if_neg c_3, if_neg c_4]; have hw2 : 2 ^ cq (q_fr (rA M n 8)) n = wy := hwy.symm; rw [hw2]; rw [if_pos c_7]; exact hD
                      exact W.iret (v := 1) hx hb hr (fun t ht hW => ⟨⟨by rw [w_X5_run]; unfold fr_n; rw [if_neg c_3, if_neg c_4]; have hw2 : 2 ^ cq (q_fr (rA M n 8)) n = wy := hwy.symm; rw [hw2]; rw [if_pos c_7], by rw [ht]; exact hP9, hD9⟩, hS.F ht⟩) hS.2.2 dX5_run_378
                    · refine lv_iconst (v := 0) hx hb dX5_run_366 (by decide) ?_
                      refine lv_goto (tgt := 371) hx hb dX5_run_367 (by decide) ?_
                      refine va_put (D := k.1) (ci := 5) (v := .int 0) (ty := .int) (C := RX5) (T := TX5) (N := 27) hx hb hU inlX5 tyX5 tyX5_ok nmX5 hown hK.1 hP hD hS 0 rfl rfl 21 (by decide) (hU _ uF_X5_149) (fun _ h9 => h9) rfl (by decide +kernel) rfl rfl (Nat.le_of_ble_eq_true rfl) dX5_run_371 (fun H locs hP hD hS => ?_)
                      have hP := pz_m_0_21 k a (sM_bound (w_X5_become_M (rA M n 8) ((rC (rA M n 8) n wy).1) ((rC (rA M n 8) n wy).2.1) ((rC (rA M n 8) n wy).2.2)) (-1)) 0 hP
                      have hD := dz_m_0_21 k a (sM_bound (w_X5_become_M (rA M n 8) ((rC (rA M n 8) n wy).1) ((rC (rA M n 8) n wy).2.1) ((rC (rA M n 8) n wy).2.2)) (-1)) 0 hD
                      refine lv_aload_n hx hb dX5_run_374 rfl (lv_at hl 7 rfl) ?_
                      refine va_get (D := k.1) (ci := 5) (v := .int 0) (C := RX5) (T := TX5) (N := 27) hx hb hU inlX5 hown hK.1 hP 0 rfl rfl 21 (by decide) (hU _ uF_X5_149) (fun _ h9 => h9) rfl dX5_run_375 ?_
                      have hP9 : va_P k.1 vwCl (mW k a (w_X5_run_M M n nodes)) H := absurd c_6 c_7
                      have hD9 : va_D A (mW k a (w_X5_run_M M n nodes)) := absurd c_6 c_7
                      exact W.iret (v := 0) hx hb hr (fun t ht hW => ⟨⟨absurd c_6 c_7, by rw [ht]; exact hP9, hD9⟩, hS.F ht⟩) hS.2.2 dX5_run_378
                  · refine lv_lload hx hb dX5_run_349 (lv_at hl 1 rfl) ?_
                    refine lv_goto (tgt := 357) hx hb dX5_run_351 (by decide) ?_
                    refine va_put (D := k.1) (ci := 5) (v := .long ((rC (rA M n 8) n wy).2.2)) (ty := .long) (C := RX5) (T := TX5) (N := 27) hx hb hU inlX5 tyX5 tyX5_ok nmX5 hown hK.1 hP hD hS 0 rfl rfl 22 (by decide) (hU _ uF_X5_146) (fun _ h9 => h9) rfl (by decide +kernel) rfl rfl (Nat.le_of_ble_eq_true rfl) dX5_run_357 (fun H locs hP hD hS => ?_)
                    have hP := pz_m_0_22 k a (w_X5_become_M (rA M n 8) ((rC (rA M n 8) n wy).1) ((rC (rA M n 8) n wy).2.1) ((rC (rA M n 8) n wy).2.2)) ((rC (rA M n 8) n wy).2.2) hP
                    have hD := dz_m_0_22 k a (w_X5_become_M (rA M n 8) ((rC (rA M n 8) n wy).1) ((rC (rA M n 8) n wy).2.1) ((rC (rA M n 8) n wy).2.2)) ((rC (rA M n 8) n wy).2.2) hD
                    refine lv_aload_n hx hb dX5_run_360 rfl (lv_at hl 7 rfl) ?_
                    refine lv_iload hx hb dX5_run_361 (lv_at hl 3 rfl) ?_
                    refine lv_if_eq (tgt := 370) hx hb dX5_run_363 (by decide) (fun c_8 => ?_) (fun c_8 => ?_)
                    · refine lv_iconst (v := 1) hx hb dX5_run_370 (by decide) ?_
                      refine va_put (D := k.1) (ci := 5) (v := .int 1) (ty := .int) (C := RX5) (T := TX5) (N := 27) hx hb hU inlX5 tyX5 tyX5_ok nmX5 hown hK.1 hP hD hS 0 rfl rfl 21 (by decide) (hU _ uF_X5_149) (fun _ h9 => h9) rfl (by decide +kernel) rfl rfl (Nat.le_of_ble_eq_true rfl) dX5_run_371 (fun H locs hP hD hS => ?_)
                      have hP := pz_m_0_21 k a (sM_bound (w_X5_become_M (rA M n 8) ((rC (rA M n 8) n wy).1) ((rC (rA M n 8) n wy).2.1) ((rC (rA M n 8) n wy).2.2)) ((rC (rA M n 8) n wy).2.2)) 1 hP
                      have hD := dz_m_0_21 k a (sM_bound (w_X5_become_M (rA M n 8) ((rC (rA M n 8) n wy).1) ((rC (rA M n 8) n wy).2.1) ((rC (rA M n 8) n wy).2.2)) ((rC (rA M n 8) n wy).2.2)) 1 hD
                      refine lv_aload_n hx hb dX5_run_374 rfl (lv_at hl 7 rfl) ?_
                      refine va_get (D := k.1) (ci := 5) (v := .int 1) (C := RX5) (T := TX5) (N := 27) hx hb hU inlX5 hown hK.1 hP 0 rfl rfl 21 (by decide) (hU _ uF_X5_149) (fun _ h9 => h9) rfl dX5_run_375 ?_
                      have hP9 : va_P k.1 vwCl (mW k a (w_X5_run_M M n nodes)) H := absurd c_8 c_6
                      have hD9 : va_D A (mW k a (w_X5_run_M M n nodes)) := absurd c_8 c_6
                      exact W.iret (v := 1) hx hb hr (fun t ht hW => ⟨⟨absurd c_8 c_6, by rw [ht]; exact hP9, hD9⟩, hS.F ht⟩) hS.2.2 dX5_run_378
                    · refine lv_iconst (v := 0) hx hb dX5_run_366 (by decide) ?_
                      refine lv_goto (tgt := 371) hx hb dX5_run_367 (by decide) ?_
                      refine va_put (D := k.1) (ci := 5) (v := .int 0) (ty := .int) (C := RX5) (T := TX5) (N := 27) hx hb hU inlX5 tyX5 tyX5_ok nmX5 hown hK.1 hP hD hS 0 rfl rfl 21 (by decide) (hU _ uF_X5_149) (fun _ h9 => h9) rfl (by decide +kernel) rfl rfl (Nat.le_of_ble_eq_true rfl) dX5_run_371 (fun H locs hP hD hS => ?_)
                      have hP := pz_m_0_21 k a (sM_bound (w_X5_become_M (rA M n 8) ((rC (rA M n 8) n wy).1) ((rC (rA M n 8) n wy).2.1) ((rC (rA M n 8) n wy).2.2)) ((rC (rA M n 8) n wy).2.2)) 0 hP
                      have hD := dz_m_0_21 k a (sM_bound (w_X5_become_M (rA M n 8) ((rC (rA M n 8) n wy).1) ((rC (rA M n 8) n wy).2.1) ((rC (rA M n 8) n wy).2.2)) ((rC (rA M n 8) n wy).2.2)) 0 hD
                      refine lv_aload_n hx hb dX5_run_374 rfl (lv_at hl 7 rfl) ?_
                      refine va_get (D := k.1) (ci := 5) (v := .int 0) (C := RX5) (T := TX5) (N := 27) hx hb hU inlX5 hown hK.1 hP 0 rfl rfl 21 (by decide) (hU _ uF_X5_149) (fun _ h9 => h9) rfl dX5_run_375 ?_
                      have hP9 : va_P k.1 vwCl (mW k a (w_X5_run_M M n nodes)) H := by rw [w_X5_run_M]; unfold fr_n; rw [if_neg c_3, if_neg c_4]; have hw2 : 2 ^ cq (q_fr (rA M n 8)) n = wy := hwy.symm; rw [hw2]; rw [if_neg c_8]; exact hP
                      have hD9 : va_D A (mW k a (w_X5_run_M M n nodes)) := by rw [w_X5_run_M]; unfold fr_n; rw [if_neg c_3, if_neg c_4]; have hw2 : 2 ^ cq (q_fr (rA M n 8)) n = wy := hwy.symm; rw [hw2]; rw [if_neg c_8]; exact hD
                      exact W.iret (v := 0) hx hb hr (fun t ht hW => ⟨⟨by rw [w_X5_run]; unfold fr_n; rw [if_neg c_3, if_neg c_4]; have hw2 : 2 ^ cq (q_fr (rA M n 8)) n = wy := hwy.symm; rw [hw2]; rw [if_neg c_8], by rw [ht]; exact hP9, hD9⟩, hS.F ht⟩) hS.2.2 dX5_run_378
                | succ rv ih_v =>
                  intro v hi_v ls H locs hl hP hD hS
                  have ht_v : v < wy := by omega
                  refine lv_iload hx hb dX5_run_197 (lv_at hl 0 rfl) ?_
                  refine lv_iconst (v := 1) hx hb dX5_run_199 (by decide) ?_
                  refine lv_iload_n hx hb dX5_run_200 rfl (lv_at hl 6 rfl) ?_
                  refine lv_ishl hx hb dX5_run_201 ?_
                  refine W.eq (g2 := F0 m 202 ls [.int (nI wy), .int (nI v)]) (by rw [show (1 : Int32) <<< ((nI (cq (q_fr (rA M n 8)) n)) &&& 31) = nI wy from by rw [hwy]; exact shl_nI _ (Nat.lt_of_le_of_lt hm12 (by omega))]; try rfl) ?_
                  refine xb_ge (tgt := 333) hx hb dX5_run_202 (by decide) (fun c9 => absurd (nI_lt (a := v) (b := wy) (by omega) (by omega)) c9) (fun c_9 => ?_)
                  refine lv_iload hx hb dX5_run_205 (lv_at hl 5 rfl) ?_
                  refine lv_istore (lv' := [(12, .int (mst (rA M n 8) n)), (11, .int (nI v)), (9, .long ((rC (rA M n 8) n v).2.2)), (8, .int ((rC (rA M n 8) n v).2.1)), (7, .int ((rC (rA M n 8) n v).1)), (5, .long (sm (f_cm (rA M n 8)) n)), (4, .int (mst (rA M n 8) n)), (3, .int (nI (cq (q_fr (rA M n 8)) n))), (0, .ref (a 0)), (1, .long nodes)]) hx hb dX5_run_207 hl (by decide) rfl (fun ls hl => ?_)
                  refine lv_iconst (v := 0) hx hb dX5_run_209 (by decide) ?_
                  refine lv_istore (lv' := [(13, .int 0), (12, .int (mst (rA M n 8) n)), (11, .int (nI v)), (9, .long ((rC (rA M n 8) n v).2.2)), (8, .int ((rC (rA M n 8) n v).2.1)), (7, .int ((rC (rA M n 8) n v).1)), (5, .long (sm (f_cm (rA M n 8)) n)), (4, .int (mst (rA M n 8) n)), (3, .int (nI (cq (q_fr (rA M n 8)) n))), (0, .ref (a 0)), (1, .long nodes)]) hx hb dX5_run_210 hl (by decide) rfl (fun ls hl => ?_)
                  refine lv_iconst (v := 0) hx hb dX5_run_212 (by decide) ?_
                  refine lv_istore (lv' := [(14, .int 0), (13, .int 0), (12, .int (mst (rA M n 8) n)), (11, .int (nI v)), (9, .long ((rC (rA M n 8) n v).2.2)), (8, .int ((rC (rA M n 8) n v).2.1)), (7, .int ((rC (rA M n 8) n v).1)), (5, .long (sm (f_cm (rA M n 8)) n)), (4, .int (mst (rA M n 8) n)), (3, .int (nI (cq (q_fr (rA M n 8)) n))), (0, .ref (a 0)), (1, .long nodes)]) hx hb dX5_run_213 hl (by decide) rfl (fun ls hl => ?_)
                  have loop_j : ∀ (rj j : Nat), j + rj * 1 = n → ∀ (ls : Array Slot) (H : Heap) (locs : List Loc) , lv_has ls 16 [(14, .int (nI j)), (13, .int (nI (cq (q_fr (rA M n 8)) j))), (12, .int (rS (rA M n 8) n v j)), (11, .int (nI v)), (9, .long ((rC (rA M n 8) n v).2.2)), (8, .int ((rC (rA M n 8) n v).2.1)), (7, .int ((rC (rA M n 8) n v).1)), (5, .long (sm (f_cm (rA M n 8)) n)), (4, .int (mst (rA M n 8) n)), (3, .int (nI (cq (q_fr (rA M n 8)) n))), (0, .ref (a 0)), (1, .long nodes)] → va_P k.1 vwCl (mW k a (rA M n 8)) H → va_D A (mW k a (rA M n 8)) → va_S A s.heap H locs → WW p l e s m below meth c yX5_run cX5_run 16 (some .int) (rz 4 91) [.ref (a 0), .long nodes] (some (.int (w_X5_run M n nodes))) k (mW k a (w_X5_run_M M n nodes)) A H locs (F0 m 215 ls []) := by
                    intro rj
                    induction rj with
                    | zero =>
                      intro j hi_j ls H locs hl hP hD hS
                      have he_j : n = j := by omega
                      subst he_j
                      refine lv_iload hx hb dX5_run_215 (lv_at hl 0 rfl) ?_
                      refine lv_aload_n hx hb dX5_run_217 rfl (lv_at hl 10 rfl) ?_
                      refine va_get (D := k.1) (ci := 5) (v := .int (M_cells (rA M n 8))) (C := RX5) (T := TX5) (N := 27) hx hb hU inlX5 hown hK.1 hP 0 rfl rfl 0 (by decide) (hU _ uF_X5_49) (fun _ h9 => h9) rfl dX5_run_218 ?_
                      refine xb_ge (tgt := 267) hx hb dX5_run_221 (by decide) (fun c_10 => ?_) (fun c9 => absurd c9 (by rw [hv_g]; exact nI_nlt (a := n) (b := n) (Nat.le_refl _) (by omega)))
                      refine lv_aload_n hx hb dX5_run_267 rfl (lv_at hl 10 rfl) ?_
                      refine lv_iload hx hb dX5_run_268 (lv_at hl 2 rfl) ?_
                      refine rcV (n := 1) (As := [.int (rS (rA M n 8) n v n)]) (rest := []) hF (c_X5_costOf l k a (rA M n 8) (rS (rA M n 8) n v n) n hn hv_g) (hP) hK 0 (ci := 5) rfl rfl rfl uC_X5_costOf uN_X5 uM_X5_152 uI_X5_costOf uE_X5_costOf (by decide +kernel) rfl ⟨Nat.le_of_ble_eq_true rfl, Nat.le_of_ble_eq_true rfl⟩ ⟨Nat.zero_le _, Nat.zero_le _⟩ hl.1 rfl (Nat.le_of_ble_eq_true rfl) dX5_run_270 ?_
                      refine lv_lstore (lv' := [(14, .long (w_X5_costOf (rA M n 8) (rS (rA M n 8) n v n) n)), (13, .int (nI (cq (q_fr (rA M n 8)) n))), (12, .int (rS (rA M n 8) n v n)), (11, .int (nI v)), (9, .long ((rC (rA M n 8) n v).2.2)), (8, .int ((rC (rA M n 8) n v).2.1)), (7, .int ((rC (rA M n 8) n v).1)), (5, .long (sm (f_cm (rA M n 8)) n)), (4, .int (mst (rA M n 8) n)), (3, .int (nI (cq (q_fr (rA M n 8)) n))), (0, .ref (a 0)), (1, .long nodes)]) hx hb dX5_run_273 hl (by decide) rfl (fun ls hl => ?_)
                      refine lv_iload hx hb dX5_run_275 (lv_at hl 6 rfl) ?_
                      refine lv_if_eq (tgt := 307) hx hb dX5_run_277 (by decide) (fun c_11 => ?_) (fun c_11 => ?_)
                      · refine lv_aload_n hx hb dX5_run_307 rfl (lv_at hl 10 rfl) ?_
                        refine lv_iload hx hb dX5_run_308 (lv_at hl 2 rfl) ?_
                        refine rcV (n := 1) (As := [.int (rS (rA M n 8) n v n)]) (rest := []) hF (c_X5_stands l k a (rA M n 8) (rS (rA M n 8) n v n) n hn hv_g) (hP) hK 0 (ci := 5) rfl rfl rfl uC_X5_stands uN_X5 uM_X5_158 uI_X5_stands uE_X5_stands (by decide +kernel) rfl ⟨Nat.le_of_ble_eq_true rfl, Nat.le_of_ble_eq_true rfl⟩ ⟨Nat.zero_le _, Nat.zero_le _⟩ hl.1 rfl (Nat.le_of_ble_eq_true rfl) dX5_run_310 ?_
                        refine lv_if_eq (tgt := 327) hx hb dX5_run_313 (by decide) (fun c_12 => ?_) (fun c_12 => ?_)
                        · refine lv_iinc (v := nI (v + 1)) (lv' := [(11, .int (nI (v + 1))), (14, .long (w_X5_costOf (rA M n 8) (rS (rA M n 8) n v n) n)), (13, .int (nI (cq (q_fr (rA M n 8)) n))), (12, .int (rS (rA M n 8) n v n)), (9, .long ((rC (rA M n 8) n v).2.2)), (8, .int ((rC (rA M n 8) n v).2.1)), (7, .int ((rC (rA M n 8) n v).1)), (5, .long (sm (f_cm (rA M n 8)) n)), (4, .int (mst (rA M n 8) n)), (3, .int (nI (cq (q_fr (rA M n 8)) n))), (0, .ref (a 0)), (1, .long nodes)]) hx hb dX5_run_327 hl (k := 3) rfl (nI_add v 1) (by decide) rfl (fun ls hl => ?_)
                          refine lv_goto (tgt := 197) hx hb dX5_run_330 (by decide) ?_
                          have hq9 : ((rC (rA M n 8) n v).2.2) = (rC (rA M n 8) n (v + 1)).2.2 := by rw [rC, rCs, if_pos c_11, if_pos c_12]
                          rw [hq9] at hl
                          have hq8 : ((rC (rA M n 8) n v).2.1) = (rC (rA M n 8) n (v + 1)).2.1 := by rw [rC, rCs, if_pos c_11, if_pos c_12]
                          rw [hq8] at hl
                          have hq7 : ((rC (rA M n 8) n v).1) = (rC (rA M n 8) n (v + 1)).1 := by rw [rC, rCs, if_pos c_11, if_pos c_12]
                          rw [hq7] at hl
                          exact ih_v (v + 1) (by omega) ls _ _ (lv_sub hl [0, 4, 5, 6, 7, 8, 9, 10, 11] rfl) hP hD hS
                        · refine lv_iconst (v := 1) hx hb dX5_run_316 (by decide) ?_
                          refine lv_istore (lv' := [(7, .int 1), (14, .long (w_X5_costOf (rA M n 8) (rS (rA M n 8) n v n) n)), (13, .int (nI (cq (q_fr (rA M n 8)) n))), (12, .int (rS (rA M n 8) n v n)), (11, .int (nI v)), (9, .long ((rC (rA M n 8) n v).2.2)), (8, .int ((rC (rA M n 8) n v).2.1)), (5, .long (sm (f_cm (rA M n 8)) n)), (4, .int (mst (rA M n 8) n)), (3, .int (nI (cq (q_fr (rA M n 8)) n))), (0, .ref (a 0)), (1, .long nodes)]) hx hb dX5_run_317 hl (by decide) rfl (fun ls hl => ?_)
                          refine lv_iload hx hb dX5_run_319 (lv_at hl 3 rfl) ?_
                          refine lv_istore (lv' := [(8, .int (rS (rA M n 8) n v n)), (7, .int 1), (14, .long (w_X5_costOf (rA M n 8) (rS (rA M n 8) n v n) n)), (13, .int (nI (cq (q_fr (rA M n 8)) n))), (12, .int (rS (rA M n 8) n v n)), (11, .int (nI v)), (9, .long ((rC (rA M n 8) n v).2.2)), (5, .long (sm (f_cm (rA M n 8)) n)), (4, .int (mst (rA M n 8) n)), (3, .int (nI (cq (q_fr (rA M n 8)) n))), (0, .ref (a 0)), (1, .long nodes)]) hx hb dX5_run_321 hl (by decide) rfl (fun ls hl => ?_)
                          refine lv_lload hx hb dX5_run_323 (lv_at hl 2 rfl) ?_
                          refine lv_lstore (lv' := [(9, .long (w_X5_costOf (rA M n 8) (rS (rA M n 8) n v n) n)), (8, .int (rS (rA M n 8) n v n)), (7, .int 1), (14, .long (w_X5_costOf (rA M n 8) (rS (rA M n 8) n v n) n)), (13, .int (nI (cq (q_fr (rA M n 8)) n))), (12, .int (rS (rA M n 8) n v n)), (11, .int (nI v)), (5, .long (sm (f_cm (rA M n 8)) n)), (4, .int (mst (rA M n 8) n)), (3, .int (nI (cq (q_fr (rA M n 8)) n))), (0, .ref (a 0)), (1, .long nodes)]) hx hb dX5_run_325 hl (by decide) rfl (fun ls hl => ?_)
                          refine lv_iinc (v := nI (v + 1)) (lv' := [(11, .int (nI (v + 1))), (9, .long (w_X5_costOf (rA M n 8) (rS (rA M n 8) n v n) n)), (8, .int (rS (rA M n 8) n v n)), (7, .int 1), (14, .long (w_X5_costOf (rA M n 8) (rS (rA M n 8) n v n) n)), (13, .int (nI (cq (q_fr (rA M n 8)) n))), (12, .int (rS (rA M n 8) n v n)), (5, .long (sm (f_cm (rA M n 8)) n)), (4, .int (mst (rA M n 8) n)), (3, .int (nI (cq (q_fr (rA M n 8)) n))), (0, .ref (a 0)), (1, .long nodes)]) hx hb dX5_run_327 hl (k := 6) rfl (nI_add v 1) (by decide) rfl (fun ls hl => ?_)
                          refine lv_goto (tgt := 197) hx hb dX5_run_330 (by decide) ?_
                          have hq9 : (w_X5_costOf (rA M n 8) (rS (rA M n 8) n v n) n) = (rC (rA M n 8) n (v + 1)).2.2 := by rw [rC, rCs, if_pos c_11, if_neg c_12]
                          rw [hq9] at hl
                          have hq8 : (rS (rA M n 8) n v n) = (rC (rA M n 8) n (v + 1)).2.1 := by rw [rC, rCs, if_pos c_11, if_neg c_12]
                          rw [hq8] at hl
                          have hq7 : 1 = (rC (rA M n 8) n (v + 1)).1 := by rw [rC, rCs, if_pos c_11, if_neg c_12]
                          rw [hq7] at hl
                          exact ih_v (v + 1) (by omega) ls _ _ (lv_sub hl [0, 1, 2, 3, 7, 8, 9, 10, 11] rfl) hP hD hS
                      · refine lv_lload hx hb dX5_run_280 (lv_at hl 0 rfl) ?_
                        refine lv_lload hx hb dX5_run_282 (lv_at hl 4 rfl) ?_
                        refine xl_lt (tgt := 307) hx hb dX5_run_284 dX5_run_285 (by decide) (fun c_13 => ?_) (fun c_13 => ?_)
                        · refine lv_aload_n hx hb dX5_run_307 rfl (lv_at hl 10 rfl) ?_
                          refine lv_iload hx hb dX5_run_308 (lv_at hl 2 rfl) ?_
                          refine rcV (n := 1) (As := [.int (rS (rA M n 8) n v n)]) (rest := []) hF (c_X5_stands l k a (rA M n 8) (rS (rA M n 8) n v n) n hn hv_g) (hP) hK 0 (ci := 5) rfl rfl rfl uC_X5_stands uN_X5 uM_X5_158 uI_X5_stands uE_X5_stands (by decide +kernel) rfl ⟨Nat.le_of_ble_eq_true rfl, Nat.le_of_ble_eq_true rfl⟩ ⟨Nat.zero_le _, Nat.zero_le _⟩ hl.1 rfl (Nat.le_of_ble_eq_true rfl) dX5_run_310 ?_
                          refine lv_if_eq (tgt := 327) hx hb dX5_run_313 (by decide) (fun c_14 => ?_) (fun c_14 => ?_)
                          · refine lv_iinc (v := nI (v + 1)) (lv' := [(11, .int (nI (v + 1))), (14, .long (w_X5_costOf (rA M n 8) (rS (rA M n 8) n v n) n)), (13, .int (nI (cq (q_fr (rA M n 8)) n))), (12, .int (rS (rA M n 8) n v n)), (9, .long ((rC (rA M n 8) n v).2.2)), (8, .int ((rC (rA M n 8) n v).2.1)), (7, .int ((rC (rA M n 8) n v).1)), (5, .long (sm (f_cm (rA M n 8)) n)), (4, .int (mst (rA M n 8) n)), (3, .int (nI (cq (q_fr (rA M n 8)) n))), (0, .ref (a 0)), (1, .long nodes)]) hx hb dX5_run_327 hl (k := 3) rfl (nI_add v 1) (by decide) rfl (fun ls hl => ?_)
                            refine lv_goto (tgt := 197) hx hb dX5_run_330 (by decide) ?_
                            have hq9 : ((rC (rA M n 8) n v).2.2) = (rC (rA M n 8) n (v + 1)).2.2 := by rw [rC, rCs, if_neg c_11, if_pos c_13, if_pos c_14]
                            rw [hq9] at hl
                            have hq8 : ((rC (rA M n 8) n v).2.1) = (rC (rA M n 8) n (v + 1)).2.1 := by rw [rC, rCs, if_neg c_11, if_pos c_13, if_pos c_14]
                            rw [hq8] at hl
                            have hq7 : ((rC (rA M n 8) n v).1) = (rC (rA M n 8) n (v + 1)).1 := by rw [rC, rCs, if_neg c_11, if_pos c_13, if_pos c_14]
                            rw [hq7] at hl
                            exact ih_v (v + 1) (by omega) ls _ _ (lv_sub hl [0, 4, 5, 6, 7, 8, 9, 10, 11] rfl) hP hD hS
                          · refine lv_iconst (v := 1) hx hb dX5_run_316 (by decide) ?_
                            refine lv_istore (lv' := [(7, .int 1), (14, .long (w_X5_costOf (rA M n 8) (rS (rA M n 8) n v n) n)), (13, .int (nI (cq (q_fr (rA M n 8)) n))), (12, .int (rS (rA M n 8) n v n)), (11, .int (nI v)), (9, .long ((rC (rA M n 8) n v).2.2)), (8, .int ((rC (rA M n 8) n v).2.1)), (5, .long (sm (f_cm (rA M n 8)) n)), (4, .int (mst (rA M n 8) n)), (3, .int (nI (cq (q_fr (rA M n 8)) n))), (0, .ref (a 0)), (1, .long nodes)]) hx hb dX5_run_317 hl (by decide) rfl (fun ls hl => ?_)
                            refine lv_iload hx hb dX5_run_319 (lv_at hl 3 rfl) ?_
                            refine lv_istore (lv' := [(8, .int (rS (rA M n 8) n v n)), (7, .int 1), (14, .long (w_X5_costOf (rA M n 8) (rS (rA M n 8) n v n) n)), (13, .int (nI (cq (q_fr (rA M n 8)) n))), (12, .int (rS (rA M n 8) n v n)), (11, .int (nI v)), (9, .long ((rC (rA M n 8) n v).2.2)), (5, .long (sm (f_cm (rA M n 8)) n)), (4, .int (mst (rA M n 8) n)), (3, .int (nI (cq (q_fr (rA M n 8)) n))), (0, .ref (a 0)), (1, .long nodes)]) hx hb dX5_run_321 hl (by decide) rfl (fun ls hl => ?_)
                            refine lv_lload hx hb dX5_run_323 (lv_at hl 2 rfl) ?_
                            refine lv_lstore (lv' := [(9, .long (w_X5_costOf (rA M n 8) (rS (rA M n 8) n v n) n)), (8, .int (rS (rA M n 8) n v n)), (7, .int 1), (14, .long (w_X5_costOf (rA M n 8) (rS (rA M n 8) n v n) n)), (13, .int (nI (cq (q_fr (rA M n 8)) n))), (12, .int (rS (rA M n 8) n v n)), (11, .int (nI v)), (5, .long (sm (f_cm (rA M n 8)) n)), (4, .int (mst (rA M n 8) n)), (3, .int (nI (cq (q_fr (rA M n 8)) n))), (0, .ref (a 0)), (1, .long nodes)]) hx hb dX5_run_325 hl (by decide) rfl (fun ls hl => ?_)
                            refine lv_iinc (v := nI (v + 1)) (lv' := [(11, .int (nI (v + 1))), (9, .long (w_X5_costOf (rA M n 8) (rS (rA M n 8) n v n) n)), (8, .int (rS (rA M n 8) n v n)), (7, .int 1), (14, .long (w_X5_costOf (rA M n 8) (rS (rA M n 8) n v n) n)), (13, .int (nI (cq (q_fr (rA M n 8)) n))), (12, .int (rS (rA M n 8) n v n)), (5, .long (sm (f_cm (rA M n 8)) n)), (4, .int (mst (rA M n 8) n)), (3, .int (nI (cq (q_fr (rA M n 8)) n))), (0, .ref (a 0)), (1, .long nodes)]) hx hb dX5_run_327 hl (k := 6) rfl (nI_add v 1) (by decide) rfl (fun ls hl => ?_)
                            refine lv_goto (tgt := 197) hx hb dX5_run_330 (by decide) ?_
                            have hq9 : (w_X5_costOf (rA M n 8) (rS (rA M n 8) n v n) n) = (rC (rA M n 8) n (v + 1)).2.2 := by rw [rC, rCs, if_neg c_11, if_pos c_13, if_neg c_14]
                            rw [hq9] at hl
                            have hq8 : (rS (rA M n 8) n v n) = (rC (rA M n 8) n (v + 1)).2.1 := by rw [rC, rCs, if_neg c_11, if_pos c_13, if_neg c_14]
                            rw [hq8] at hl
                            have hq7 : 1 = (rC (rA M n 8) n (v + 1)).1 := by rw [rC, rCs, if_neg c_11, if_pos c_13, if_neg c_14]
                            rw [hq7] at hl
                            exact ih_v (v + 1) (by omega) ls _ _ (lv_sub hl [0, 1, 2, 3, 7, 8, 9, 10, 11] rfl) hP hD hS
                        · refine lv_lload hx hb dX5_run_288 (lv_at hl 0 rfl) ?_
                          refine lv_lload hx hb dX5_run_290 (lv_at hl 4 rfl) ?_
                          refine xl_ne (tgt := 327) hx hb dX5_run_292 dX5_run_293 (by decide) (fun c_15 => ?_) (fun c_15 => ?_)
                          · refine lv_iinc (v := nI (v + 1)) (lv' := [(11, .int (nI (v + 1))), (14, .long (w_X5_costOf (rA M n 8) (rS (rA M n 8) n v n) n)), (13, .int (nI (cq (q_fr (rA M n 8)) n))), (12, .int (rS (rA M n 8) n v n)), (9, .long ((rC (rA M n 8) n v).2.2)), (8, .int ((rC (rA M n 8) n v).2.1)), (7, .int ((rC (rA M n 8) n v).1)), (5, .long (sm (f_cm (rA M n 8)) n)), (4, .int (mst (rA M n 8) n)), (3, .int (nI (cq (q_fr (rA M n 8)) n))), (0, .ref (a 0)), (1, .long nodes)]) hx hb dX5_run_327 hl (k := 3) rfl (nI_add v 1) (by decide) rfl (fun ls hl => ?_)
                            refine lv_goto (tgt := 197) hx hb dX5_run_330 (by decide) ?_
                            have hq9 : ((rC (rA M n 8) n v).2.2) = (rC (rA M n 8) n (v + 1)).2.2 := by rw [rC, rCs, if_neg c_11, if_neg c_13, if_neg c_15]
                            rw [hq9] at hl
                            have hq8 : ((rC (rA M n 8) n v).2.1) = (rC (rA M n 8) n (v + 1)).2.1 := by rw [rC, rCs, if_neg c_11, if_neg c_13, if_neg c_15]
                            rw [hq8] at hl
                            have hq7 : ((rC (rA M n 8) n v).1) = (rC (rA M n 8) n (v + 1)).1 := by rw [rC, rCs, if_neg c_11, if_neg c_13, if_neg c_15]
                            rw [hq7] at hl
                            exact ih_v (v + 1) (by omega) ls _ _ (lv_sub hl [0, 4, 5, 6, 7, 8, 9, 10, 11] rfl) hP hD hS
                          · refine lv_aload_n hx hb dX5_run_296 rfl (lv_at hl 10 rfl) ?_
                            refine lv_iload hx hb dX5_run_297 (lv_at hl 2 rfl) ?_
                            refine lv_iload hx hb dX5_run_299 (lv_at hl 5 rfl) ?_
                            refine rcV (n := 2) (As := [.int (rS (rA M n 8) n v n), .int ((rC (rA M n 8) n v).2.1)]) (rest := []) hF (c_X5_isBefore l k a (rA M n 8) (rS (rA M n 8) n v n) ((rC (rA M n 8) n v).2.1) n hn hv_g) (hP) hK 0 (ci := 5) rfl rfl rfl uC_X5_isBefore uN_X5 uM_X5_155 uI_X5_isBefore uE_X5_isBefore (by decide +kernel) rfl ⟨Nat.le_of_ble_eq_true rfl, Nat.le_of_ble_eq_true rfl⟩ ⟨Nat.zero_le _, Nat.zero_le _⟩ hl.1 rfl (Nat.le_of_ble_eq_true rfl) dX5_run_301 ?_
                            refine lv_if_eq (tgt := 327) hx hb dX5_run_304 (by decide) (fun c_16 => ?_) (fun c_16 => ?_)
                            · refine lv_iinc (v := nI (v + 1)) (lv' := [(11, .int (nI (v + 1))), (14, .long (w_X5_costOf (rA M n 8) (rS (rA M n 8) n v n) n)), (13, .int (nI (cq (q_fr (rA M n 8)) n))), (12, .int (rS (rA M n 8) n v n)), (9, .long ((rC (rA M n 8) n v).2.2)), (8, .int ((rC (rA M n 8) n v).2.1)), (7, .int ((rC (rA M n 8) n v).1)), (5, .long (sm (f_cm (rA M n 8)) n)), (4, .int (mst (rA M n 8) n)), (3, .int (nI (cq (q_fr (rA M n 8)) n))), (0, .ref (a 0)), (1, .long nodes)]) hx hb dX5_run_327 hl (k := 3) rfl (nI_add v 1) (by decide) rfl (fun ls hl => ?_)
                              refine lv_goto (tgt := 197) hx hb dX5_run_330 (by decide) ?_
                              have hq9 : ((rC (rA M n 8) n v).2.2) = (rC (rA M n 8) n (v + 1)).2.2 := by rw [rC, rCs, if_neg c_11, if_neg c_13, if_pos c_15, if_pos c_16]
                              rw [hq9] at hl
                              have hq8 : ((rC (rA M n 8) n v).2.1) = (rC (rA M n 8) n (v + 1)).2.1 := by rw [rC, rCs, if_neg c_11, if_neg c_13, if_pos c_15, if_pos c_16]
                              rw [hq8] at hl
                              have hq7 : ((rC (rA M n 8) n v).1) = (rC (rA M n 8) n (v + 1)).1 := by rw [rC, rCs, if_neg c_11, if_neg c_13, if_pos c_15, if_pos c_16]
                              rw [hq7] at hl
                              exact ih_v (v + 1) (by omega) ls _ _ (lv_sub hl [0, 4, 5, 6, 7, 8, 9, 10, 11] rfl) hP hD hS
                            · refine lv_aload_n hx hb dX5_run_307 rfl (lv_at hl 10 rfl) ?_
                              refine lv_iload hx hb dX5_run_308 (lv_at hl 2 rfl) ?_
                              refine rcV (n := 1) (As := [.int (rS (rA M n 8) n v n)]) (rest := []) hF (c_X5_stands l k a (rA M n 8) (rS (rA M n 8) n v n) n hn hv_g) (hP) hK 0 (ci := 5) rfl rfl rfl uC_X5_stands uN_X5 uM_X5_158 uI_X5_stands uE_X5_stands (by decide +kernel) rfl ⟨Nat.le_of_ble_eq_true rfl, Nat.le_of_ble_eq_true rfl⟩ ⟨Nat.zero_le _, Nat.zero_le _⟩ hl.1 rfl (Nat.le_of_ble_eq_true rfl) dX5_run_310 ?_
                              refine lv_if_eq (tgt := 327) hx hb dX5_run_313 (by decide) (fun c_17 => ?_) (fun c_17 => ?_)
                              · refine lv_iinc (v := nI (v + 1)) (lv' := [(11, .int (nI (v + 1))), (14, .long (w_X5_costOf (rA M n 8) (rS (rA M n 8) n v n) n)), (13, .int (nI (cq (q_fr (rA M n 8)) n))), (12, .int (rS (rA M n 8) n v n)), (9, .long ((rC (rA M n 8) n v).2.2)), (8, .int ((rC (rA M n 8) n v).2.1)), (7, .int ((rC (rA M n 8) n v).1)), (5, .long (sm (f_cm (rA M n 8)) n)), (4, .int (mst (rA M n 8) n)), (3, .int (nI (cq (q_fr (rA M n 8)) n))), (0, .ref (a 0)), (1, .long nodes)]) hx hb dX5_run_327 hl (k := 3) rfl (nI_add v 1) (by decide) rfl (fun ls hl => ?_)
                                refine lv_goto (tgt := 197) hx hb dX5_run_330 (by decide) ?_
                                have hq9 : ((rC (rA M n 8) n v).2.2) = (rC (rA M n 8) n (v + 1)).2.2 := by rw [rC, rCs, if_neg c_11, if_neg c_13, if_pos c_15, if_neg c_16, if_pos c_17]
                                rw [hq9] at hl
                                have hq8 : ((rC (rA M n 8) n v).2.1) = (rC (rA M n 8) n (v + 1)).2.1 := by rw [rC, rCs, if_neg c_11, if_neg c_13, if_pos c_15, if_neg c_16, if_pos c_17]
                                rw [hq8] at hl
                                have hq7 : ((rC (rA M n 8) n v).1) = (rC (rA M n 8) n (v + 1)).1 := by rw [rC, rCs, if_neg c_11, if_neg c_13, if_pos c_15, if_neg c_16, if_pos c_17]
                                rw [hq7] at hl
                                exact ih_v (v + 1) (by omega) ls _ _ (lv_sub hl [0, 4, 5, 6, 7, 8, 9, 10, 11] rfl) hP hD hS
                              · refine lv_iconst (v := 1) hx hb dX5_run_316 (by decide) ?_
                                refine lv_istore (lv' := [(7, .int 1), (14, .long (w_X5_costOf (rA M n 8) (rS (rA M n 8) n v n) n)), (13, .int (nI (cq (q_fr (rA M n 8)) n))), (12, .int (rS (rA M n 8) n v n)), (11, .int (nI v)), (9, .long ((rC (rA M n 8) n v).2.2)), (8, .int ((rC (rA M n 8) n v).2.1)), (5, .long (sm (f_cm (rA M n 8)) n)), (4, .int (mst (rA M n 8) n)), (3, .int (nI (cq (q_fr (rA M n 8)) n))), (0, .ref (a 0)), (1, .long nodes)]) hx hb dX5_run_317 hl (by decide) rfl (fun ls hl => ?_)
                                refine lv_iload hx hb dX5_run_319 (lv_at hl 3 rfl) ?_
                                refine lv_istore (lv' := [(8, .int (rS (rA M n 8) n v n)), (7, .int 1), (14, .long (w_X5_costOf (rA M n 8) (rS (rA M n 8) n v n) n)), (13, .int (nI (cq (q_fr (rA M n 8)) n))), (12, .int (rS (rA M n 8) n v n)), (11, .int (nI v)), (9, .long ((rC (rA M n 8) n v).2.2)), (5, .long (sm (f_cm (rA M n 8)) n)), (4, .int (mst (rA M n 8) n)), (3, .int (nI (cq (q_fr (rA M n 8)) n))), (0, .ref (a 0)), (1, .long nodes)]) hx hb dX5_run_321 hl (by decide) rfl (fun ls hl => ?_)
                                refine lv_lload hx hb dX5_run_323 (lv_at hl 2 rfl) ?_
                                refine lv_lstore (lv' := [(9, .long (w_X5_costOf (rA M n 8) (rS (rA M n 8) n v n) n)), (8, .int (rS (rA M n 8) n v n)), (7, .int 1), (14, .long (w_X5_costOf (rA M n 8) (rS (rA M n 8) n v n) n)), (13, .int (nI (cq (q_fr (rA M n 8)) n))), (12, .int (rS (rA M n 8) n v n)), (11, .int (nI v)), (5, .long (sm (f_cm (rA M n 8)) n)), (4, .int (mst (rA M n 8) n)), (3, .int (nI (cq (q_fr (rA M n 8)) n))), (0, .ref (a 0)), (1, .long nodes)]) hx hb dX5_run_325 hl (by decide) rfl (fun ls hl => ?_)
                                refine lv_iinc (v := nI (v + 1)) (lv' := [(11, .int (nI (v + 1))), (9, .long (w_X5_costOf (rA M n 8) (rS (rA M n 8) n v n) n)), (8, .int (rS (rA M n 8) n v n)), (7, .int 1), (14, .long (w_X5_costOf (rA M n 8) (rS (rA M n 8) n v n) n)), (13, .int (nI (cq (q_fr (rA M n 8)) n))), (12, .int (rS (rA M n 8) n v n)), (5, .long (sm (f_cm (rA M n 8)) n)), (4, .int (mst (rA M n 8) n)), (3, .int (nI (cq (q_fr (rA M n 8)) n))), (0, .ref (a 0)), (1, .long nodes)]) hx hb dX5_run_327 hl (k := 6) rfl (nI_add v 1) (by decide) rfl (fun ls hl => ?_)
                                refine lv_goto (tgt := 197) hx hb dX5_run_330 (by decide) ?_
                                have hq9 : (w_X5_costOf (rA M n 8) (rS (rA M n 8) n v n) n) = (rC (rA M n 8) n (v + 1)).2.2 := by rw [rC, rCs, if_neg c_11, if_neg c_13, if_pos c_15, if_neg c_16, if_neg c_17]
                                rw [hq9] at hl
                                have hq8 : (rS (rA M n 8) n v n) = (rC (rA M n 8) n (v + 1)).2.1 := by rw [rC, rCs, if_neg c_11, if_neg c_13, if_pos c_15, if_neg c_16, if_neg c_17]
                                rw [hq8] at hl
                                have hq7 : 1 = (rC (rA M n 8) n (v + 1)).1 := by rw [rC, rCs, if_neg c_11, if_neg c_13, if_pos c_15, if_neg c_16, if_neg c_17]
                                rw [hq7] at hl
                                exact ih_v (v + 1) (by omega) ls _ _ (lv_sub hl [0, 1, 2, 3, 7, 8, 9, 10, 11] rfl) hP hD hS
                    | succ rj ih_j =>
                      intro j hi_j ls H locs hl hP hD hS
                      have ht_j : j < n := by omega
                      refine lv_iload hx hb dX5_run_215 (lv_at hl 0 rfl) ?_
                      refine lv_aload_n hx hb dX5_run_217 rfl (lv_at hl 10 rfl) ?_
                      refine va_get (D := k.1) (ci := 5) (v := .int (M_cells (rA M n 8))) (C := RX5) (T := TX5) (N := 27) hx hb hU inlX5 hown hK.1 hP 0 rfl rfl 0 (by decide) (hU _ uF_X5_49) (fun _ h9 => h9) rfl dX5_run_218 ?_
                      refine xb_ge (tgt := 267) hx hb dX5_run_221 (by decide) (fun c9 => absurd (by rw [hv_g]; exact nI_lt (a := j) (b := n) (by omega) (by omega)) c9) (fun c_18 => ?_)
                      refine lv_aload_n hx hb dX5_run_224 rfl (lv_at hl 10 rfl) ?_
                      refine va_get (D := k.1) (ci := 5) (v := .ref (a 2)) (C := RX5) (T := TX5) (N := 27) hx hb hU inlX5 hown hK.1 hP 0 rfl rfl 2 (by decide) (hU _ uF_X5_13) (fun _ h9 => h9) rfl dX5_run_225 ?_
                      refine lv_iload hx hb dX5_run_228 (lv_at hl 0 rfl) ?_
                      refine xa_iald hx hb hK.1 hP 2 0 rfl rfl (j := j) rfl (by omega) (by decide) dX5_run_230 ?_
                      refine lv_if_ne (tgt := 261) hx hb dX5_run_231 (by decide) (fun c_19 => ?_) (fun c_19 => ?_)
                      · refine lv_iinc (v := nI (j + 1)) (lv' := [(14, .int (nI (j + 1))), (13, .int (nI (cq (q_fr (rA M n 8)) j))), (12, .int (rS (rA M n 8) n v j)), (11, .int (nI v)), (9, .long ((rC (rA M n 8) n v).2.2)), (8, .int ((rC (rA M n 8) n v).2.1)), (7, .int ((rC (rA M n 8) n v).1)), (5, .long (sm (f_cm (rA M n 8)) n)), (4, .int (mst (rA M n 8) n)), (3, .int (nI (cq (q_fr (rA M n 8)) n))), (0, .ref (a 0)), (1, .long nodes)]) hx hb dX5_run_261 hl (k := 0) rfl (nI_add j 1) (by decide) rfl (fun ls hl => ?_)
                        refine lv_goto (tgt := 215) hx hb dX5_run_264 (by decide) ?_
                        have hq1 : (rS (rA M n 8) n v j) = (rS (rA M n 8) n v (j + 1)) := by rw [rS, if_neg c_19]
                        rw [hq1] at hl
                        have hq2 : (nI (cq (q_fr (rA M n 8)) j)) = (nI (cq (q_fr (rA M n 8)) (j + 1))) := by rw [cq, if_neg (by simp [q_fr, c_19])]
                        rw [hq2] at hl
                        exact ih_j (j + 1) (by omega) ls _ _ (lv_sub hl [0, 1, 2, 3, 4, 5, 6, 7, 8, 9, 10, 11] rfl) hP hD hS
                      · refine lv_iload hx hb dX5_run_234 (lv_at hl 3 rfl) ?_
                        refine lv_iload hx hb dX5_run_236 (lv_at hl 1 rfl) ?_
                        refine rcS (n := 2) (As := [.int (nI v), .int (nI (cq (q_fr (rA M n 8)) j))]) (rest := []) hF (c_X5_has l k  (nI v) (nI (cq (q_fr (rA M n 8)) j)) ) (hP.sub (ws' := []) [] rfl) hK uC_X5_has uN_X5 uM_X5_95 uS_X5_has (by decide +kernel) rfl ⟨Nat.le_of_ble_eq_true rfl, Nat.le_of_ble_eq_true rfl⟩ ⟨Nat.zero_le _, Nat.zero_le _⟩ hl.1 rfl (Nat.le_of_ble_eq_true rfl) dX5_run_238 ?_
                        refine lv_if_eq (tgt := 254) hx hb dX5_run_241 (by decide) (fun c_20 => ?_) (fun c_20 => ?_)
                        · refine lv_iload hx hb dX5_run_254 (lv_at hl 2 rfl) ?_
                          refine lv_istore (lv' := [(12, .int (rS (rA M n 8) n v j)), (14, .int (nI j)), (13, .int (nI (cq (q_fr (rA M n 8)) j))), (11, .int (nI v)), (9, .long ((rC (rA M n 8) n v).2.2)), (8, .int ((rC (rA M n 8) n v).2.1)), (7, .int ((rC (rA M n 8) n v).1)), (5, .long (sm (f_cm (rA M n 8)) n)), (4, .int (mst (rA M n 8) n)), (3, .int (nI (cq (q_fr (rA M n 8)) n))), (0, .ref (a 0)), (1, .long nodes)]) hx hb dX5_run_256 hl (by decide) rfl (fun ls hl => ?_)
                          refine lv_iinc (v := nI ((cq (q_fr (rA M n 8)) j) + 1)) (lv' := [(13, .int (nI ((cq (q_fr (rA M n 8)) j) + 1))), (12, .int (rS (rA M n 8) n v j)), (14, .int (nI j)), (11, .int (nI v)), (9, .long ((rC (rA M n 8) n v).2.2)), (8, .int ((rC (rA M n 8) n v).2.1)), (7, .int ((rC (rA M n 8) n v).1)), (5, .long (sm (f_cm (rA M n 8)) n)), (4, .int (mst (rA M n 8) n)), (3, .int (nI (cq (q_fr (rA M n 8)) n))), (0, .ref (a 0)), (1, .long nodes)]) hx hb dX5_run_258 hl (k := 2) rfl (nI_add (cq (q_fr (rA M n 8)) j) 1) (by decide) rfl (fun ls hl => ?_)
                          refine lv_iinc (v := nI (j + 1)) (lv' := [(14, .int (nI (j + 1))), (13, .int (nI ((cq (q_fr (rA M n 8)) j) + 1))), (12, .int (rS (rA M n 8) n v j)), (11, .int (nI v)), (9, .long ((rC (rA M n 8) n v).2.2)), (8, .int ((rC (rA M n 8) n v).2.1)), (7, .int ((rC (rA M n 8) n v).1)), (5, .long (sm (f_cm (rA M n 8)) n)), (4, .int (mst (rA M n 8) n)), (3, .int (nI (cq (q_fr (rA M n 8)) n))), (0, .ref (a 0)), (1, .long nodes)]) hx hb dX5_run_261 hl (k := 2) rfl (nI_add j 1) (by decide) rfl (fun ls hl => ?_)
                          refine lv_goto (tgt := 215) hx hb dX5_run_264 (by decide) ?_
                          have hq1 : (rS (rA M n 8) n v j) = (rS (rA M n 8) n v (j + 1)) := by rw [rS, if_pos c_19, if_pos c_20]
                          rw [hq1] at hl
                          have hq2 : nI ((cq (q_fr (rA M n 8)) j) + 1) = (nI (cq (q_fr (rA M n 8)) (j + 1))) := by rw [cq, if_pos (by simp [q_fr, c_19])]
                          rw [hq2] at hl
                          exact ih_j (j + 1) (by omega) ls _ _ (lv_sub hl [0, 1, 2, 3, 4, 5, 6, 7, 8, 9, 10, 11] rfl) hP hD hS
                        · refine lv_iload hx hb dX5_run_244 (lv_at hl 2 rfl) ?_
                          refine lv_iconst (v := 1) hx hb dX5_run_246 (by decide) ?_
                          refine lv_iload hx hb dX5_run_247 (lv_at hl 0 rfl) ?_
                          refine lv_ishl hx hb dX5_run_249 ?_
                          refine lv_ior hx hb dX5_run_250 ?_
                          refine lv_goto (tgt := 256) hx hb dX5_run_251 (by decide) ?_
                          refine lv_istore (lv' := [(12, .int ((rS (rA M n 8) n v j) ||| (1 <<< ((nI j) &&& 31)))), (14, .int (nI j)), (13, .int (nI (cq (q_fr (rA M n 8)) j))), (11, .int (nI v)), (9, .long ((rC (rA M n 8) n v).2.2)), (8, .int ((rC (rA M n 8) n v).2.1)), (7, .int ((rC (rA M n 8) n v).1)), (5, .long (sm (f_cm (rA M n 8)) n)), (4, .int (mst (rA M n 8) n)), (3, .int (nI (cq (q_fr (rA M n 8)) n))), (0, .ref (a 0)), (1, .long nodes)]) hx hb dX5_run_256 hl (by decide) rfl (fun ls hl => ?_)
                          refine lv_iinc (v := nI ((cq (q_fr (rA M n 8)) j) + 1)) (lv' := [(13, .int (nI ((cq (q_fr (rA M n 8)) j) + 1))), (12, .int ((rS (rA M n 8) n v j) ||| (1 <<< ((nI j) &&& 31)))), (14, .int (nI j)), (11, .int (nI v)), (9, .long ((rC (rA M n 8) n v).2.2)), (8, .int ((rC (rA M n 8) n v).2.1)), (7, .int ((rC (rA M n 8) n v).1)), (5, .long (sm (f_cm (rA M n 8)) n)), (4, .int (mst (rA M n 8) n)), (3, .int (nI (cq (q_fr (rA M n 8)) n))), (0, .ref (a 0)), (1, .long nodes)]) hx hb dX5_run_258 hl (k := 2) rfl (nI_add (cq (q_fr (rA M n 8)) j) 1) (by decide) rfl (fun ls hl => ?_)
                          refine lv_iinc (v := nI (j + 1)) (lv' := [(14, .int (nI (j + 1))), (13, .int (nI ((cq (q_fr (rA M n 8)) j) + 1))), (12, .int ((rS (rA M n 8) n v j) ||| (1 <<< ((nI j) &&& 31)))), (11, .int (nI v)), (9, .long ((rC (rA M n 8) n v).2.2)), (8, .int ((rC (rA M n 8) n v).2.1)), (7, .int ((rC (rA M n 8) n v).1)), (5, .long (sm (f_cm (rA M n 8)) n)), (4, .int (mst (rA M n 8) n)), (3, .int (nI (cq (q_fr (rA M n 8)) n))), (0, .ref (a 0)), (1, .long nodes)]) hx hb dX5_run_261 hl (k := 2) rfl (nI_add j 1) (by decide) rfl (fun ls hl => ?_)
                          refine lv_goto (tgt := 215) hx hb dX5_run_264 (by decide) ?_
                          have hq1 : ((rS (rA M n 8) n v j) ||| (1 <<< ((nI j) &&& 31))) = (rS (rA M n 8) n v (j + 1)) := by rw [rS, if_pos c_19, if_neg c_20]
                          rw [hq1] at hl
                          have hq2 : nI ((cq (q_fr (rA M n 8)) j) + 1) = (nI (cq (q_fr (rA M n 8)) (j + 1))) := by rw [cq, if_pos (by simp [q_fr, c_19])]
                          rw [hq2] at hl
                          exact ih_j (j + 1) (by omega) ls _ _ (lv_sub hl [0, 1, 2, 3, 4, 5, 6, 7, 8, 9, 10, 11] rfl) hP hD hS
                  exact loop_j n 0 (by omega) ls _ _ (lv_sub hl [0, 1, 2, 3, 4, 5, 6, 7, 8, 9, 10, 11] rfl) hP hD hS
              exact loop_v wy 0 (by omega) ls _ _ (lv_sub hl [0, 1, 2, 3, 4, 5, 6, 7, 8] rfl) hP hD hS
            · refine lv_aload_n hx hb dX5_run_165 rfl (lv_at hl 4 rfl) ?_
              refine lv_iconst (v := 0) hx hb dX5_run_166 (by decide) ?_
              refine lv_iconst (v := 0) hx hb dX5_run_167 (by decide) ?_
              refine lv_lconst (v := 0) hx hb dX5_run_168 (by decide) ?_
              refine wcV (n := 3) (As := [.int 0, .int 0, .long 0]) (rest := []) hF (c_X5_become l k a (rA M n 8) 0 0 0 (Or.inl rfl)) hP hD hS hA hK 0 (ci := 5) rfl rfl rfl uC_X5_become uN_X5 uM_X5_142 uI_X5_become uE_X5_become (by decide +kernel) rfl ⟨Nat.le_of_ble_eq_true rfl, Nat.le_of_ble_eq_true rfl⟩ ⟨Nat.zero_le _, Nat.zero_le _⟩ hl.1 rfl (Nat.le_of_ble_eq_true rfl) dX5_run_169 (fun H locs hP hD hS => ?_)
              have hP : va_P k.1 vwCl (mW k a (w_X5_become_M (rA M n 8) 0 0 0)) H := hP
              have hD : va_D A (mW k a (w_X5_become_M (rA M n 8) 0 0 0)) := hD
              refine lv_aload_n hx hb dX5_run_172 rfl (lv_at hl 4 rfl) ?_
              refine lv_lload hx hb dX5_run_173 (lv_at hl 1 rfl) ?_
              refine va_put (D := k.1) (ci := 5) (v := .long (sm (f_cm (rA M n 8)) n)) (ty := .long) (C := RX5) (T := TX5) (N := 27) hx hb hU inlX5 tyX5 tyX5_ok nmX5 hown hK.1 hP hD hS 0 rfl rfl 22 (by decide) (hU _ uF_X5_146) (fun _ h9 => h9) rfl (by decide +kernel) rfl rfl (Nat.le_of_ble_eq_true rfl) dX5_run_175 (fun H locs hP hD hS => ?_)
              have hP := pz_m_0_22 k a (w_X5_become_M (rA M n 8) 0 0 0) (sm (f_cm (rA M n 8)) n) hP
              have hD := dz_m_0_22 k a (w_X5_become_M (rA M n 8) 0 0 0) (sm (f_cm (rA M n 8)) n) hD
              refine lv_aload_n hx hb dX5_run_178 rfl (lv_at hl 4 rfl) ?_
              refine lv_iconst (v := 2) hx hb dX5_run_179 (by decide) ?_
              refine va_put (D := k.1) (ci := 5) (v := .int 2) (ty := .int) (C := RX5) (T := TX5) (N := 27) hx hb hU inlX5 tyX5 tyX5_ok nmX5 hown hK.1 hP hD hS 0 rfl rfl 21 (by decide) (hU _ uF_X5_149) (fun _ h9 => h9) rfl (by decide +kernel) rfl rfl (Nat.le_of_ble_eq_true rfl) dX5_run_180 (fun H locs hP hD hS => ?_)
              have hP := pz_m_0_21 k a (sM_bound (w_X5_become_M (rA M n 8) 0 0 0) (sm (f_cm (rA M n 8)) n)) 2 hP
              have hD := dz_m_0_21 k a (sM_bound (w_X5_become_M (rA M n 8) 0 0 0) (sm (f_cm (rA M n 8)) n)) 2 hD
              refine lv_iconst (v := 2) hx hb dX5_run_183 (by decide) ?_
              have hP9 : va_P k.1 vwCl (mW k a (w_X5_run_M M n nodes)) H := by rw [w_X5_run_M]; unfold fr_n; rw [if_neg c_3, if_pos c_4]; exact hP
              have hD9 : va_D A (mW k a (w_X5_run_M M n nodes)) := by rw [w_X5_run_M]; unfold fr_n; rw [if_neg c_3, if_pos c_4]; exact hD
              exact W.iret (v := 2) hx hb hr (fun t ht hW => ⟨⟨by rw [w_X5_run]; unfold fr_n; rw [if_neg c_3, if_pos c_4], by rw [ht]; exact hP9, hD9⟩, hS.F ht⟩) hS.2.2 dX5_run_184
        | succ ri ih_i =>
          intro i hi_i ls H locs hl hP hD hS
          have ht_i : i < n := by omega
          refine lv_iload hx hb dX5_run_66 (lv_at hl 0 rfl) ?_
          refine lv_aload_n hx hb dX5_run_68 rfl (lv_at hl 4 rfl) ?_
          refine va_get (D := k.1) (ci := 5) (v := .int (M_cells (rA M n 8))) (C := RX5) (T := TX5) (N := 27) hx hb hU inlX5 hown hK.1 hP 0 rfl rfl 0 (by decide) (hU _ uF_X5_49) (fun _ h9 => h9) rfl dX5_run_69 ?_
          refine xb_ge (tgt := 151) hx hb dX5_run_72 (by decide) (fun c9 => absurd (by rw [hv_g]; exact nI_lt (a := i) (b := n) (by omega) (by omega)) c9) (fun c_21 => ?_)
          refine lv_iload_n hx hb dX5_run_75 rfl (lv_at hl 3 rfl) ?_
          refine lv_aload_n hx hb dX5_run_76 rfl (lv_at hl 4 rfl) ?_
          refine va_get (D := k.1) (ci := 5) (v := .ref (a 2)) (C := RX5) (T := TX5) (N := 27) hx hb hU inlX5 hown hK.1 hP 0 rfl rfl 2 (by decide) (hU _ uF_X5_13) (fun _ h9 => h9) rfl dX5_run_77 ?_
          refine lv_iload hx hb dX5_run_80 (lv_at hl 0 rfl) ?_
          refine xa_iald hx hb hK.1 hP 2 0 rfl rfl (j := i) rfl (by omega) (by decide) dX5_run_82 ?_
          refine lv_if_ne (tgt := 90) hx hb dX5_run_83 (by decide) (fun c_22 => ?_) (fun c_22 => ?_)
          · refine lv_iconst (v := 0) hx hb dX5_run_90 (by decide) ?_
            refine lv_iadd hx hb dX5_run_91 ?_
            refine lv_istore_n (lv' := [(3, .int ((nI (cq (q_fr (rA M n 8)) i)) + 0)), (7, .int (nI i)), (5, .long (sm (f_cm (rA M n 8)) i)), (4, .int (mst (rA M n 8) i)), (0, .ref (a 0)), (1, .long nodes)]) hx hb dX5_run_92 rfl hl (by decide) rfl (fun ls hl => ?_)
            refine lv_aload_n hx hb dX5_run_93 rfl (lv_at hl 4 rfl) ?_
            refine va_get (D := k.1) (ci := 5) (v := .ref (a 2)) (C := RX5) (T := TX5) (N := 27) hx hb hU inlX5 hown hK.1 hP 0 rfl rfl 2 (by decide) (hU _ uF_X5_13) (fun _ h9 => h9) rfl dX5_run_94 ?_
            refine lv_iload hx hb dX5_run_97 (lv_at hl 1 rfl) ?_
            refine xa_iald hx hb hK.1 hP 2 0 rfl rfl (j := i) rfl (by omega) (by decide) dX5_run_99 ?_
            refine lv_iconst (v := 1) hx hb dX5_run_100 (by decide) ?_
            refine lv_icmp_ne (tgt := 114) hx hb dX5_run_101 (by decide) (fun c_23 => ?_) (fun c_23 => ?_)
            · refine lv_iload hx hb dX5_run_114 (lv_at hl 3 rfl) ?_
              refine lv_istore (lv' := [(4, .int (mst (rA M n 8) i)), (3, .int ((nI (cq (q_fr (rA M n 8)) i)) + 0)), (7, .int (nI i)), (5, .long (sm (f_cm (rA M n 8)) i)), (0, .ref (a 0)), (1, .long nodes)]) hx hb dX5_run_116 hl (by decide) rfl (fun ls hl => ?_)
              refine lv_lload hx hb dX5_run_118 (lv_at hl 3 rfl) ?_
              refine lv_aload_n hx hb dX5_run_120 rfl (lv_at hl 4 rfl) ?_
              refine va_get (D := k.1) (ci := 5) (v := .ref (a 2)) (C := RX5) (T := TX5) (N := 27) hx hb hU inlX5 hown hK.1 hP 0 rfl rfl 2 (by decide) (hU _ uF_X5_13) (fun _ h9 => h9) rfl dX5_run_121 ?_
              refine lv_iload hx hb dX5_run_124 (lv_at hl 2 rfl) ?_
              refine xa_iald hx hb hK.1 hP 2 0 rfl rfl (j := i) rfl (by omega) (by decide) dX5_run_126 ?_
              refine lv_iconst (v := 1) hx hb dX5_run_127 (by decide) ?_
              refine lv_icmp_ne (tgt := 141) hx hb dX5_run_128 (by decide) (fun c_24 => ?_) (fun c_24 => ?_)
              · refine lv_lconst (v := 0) hx hb dX5_run_141 (by decide) ?_
                refine lv_ladd hx hb dX5_run_142 ?_
                refine lv_lstore (lv' := [(5, .long ((sm (f_cm (rA M n 8)) i) + 0)), (4, .int (mst (rA M n 8) i)), (3, .int ((nI (cq (q_fr (rA M n 8)) i)) + 0)), (7, .int (nI i)), (0, .ref (a 0)), (1, .long nodes)]) hx hb dX5_run_143 hl (by decide) rfl (fun ls hl => ?_)
                refine lv_iinc (v := nI (i + 1)) (lv' := [(7, .int (nI (i + 1))), (5, .long ((sm (f_cm (rA M n 8)) i) + 0)), (4, .int (mst (rA M n 8) i)), (3, .int ((nI (cq (q_fr (rA M n 8)) i)) + 0)), (0, .ref (a 0)), (1, .long nodes)]) hx hb dX5_run_145 hl (k := 3) rfl (nI_add i 1) (by decide) rfl (fun ls hl => ?_)
                refine lv_goto (tgt := 66) hx hb dX5_run_148 (by decide) ?_
                have hq5 : ((sm (f_cm (rA M n 8)) i) + 0) = (sm (f_cm (rA M n 8)) (i + 1)) := by simp [sm, f_cm, c_24]
                rw [hq5] at hl
                have hq4 : (mst (rA M n 8) i) = (mst (rA M n 8) (i + 1)) := by rw [mst, if_neg c_23]
                rw [hq4] at hl
                have hq3 : ((nI (cq (q_fr (rA M n 8)) i)) + 0) = (nI (cq (q_fr (rA M n 8)) (i + 1))) := by rw [cq, if_neg (by simp [q_fr, c_22])]; exact Int32.add_zero _
                rw [hq3] at hl
                exact ih_i (i + 1) (by omega) ls _ _ (lv_sub hl [0, 1, 2, 3, 4, 5] rfl) hP hD hS
              · refine lv_aload_n hx hb dX5_run_131 rfl (lv_at hl 4 rfl) ?_
                refine va_get (D := k.1) (ci := 5) (v := .ref (a 1)) (C := RX5) (T := TX5) (N := 27) hx hb hU inlX5 hown hK.1 hP 0 rfl rfl 1 (by decide) (hU _ uF_X5_7) (fun _ h9 => h9) rfl dX5_run_132 ?_
                refine lv_iload hx hb dX5_run_135 (lv_at hl 2 rfl) ?_
                refine xa_lald hx hb hK.1 hP 1 1 rfl rfl (j := i) rfl (by omega) (by decide) dX5_run_137 ?_
                refine lv_goto (tgt := 142) hx hb dX5_run_138 (by decide) ?_
                refine lv_ladd hx hb dX5_run_142 ?_
                refine lv_lstore (lv' := [(5, .long ((sm (f_cm (rA M n 8)) i) + ((M_costs (rA M n 8)) i))), (4, .int (mst (rA M n 8) i)), (3, .int ((nI (cq (q_fr (rA M n 8)) i)) + 0)), (7, .int (nI i)), (0, .ref (a 0)), (1, .long nodes)]) hx hb dX5_run_143 hl (by decide) rfl (fun ls hl => ?_)
                refine lv_iinc (v := nI (i + 1)) (lv' := [(7, .int (nI (i + 1))), (5, .long ((sm (f_cm (rA M n 8)) i) + ((M_costs (rA M n 8)) i))), (4, .int (mst (rA M n 8) i)), (3, .int ((nI (cq (q_fr (rA M n 8)) i)) + 0)), (0, .ref (a 0)), (1, .long nodes)]) hx hb dX5_run_145 hl (k := 3) rfl (nI_add i 1) (by decide) rfl (fun ls hl => ?_)
                refine lv_goto (tgt := 66) hx hb dX5_run_148 (by decide) ?_
                have hq5 : ((sm (f_cm (rA M n 8)) i) + ((M_costs (rA M n 8)) i)) = (sm (f_cm (rA M n 8)) (i + 1)) := by simp [sm, f_cm, c_24]
                rw [hq5] at hl
                have hq4 : (mst (rA M n 8) i) = (mst (rA M n 8) (i + 1)) := by rw [mst, if_neg c_23]
                rw [hq4] at hl
                have hq3 : ((nI (cq (q_fr (rA M n 8)) i)) + 0) = (nI (cq (q_fr (rA M n 8)) (i + 1))) := by rw [cq, if_neg (by simp [q_fr, c_22])]; exact Int32.add_zero _
                rw [hq3] at hl
                exact ih_i (i + 1) (by omega) ls _ _ (lv_sub hl [0, 1, 2, 3, 4, 5] rfl) hP hD hS
            · refine lv_iload hx hb dX5_run_104 (lv_at hl 3 rfl) ?_
              refine lv_iconst (v := 1) hx hb dX5_run_106 (by decide) ?_
              refine lv_iload hx hb dX5_run_107 (lv_at hl 1 rfl) ?_
              refine lv_ishl hx hb dX5_run_109 ?_
              refine lv_ior hx hb dX5_run_110 ?_
              refine lv_goto (tgt := 116) hx hb dX5_run_111 (by decide) ?_
              refine lv_istore (lv' := [(4, .int ((mst (rA M n 8) i) ||| (1 <<< ((nI i) &&& 31)))), (3, .int ((nI (cq (q_fr (rA M n 8)) i)) + 0)), (7, .int (nI i)), (5, .long (sm (f_cm (rA M n 8)) i)), (0, .ref (a 0)), (1, .long nodes)]) hx hb dX5_run_116 hl (by decide) rfl (fun ls hl => ?_)
              refine lv_lload hx hb dX5_run_118 (lv_at hl 3 rfl) ?_
              refine lv_aload_n hx hb dX5_run_120 rfl (lv_at hl 4 rfl) ?_
              refine va_get (D := k.1) (ci := 5) (v := .ref (a 2)) (C := RX5) (T := TX5) (N := 27) hx hb hU inlX5 hown hK.1 hP 0 rfl rfl 2 (by decide) (hU _ uF_X5_13) (fun _ h9 => h9) rfl dX5_run_121 ?_
              refine lv_iload hx hb dX5_run_124 (lv_at hl 2 rfl) ?_
              refine xa_iald hx hb hK.1 hP 2 0 rfl rfl (j := i) rfl (by omega) (by decide) dX5_run_126 ?_
              refine lv_iconst (v := 1) hx hb dX5_run_127 (by decide) ?_
              refine lv_icmp_ne (tgt := 141) hx hb dX5_run_128 (by decide) (fun c_25 => ?_) (fun c_25 => ?_)
              · refine lv_lconst (v := 0) hx hb dX5_run_141 (by decide) ?_
                refine lv_ladd hx hb dX5_run_142 ?_
                refine lv_lstore (lv' := [(5, .long ((sm (f_cm (rA M n 8)) i) + 0)), (4, .int ((mst (rA M n 8) i) ||| (1 <<< ((nI i) &&& 31)))), (3, .int ((nI (cq (q_fr (rA M n 8)) i)) + 0)), (7, .int (nI i)), (0, .ref (a 0)), (1, .long nodes)]) hx hb dX5_run_143 hl (by decide) rfl (fun ls hl => ?_)
                refine lv_iinc (v := nI (i + 1)) (lv' := [(7, .int (nI (i + 1))), (5, .long ((sm (f_cm (rA M n 8)) i) + 0)), (4, .int ((mst (rA M n 8) i) ||| (1 <<< ((nI i) &&& 31)))), (3, .int ((nI (cq (q_fr (rA M n 8)) i)) + 0)), (0, .ref (a 0)), (1, .long nodes)]) hx hb dX5_run_145 hl (k := 3) rfl (nI_add i 1) (by decide) rfl (fun ls hl => ?_)
                refine lv_goto (tgt := 66) hx hb dX5_run_148 (by decide) ?_
                have hq5 : ((sm (f_cm (rA M n 8)) i) + 0) = (sm (f_cm (rA M n 8)) (i + 1)) := by simp [sm, f_cm, c_25]
                rw [hq5] at hl
                have hq4 : ((mst (rA M n 8) i) ||| (1 <<< ((nI i) &&& 31))) = (mst (rA M n 8) (i + 1)) := by rw [mst, if_pos c_23]
                rw [hq4] at hl
                have hq3 : ((nI (cq (q_fr (rA M n 8)) i)) + 0) = (nI (cq (q_fr (rA M n 8)) (i + 1))) := by rw [cq, if_neg (by simp [q_fr, c_22])]; exact Int32.add_zero _
                rw [hq3] at hl
                exact ih_i (i + 1) (by omega) ls _ _ (lv_sub hl [0, 1, 2, 3, 4, 5] rfl) hP hD hS
              · refine lv_aload_n hx hb dX5_run_131 rfl (lv_at hl 4 rfl) ?_
                refine va_get (D := k.1) (ci := 5) (v := .ref (a 1)) (C := RX5) (T := TX5) (N := 27) hx hb hU inlX5 hown hK.1 hP 0 rfl rfl 1 (by decide) (hU _ uF_X5_7) (fun _ h9 => h9) rfl dX5_run_132 ?_
                refine lv_iload hx hb dX5_run_135 (lv_at hl 2 rfl) ?_
                refine xa_lald hx hb hK.1 hP 1 1 rfl rfl (j := i) rfl (by omega) (by decide) dX5_run_137 ?_
                refine lv_goto (tgt := 142) hx hb dX5_run_138 (by decide) ?_
                refine lv_ladd hx hb dX5_run_142 ?_
                refine lv_lstore (lv' := [(5, .long ((sm (f_cm (rA M n 8)) i) + ((M_costs (rA M n 8)) i))), (4, .int ((mst (rA M n 8) i) ||| (1 <<< ((nI i) &&& 31)))), (3, .int ((nI (cq (q_fr (rA M n 8)) i)) + 0)), (7, .int (nI i)), (0, .ref (a 0)), (1, .long nodes)]) hx hb dX5_run_143 hl (by decide) rfl (fun ls hl => ?_)
                refine lv_iinc (v := nI (i + 1)) (lv' := [(7, .int (nI (i + 1))), (5, .long ((sm (f_cm (rA M n 8)) i) + ((M_costs (rA M n 8)) i))), (4, .int ((mst (rA M n 8) i) ||| (1 <<< ((nI i) &&& 31)))), (3, .int ((nI (cq (q_fr (rA M n 8)) i)) + 0)), (0, .ref (a 0)), (1, .long nodes)]) hx hb dX5_run_145 hl (k := 3) rfl (nI_add i 1) (by decide) rfl (fun ls hl => ?_)
                refine lv_goto (tgt := 66) hx hb dX5_run_148 (by decide) ?_
                have hq5 : ((sm (f_cm (rA M n 8)) i) + ((M_costs (rA M n 8)) i)) = (sm (f_cm (rA M n 8)) (i + 1)) := by simp [sm, f_cm, c_25]
                rw [hq5] at hl
                have hq4 : ((mst (rA M n 8) i) ||| (1 <<< ((nI i) &&& 31))) = (mst (rA M n 8) (i + 1)) := by rw [mst, if_pos c_23]
                rw [hq4] at hl
                have hq3 : ((nI (cq (q_fr (rA M n 8)) i)) + 0) = (nI (cq (q_fr (rA M n 8)) (i + 1))) := by rw [cq, if_neg (by simp [q_fr, c_22])]; exact Int32.add_zero _
                rw [hq3] at hl
                exact ih_i (i + 1) (by omega) ls _ _ (lv_sub hl [0, 1, 2, 3, 4, 5] rfl) hP hD hS
          · refine lv_iconst (v := 1) hx hb dX5_run_86 (by decide) ?_
            refine lv_goto (tgt := 91) hx hb dX5_run_87 (by decide) ?_
            refine lv_iadd hx hb dX5_run_91 ?_
            refine lv_istore_n (lv' := [(3, .int ((nI (cq (q_fr (rA M n 8)) i)) + 1)), (7, .int (nI i)), (5, .long (sm (f_cm (rA M n 8)) i)), (4, .int (mst (rA M n 8) i)), (0, .ref (a 0)), (1, .long nodes)]) hx hb dX5_run_92 rfl hl (by decide) rfl (fun ls hl => ?_)
            refine lv_aload_n hx hb dX5_run_93 rfl (lv_at hl 4 rfl) ?_
            refine va_get (D := k.1) (ci := 5) (v := .ref (a 2)) (C := RX5) (T := TX5) (N := 27) hx hb hU inlX5 hown hK.1 hP 0 rfl rfl 2 (by decide) (hU _ uF_X5_13) (fun _ h9 => h9) rfl dX5_run_94 ?_
            refine lv_iload hx hb dX5_run_97 (lv_at hl 1 rfl) ?_
            refine xa_iald hx hb hK.1 hP 2 0 rfl rfl (j := i) rfl (by omega) (by decide) dX5_run_99 ?_
            refine lv_iconst (v := 1) hx hb dX5_run_100 (by decide) ?_
            refine lv_icmp_ne (tgt := 114) hx hb dX5_run_101 (by decide) (fun c_26 => ?_) (fun c_26 => ?_)
            · refine lv_iload hx hb dX5_run_114 (lv_at hl 3 rfl) ?_
              refine lv_istore (lv' := [(4, .int (mst (rA M n 8) i)), (3, .int ((nI (cq (q_fr (rA M n 8)) i)) + 1)), (7, .int (nI i)), (5, .long (sm (f_cm (rA M n 8)) i)), (0, .ref (a 0)), (1, .long nodes)]) hx hb dX5_run_116 hl (by decide) rfl (fun ls hl => ?_)
              refine lv_lload hx hb dX5_run_118 (lv_at hl 3 rfl) ?_
              refine lv_aload_n hx hb dX5_run_120 rfl (lv_at hl 4 rfl) ?_
              refine va_get (D := k.1) (ci := 5) (v := .ref (a 2)) (C := RX5) (T := TX5) (N := 27) hx hb hU inlX5 hown hK.1 hP 0 rfl rfl 2 (by decide) (hU _ uF_X5_13) (fun _ h9 => h9) rfl dX5_run_121 ?_
              refine lv_iload hx hb dX5_run_124 (lv_at hl 2 rfl) ?_
              refine xa_iald hx hb hK.1 hP 2 0 rfl rfl (j := i) rfl (by omega) (by decide) dX5_run_126 ?_
              refine lv_iconst (v := 1) hx hb dX5_run_127 (by decide) ?_
              refine lv_icmp_ne (tgt := 141) hx hb dX5_run_128 (by decide) (fun c_27 => ?_) (fun c_27 => ?_)
              · refine lv_lconst (v := 0) hx hb dX5_run_141 (by decide) ?_
                refine lv_ladd hx hb dX5_run_142 ?_
                refine lv_lstore (lv' := [(5, .long ((sm (f_cm (rA M n 8)) i) + 0)), (4, .int (mst (rA M n 8) i)), (3, .int ((nI (cq (q_fr (rA M n 8)) i)) + 1)), (7, .int (nI i)), (0, .ref (a 0)), (1, .long nodes)]) hx hb dX5_run_143 hl (by decide) rfl (fun ls hl => ?_)
                refine lv_iinc (v := nI (i + 1)) (lv' := [(7, .int (nI (i + 1))), (5, .long ((sm (f_cm (rA M n 8)) i) + 0)), (4, .int (mst (rA M n 8) i)), (3, .int ((nI (cq (q_fr (rA M n 8)) i)) + 1)), (0, .ref (a 0)), (1, .long nodes)]) hx hb dX5_run_145 hl (k := 3) rfl (nI_add i 1) (by decide) rfl (fun ls hl => ?_)
                refine lv_goto (tgt := 66) hx hb dX5_run_148 (by decide) ?_
                have hq5 : ((sm (f_cm (rA M n 8)) i) + 0) = (sm (f_cm (rA M n 8)) (i + 1)) := by simp [sm, f_cm, c_27]
                rw [hq5] at hl
                have hq4 : (mst (rA M n 8) i) = (mst (rA M n 8) (i + 1)) := by rw [mst, if_neg c_26]
                rw [hq4] at hl
                have hq3 : ((nI (cq (q_fr (rA M n 8)) i)) + 1) = (nI (cq (q_fr (rA M n 8)) (i + 1))) := by rw [cq, if_pos (by simp [q_fr, c_22])]; exact nI_1 _
                rw [hq3] at hl
                exact ih_i (i + 1) (by omega) ls _ _ (lv_sub hl [0, 1, 2, 3, 4, 5] rfl) hP hD hS
              · refine lv_aload_n hx hb dX5_run_131 rfl (lv_at hl 4 rfl) ?_
                refine va_get (D := k.1) (ci := 5) (v := .ref (a 1)) (C := RX5) (T := TX5) (N := 27) hx hb hU inlX5 hown hK.1 hP 0 rfl rfl 1 (by decide) (hU _ uF_X5_7) (fun _ h9 => h9) rfl dX5_run_132 ?_
                refine lv_iload hx hb dX5_run_135 (lv_at hl 2 rfl) ?_
                refine xa_lald hx hb hK.1 hP 1 1 rfl rfl (j := i) rfl (by omega) (by decide) dX5_run_137 ?_
                refine lv_goto (tgt := 142) hx hb dX5_run_138 (by decide) ?_
                refine lv_ladd hx hb dX5_run_142 ?_
                refine lv_lstore (lv' := [(5, .long ((sm (f_cm (rA M n 8)) i) + ((M_costs (rA M n 8)) i))), (4, .int (mst (rA M n 8) i)), (3, .int ((nI (cq (q_fr (rA M n 8)) i)) + 1)), (7, .int (nI i)), (0, .ref (a 0)), (1, .long nodes)]) hx hb dX5_run_143 hl (by decide) rfl (fun ls hl => ?_)
                refine lv_iinc (v := nI (i + 1)) (lv' := [(7, .int (nI (i + 1))), (5, .long ((sm (f_cm (rA M n 8)) i) + ((M_costs (rA M n 8)) i))), (4, .int (mst (rA M n 8) i)), (3, .int ((nI (cq (q_fr (rA M n 8)) i)) + 1)), (0, .ref (a 0)), (1, .long nodes)]) hx hb dX5_run_145 hl (k := 3) rfl (nI_add i 1) (by decide) rfl (fun ls hl => ?_)
                refine lv_goto (tgt := 66) hx hb dX5_run_148 (by decide) ?_
                have hq5 : ((sm (f_cm (rA M n 8)) i) + ((M_costs (rA M n 8)) i)) = (sm (f_cm (rA M n 8)) (i + 1)) := by simp [sm, f_cm, c_27]
                rw [hq5] at hl
                have hq4 : (mst (rA M n 8) i) = (mst (rA M n 8) (i + 1)) := by rw [mst, if_neg c_26]
                rw [hq4] at hl
                have hq3 : ((nI (cq (q_fr (rA M n 8)) i)) + 1) = (nI (cq (q_fr (rA M n 8)) (i + 1))) := by rw [cq, if_pos (by simp [q_fr, c_22])]; exact nI_1 _
                rw [hq3] at hl
                exact ih_i (i + 1) (by omega) ls _ _ (lv_sub hl [0, 1, 2, 3, 4, 5] rfl) hP hD hS
            · refine lv_iload hx hb dX5_run_104 (lv_at hl 3 rfl) ?_
              refine lv_iconst (v := 1) hx hb dX5_run_106 (by decide) ?_
              refine lv_iload hx hb dX5_run_107 (lv_at hl 1 rfl) ?_
              refine lv_ishl hx hb dX5_run_109 ?_
              refine lv_ior hx hb dX5_run_110 ?_
              refine lv_goto (tgt := 116) hx hb dX5_run_111 (by decide) ?_
              refine lv_istore (lv' := [(4, .int ((mst (rA M n 8) i) ||| (1 <<< ((nI i) &&& 31)))), (3, .int ((nI (cq (q_fr (rA M n 8)) i)) + 1)), (7, .int (nI i)), (5, .long (sm (f_cm (rA M n 8)) i)), (0, .ref (a 0)), (1, .long nodes)]) hx hb dX5_run_116 hl (by decide) rfl (fun ls hl => ?_)
              refine lv_lload hx hb dX5_run_118 (lv_at hl 3 rfl) ?_
              refine lv_aload_n hx hb dX5_run_120 rfl (lv_at hl 4 rfl) ?_
              refine va_get (D := k.1) (ci := 5) (v := .ref (a 2)) (C := RX5) (T := TX5) (N := 27) hx hb hU inlX5 hown hK.1 hP 0 rfl rfl 2 (by decide) (hU _ uF_X5_13) (fun _ h9 => h9) rfl dX5_run_121 ?_
              refine lv_iload hx hb dX5_run_124 (lv_at hl 2 rfl) ?_
              refine xa_iald hx hb hK.1 hP 2 0 rfl rfl (j := i) rfl (by omega) (by decide) dX5_run_126 ?_
              refine lv_iconst (v := 1) hx hb dX5_run_127 (by decide) ?_
              refine lv_icmp_ne (tgt := 141) hx hb dX5_run_128 (by decide) (fun c_28 => ?_) (fun c_28 => ?_)
              · refine lv_lconst (v := 0) hx hb dX5_run_141 (by decide) ?_
                refine lv_ladd hx hb dX5_run_142 ?_
                refine lv_lstore (lv' := [(5, .long ((sm (f_cm (rA M n 8)) i) + 0)), (4, .int ((mst (rA M n 8) i) ||| (1 <<< ((nI i) &&& 31)))), (3, .int ((nI (cq (q_fr (rA M n 8)) i)) + 1)), (7, .int (nI i)), (0, .ref (a 0)), (1, .long nodes)]) hx hb dX5_run_143 hl (by decide) rfl (fun ls hl => ?_)
                refine lv_iinc (v := nI (i + 1)) (lv' := [(7, .int (nI (i + 1))), (5, .long ((sm (f_cm (rA M n 8)) i) + 0)), (4, .int ((mst (rA M n 8) i) ||| (1 <<< ((nI i) &&& 31)))), (3, .int ((nI (cq (q_fr (rA M n 8)) i)) + 1)), (0, .ref (a 0)), (1, .long nodes)]) hx hb dX5_run_145 hl (k := 3) rfl (nI_add i 1) (by decide) rfl (fun ls hl => ?_)
                refine lv_goto (tgt := 66) hx hb dX5_run_148 (by decide) ?_
                have hq5 : ((sm (f_cm (rA M n 8)) i) + 0) = (sm (f_cm (rA M n 8)) (i + 1)) := by simp [sm, f_cm, c_28]
                rw [hq5] at hl
                have hq4 : ((mst (rA M n 8) i) ||| (1 <<< ((nI i) &&& 31))) = (mst (rA M n 8) (i + 1)) := by rw [mst, if_pos c_26]
                rw [hq4] at hl
                have hq3 : ((nI (cq (q_fr (rA M n 8)) i)) + 1) = (nI (cq (q_fr (rA M n 8)) (i + 1))) := by rw [cq, if_pos (by simp [q_fr, c_22])]; exact nI_1 _
                rw [hq3] at hl
                exact ih_i (i + 1) (by omega) ls _ _ (lv_sub hl [0, 1, 2, 3, 4, 5] rfl) hP hD hS
              · refine lv_aload_n hx hb dX5_run_131 rfl (lv_at hl 4 rfl) ?_
                refine va_get (D := k.1) (ci := 5) (v := .ref (a 1)) (C := RX5) (T := TX5) (N := 27) hx hb hU inlX5 hown hK.1 hP 0 rfl rfl 1 (by decide) (hU _ uF_X5_7) (fun _ h9 => h9) rfl dX5_run_132 ?_
                refine lv_iload hx hb dX5_run_135 (lv_at hl 2 rfl) ?_
                refine xa_lald hx hb hK.1 hP 1 1 rfl rfl (j := i) rfl (by omega) (by decide) dX5_run_137 ?_
                refine lv_goto (tgt := 142) hx hb dX5_run_138 (by decide) ?_
                refine lv_ladd hx hb dX5_run_142 ?_
                refine lv_lstore (lv' := [(5, .long ((sm (f_cm (rA M n 8)) i) + ((M_costs (rA M n 8)) i))), (4, .int ((mst (rA M n 8) i) ||| (1 <<< ((nI i) &&& 31)))), (3, .int ((nI (cq (q_fr (rA M n 8)) i)) + 1)), (7, .int (nI i)), (0, .ref (a 0)), (1, .long nodes)]) hx hb dX5_run_143 hl (by decide) rfl (fun ls hl => ?_)
                refine lv_iinc (v := nI (i + 1)) (lv' := [(7, .int (nI (i + 1))), (5, .long ((sm (f_cm (rA M n 8)) i) + ((M_costs (rA M n 8)) i))), (4, .int ((mst (rA M n 8) i) ||| (1 <<< ((nI i) &&& 31)))), (3, .int ((nI (cq (q_fr (rA M n 8)) i)) + 1)), (0, .ref (a 0)), (1, .long nodes)]) hx hb dX5_run_145 hl (k := 3) rfl (nI_add i 1) (by decide) rfl (fun ls hl => ?_)
                refine lv_goto (tgt := 66) hx hb dX5_run_148 (by decide) ?_
                have hq5 : ((sm (f_cm (rA M n 8)) i) + ((M_costs (rA M n 8)) i)) = (sm (f_cm (rA M n 8)) (i + 1)) := by simp [sm, f_cm, c_28]
                rw [hq5] at hl
                have hq4 : ((mst (rA M n 8) i) ||| (1 <<< ((nI i) &&& 31))) = (mst (rA M n 8) (i + 1)) := by rw [mst, if_pos c_26]
                rw [hq4] at hl
                have hq3 : ((nI (cq (q_fr (rA M n 8)) i)) + 1) = (nI (cq (q_fr (rA M n 8)) (i + 1))) := by rw [cq, if_pos (by simp [q_fr, c_22])]; exact nI_1 _
                rw [hq3] at hl
                exact ih_i (i + 1) (by omega) ls _ _ (lv_sub hl [0, 1, 2, 3, 4, 5] rfl) hP hD hS
      exact loop_i n 0 (by omega) ls _ _ (lv_sub hl [0, 1, 2, 3, 4, 5] rfl) hP hD hS
    | succ rg ih_g =>
      intro g hi_g ls H locs hl hP hD hS hv_g
      have ht_g : g < 8 := by omega
      refine lv_iload_n hx hb dX5_run_12 rfl (lv_at hl 0 rfl) ?_
      refine lv_bipush (v := 8) hx hb dX5_run_13 (by decide) ?_
      refine xb_ge (tgt := 55) hx hb dX5_run_15 (by decide) (fun c9 => absurd (nI_lt (a := g) (b := 8) (by omega) (by omega)) c9) (fun c_29 => ?_)
      refine lv_aload_n hx hb dX5_run_18 rfl (lv_at hl 1 rfl) ?_
      refine lv_aload_n hx hb dX5_run_19 rfl (lv_at hl 1 rfl) ?_
      refine lv_iload_n hx hb dX5_run_20 rfl (lv_at hl 0 rfl) ?_
      refine lv_aload_n hx hb dX5_run_21 rfl (lv_at hl 1 rfl) ?_
      refine rcV (n := 0) (As := []) (rest := [.int (nI g), .ref (a 0), .ref (a 0)]) hF (c_X5_open l k a (rA M n g)  n hn hv_g) (hP) hK 0 (ci := 5) rfl rfl rfl uC_X5_open uN_X5 uM_X5_139 uI_X5_open uE_X5_open (by decide +kernel) rfl ⟨Nat.le_of_ble_eq_true rfl, Nat.le_of_ble_eq_true rfl⟩ ⟨Nat.zero_le _, Nat.zero_le _⟩ hl.1 rfl (Nat.le_of_ble_eq_true rfl) dX5_run_22 ?_
      refine rcV (n := 2) (As := [.int (nI g), .int (opn (rA M n g) n)]) (rest := [.ref (a 0)]) hF (c_X5_meets l k a (rA M n g) (nI g) (opn (rA M n g) n) n hn hv_g g (by omega) rfl) (hP) hK 0 (ci := 5) rfl rfl rfl uC_X5_meets uN_X5 uM_X5_111 uI_X5_meets uE_X5_meets (by decide +kernel) rfl ⟨Nat.le_of_ble_eq_true rfl, Nat.le_of_ble_eq_true rfl⟩ ⟨Nat.zero_le _, Nat.zero_le _⟩ hl.1 rfl (Nat.le_of_ble_eq_true rfl) dX5_run_25 ?_
      refine lv_if_eq (tgt := 38) hx hb dX5_run_28 (by decide) (fun c_30 => ?_) (fun c_30 => ?_)
      · refine lv_aload_n hx hb dX5_run_38 rfl (lv_at hl 1 rfl) ?_
        refine va_get (D := k.1) (ci := 5) (v := .int (M_clashes (rA M n g))) (C := RX5) (T := TX5) (N := 27) hx hb hU inlX5 hown hK.1 hP 0 rfl rfl 23 (by decide) (hU _ uF_X5_136) (fun _ h9 => h9) rfl dX5_run_39 ?_
        refine lv_iconst (v := 1) hx hb dX5_run_42 (by decide) ?_
        refine lv_iload_n hx hb dX5_run_43 rfl (lv_at hl 0 rfl) ?_
        refine lv_ishl hx hb dX5_run_44 ?_
        refine lv_ior hx hb dX5_run_45 ?_
        refine va_put (D := k.1) (ci := 5) (v := .int ((M_clashes (rA M n g)) ||| (1 <<< ((nI g) &&& 31)))) (ty := .int) (C := RX5) (T := TX5) (N := 27) hx hb hU inlX5 tyX5 tyX5_ok nmX5 hown hK.1 hP hD hS 0 rfl rfl 23 (by decide) (hU _ uF_X5_136) (fun _ h9 => h9) rfl (by decide +kernel) rfl rfl (Nat.le_of_ble_eq_true rfl) dX5_run_46 (fun H locs hP hD hS => ?_)
        have hP := pz_m_0_23 k a (rA M n g) ((M_clashes (rA M n g)) ||| (1 <<< ((nI g) &&& 31))) hP
        have hD := dz_m_0_23 k a (rA M n g) ((M_clashes (rA M n g)) ||| (1 <<< ((nI g) &&& 31))) hD
        refine lv_iinc (v := nI (g + 1)) (lv' := [(3, .int (nI (g + 1))), (0, .ref (a 0)), (1, .long nodes)]) hx hb dX5_run_49 hl (k := 0) rfl (nI_add g 1) (by decide) rfl (fun ls hl => ?_)
        refine lv_goto (tgt := 12) hx hb dX5_run_52 (by decide) ?_
        have hq1 : (sM_clashes (rA M n g) ((M_clashes (rA M n g)) ||| (1 <<< ((nI g) &&& 31)))) = (rA M n (g + 1)) := by rw [rA, if_pos c_30]
        rw [hq1] at hP hD
        have hv2 : M_cells (rA M n (g + 1)) = nI n := by rw [rA, if_pos c_30]; exact hv_g
        exact ih_g (g + 1) (by omega) ls _ _ (lv_sub hl [0, 1, 2] rfl) hP hD hS hv2
      · refine lv_aload_n hx hb dX5_run_31 rfl (lv_at hl 1 rfl) ?_
        refine va_get (D := k.1) (ci := 5) (v := .int (M_clashes (rA M n g))) (C := RX5) (T := TX5) (N := 27) hx hb hU inlX5 hown hK.1 hP 0 rfl rfl 23 (by decide) (hU _ uF_X5_136) (fun _ h9 => h9) rfl dX5_run_32 ?_
        refine lv_goto (tgt := 46) hx hb dX5_run_35 (by decide) ?_
        refine va_put (D := k.1) (ci := 5) (v := .int (M_clashes (rA M n g))) (ty := .int) (C := RX5) (T := TX5) (N := 27) hx hb hU inlX5 tyX5 tyX5_ok nmX5 hown hK.1 hP hD hS 0 rfl rfl 23 (by decide) (hU _ uF_X5_136) (fun _ h9 => h9) rfl (by decide +kernel) rfl rfl (Nat.le_of_ble_eq_true rfl) dX5_run_46 (fun H locs hP hD hS => ?_)
        have hP := pz_m_0_23 k a (rA M n g) (M_clashes (rA M n g)) hP
        have hD := dz_m_0_23 k a (rA M n g) (M_clashes (rA M n g)) hD
        refine lv_iinc (v := nI (g + 1)) (lv' := [(3, .int (nI (g + 1))), (0, .ref (a 0)), (1, .long nodes)]) hx hb dX5_run_49 hl (k := 0) rfl (nI_add g 1) (by decide) rfl (fun ls hl => ?_)
        refine lv_goto (tgt := 12) hx hb dX5_run_52 (by decide) ?_
        have hq1 : (sM_clashes (rA M n g) (M_clashes (rA M n g))) = (rA M n (g + 1)) := by rw [rA, if_neg c_30]
        rw [hq1] at hP hD
        have hv2 : M_cells (rA M n (g + 1)) = nI n := by rw [rA, if_neg c_30]; exact hv_g
        exact ih_g (g + 1) (by omega) ls _ _ (lv_sub hl [0, 1, 2] rfl) hP hD hS hv2
  exact loop_g 8 0 (by omega) ls _ _ (lv_sub hl [0, 1, 2] rfl) hP hD hS hc
