section F1
variable {p : Program} {l : Launch} {e : Env} {R : Room} {s : State} {m : MethodId} {args : Array Value} {below : List Frame} {meth : Method} {c : Code} {H : Heap} {locs : List Loc} {cells slots : Nat} {Q : State → Prop}
variable {y : MethodName} {bytes cc : ByteArray} {maxL nL n index fr lo pc : Nat} {ret : Option FieldType} {own C host : String} {b : Addr} {As rest st : List Value} {ls : Array Slot} {k : KT} {ws : va_W} {vo : Option Value} {A : Nat → Prop} {H0 : Heap}
/-- a write of a nest mate whose world is one cell of the caller's -/
theorem wc1 (S : CF p m c cc nL s args own) {e0 e1 : va_E} (hM : MW l y bytes maxL ret (rz fr lo) k (.ref b :: As) [(b, e0)] vo [(b, e1)]) (hP : va_P k.1 vwCl ws H) (hD : va_D A ws) (hS : va_S A H0 H locs) (hA : ∀ q, H0.size ≤ q → A q) (hK : KK k s) (q0 : Nat) {ci : Nat} {q : vw_C} {fs : List Value} (hc : vwCl[ci]? = some q) (he : ws[q0]? = some (b, e0)) (hy : e0 = .inr (ci, fs) ∧ q.1 = C) (hcode : Cond.code y bytes maxL ret ∈ wsL_law) (hini : Cond.initialized y.cls ∈ wsL_law) (hl : Cond.methodLinkNest own index y host ∈ nwL) (hi : Cond.instanceMethod y ∈ wsL_law) (hse : Cond.selects C y y ∈ wsL_law) (hd : DN y n) (hn : As.length = n) (hR : RM R fr lo maxL) (hf : cells ≤ R.cells ∧ slots ≤ R.slots) (hsz : ls.size = nL) (hst : st = As.reverse ++ .ref b :: rest) (hW : (rest.map fun v => v.category).sum ≤ 8) (hdg : decode cc pc = .ok (.invokevirtual index, 3))
    (kk : ∀ (H1 : Heap) (locs1 : List Loc), va_P k.1 vwCl (ws.set q0 (b, e1)) H1 → va_D A (ws.set q0 (b, e1)) → va_S A H0 H1 locs1 → W p l e R s m args below meth c H1 locs1 cells slots Q (F0 m (pc + 3) ls (vo.toList ++ rest))) : W p l e R s m args below meth c H locs cells slots Q (F0 m pc ls st) := by
  obtain ⟨hy0, hy⟩ := hy
  have hwc : ∀ (j : Nat) (x : Nat × va_E), ([(b, e0)] : va_W)[j]? = some x → x = (b, e0) := by
    intro j x hx
    cases j with
    | zero => exact (Option.some.inj hx).symm
    | succ j => cases hx
  have hPc : va_P k.1 vwCl [(b, e0)] H := fun j x hx => by rw [hwc j x hx]; exact hP q0 _ he
  have hDc : va_D A [(b, e0)] := by
    refine ⟨fun i j x z hx hz _ => ?_, fun j x hx => by rw [hwc j x hx]; exact hD.2 q0 _ he⟩
    have h1 := (List.getElem?_eq_some_iff.mp hx).1
    have h2 := (List.getElem?_eq_some_iff.mp hz).1
    simp at h1 h2
    omega
  have hF : ∀ q, va_A [(b, e0)] H.size q → A q := fA hDc hS hA
  have he' : ws[q0]? = some (b, .inr (ci, fs)) := by rw [he, hy0]
  refine W.callWr (va_runVN S (hM H.size) ⟨cN S hK hcode hini hl hd hR, S.2.2.2.2 _ hi, S.2.2.2.2 _ hse⟩ ⟨wB.blind, hy ▸ va_recv hK.1 hP hc he', wB.at hPc hK hDc⟩ rfl hn hsz hst (lv_room hW) hdg hf) hS (fun q _ h => hF q h) hF (fun H1 locs1 h1 h2 h3 h4 => ?_)
  refine kk H1 locs1 (fun j x hx => ?_) (hD.set he) h4
  have hq0 := (List.getElem?_eq_some_iff.mp he).1
  by_cases hj : j = q0
  · subst hj
    rw [List.getElem?_set_self hq0] at hx
    cases hx
    exact h1 0 _ rfl
  · rw [List.getElem?_set_ne (Ne.symm hj)] at hx
    have h5 := hP j x hx
    refine h5.kept (h3 x.1 h5.lt ?_)
    rintro (⟨i, e9, h9⟩ | h9)
    · have h10 : x.1 = b := congrArg Prod.fst (hwc i _ h9)
      exact hj (hD.1 j q0 x (b, e0) hx he h10)
    · exact absurd h5.lt (Nat.not_lt.mpr h9)
end F1

/-- Gray's order: the place that changes at step i -/
def plN (i : Nat) : Nat := (w_bitCount (((nI i) &&& (-(nI i))) - 1)).toNatClampNeg
theorem pl_eq (i : Nat) : w_bitCount (((nI i) &&& (-(nI i))) - 1) = nI (plN i) := by
  obtain ⟨j, hj, e⟩ := bc_nat (((nI i) &&& (-(nI i))) - 1)
  unfold plN
  rw [e, nI_clamp (by omega)]
theorem pl_lt (i : Nat) : plN i < 64 := by
  obtain ⟨j, hj, e⟩ := bc_nat (((nI i) &&& (-(nI i))) - 1)
  unfold plN
  rw [e, nI_clamp (by omega)]
  exact hj
def srs (S : SeaT) (n : Nat) (y : TalT × ChoT) (i : Nat) : TalT × ChoT :=
  if plN i < cn (w_X2_freeSet S) n then (ex_T S y.1 n (fcN (w_X2_freeSet S) n (plN i)), w_X4_considerTally_C S (ex_T S y.1 n (fcN (w_X2_freeSet S) n (plN i))) y.2) else y
def sr (S : SeaT) (n : Nat) (x : TalT × ChoT) : Nat → TalT × ChoT
  | 0 => x
  | i + 1 => if i = 0 then x else srs S n (sr S n x i) i
def sr0 (S : SeaT) (T : TalT) (C : ChoT) (n : Nat) : TalT × ChoT := (bgT S T n (S_needed S) n, w_X4_considerTally_C S (bgT S T n (S_needed S) n) C)

set_option maxHeartbeats 4000000 in
set_option maxRecDepth 100000 in
theorem c_X4_search (l : Launch) (k : KT) (a : Nat → Nat) (S : SeaT) (T : TalT) (dr : Int64) (tr : Int64) (C : ChoT) (F : (Nat → Int32)) (G : GoT)  (n : Nat) (hn : n ≤ 24) (hc : S_cells S = nI n) (hm : cn (w_X2_freeSet S) n ≤ 12) : MW l yX4_search cX4_search 5 none (rz 4 94) k [.ref (a 0)] (xW k a S T dr tr C F G) none (xW k a S (sr S n (sr0 S T C n) (2 ^ cn (w_X2_freeSet S) n)).1 dr tr (sr S n (sr0 S T C n) (2 ^ cn (w_X2_freeSet S) n)).2 (lfF (w_X2_freeSet S) F n) G) := by
  intro sz
  refine Met.ofW (cc := cX4_search) (maxL := 5) (ret := none) (by decide) rfl ?_
  intro p e s m args below meth c s₁ B hml hv
  obtain ⟨rfl, hsz, hP, hK, hD0⟩ := hv
  have hx := B.exec
  have hb := B.bytes
  have hr := B.returns
  have hU : ∀ w ∈ wsL_law, w.before [.ref (a 0)].toArray s = true := fun w h => atoms_spec (ws := Cond.code yX4_search cX4_search 5 none :: wsL_law) B.pre w (List.mem_cons_of_mem _ h)
  have hown : s.vm.findClass RX4 = some m.cls := findClass_of_methodNamed B.named
  have hlocks := B.notSynchronized
  have hF : CF p m c cX4_search 5 s [.ref (a 0)].toArray RX4 := ⟨hx, hb, hml, hown, hU⟩
  subst hsz
  have hD := hD0.self (sz := s.heap.size)
  generalize hAe : va_A (xW k a S T dr tr C F G) s.heap.size = A at hD ⊢
  have hA : ∀ q : Nat, s.heap.size ≤ q → A q := fun q h => by rw [← hAe]; exact Or.inr h
  have hS : va_S A s.heap s.heap [] := va_S.rf
  have hl := lv_entry ([.ref (a 0)] : List Value) (n := 5) (Nat.le_of_ble_eq_true rfl)
  rw [lg_entry_eq]
  generalize (lg_sl ([.ref (a 0)] : List Value) ++ List.replicate (5 - (lg_sl ([.ref (a 0)] : List Value)).length) Slot.unset).toArray = ls at hl ⊢
  have hl : lv_has ls 5 [(0, .ref (a 0))] := hl
  obtain ⟨wy, hwy⟩ : ∃ wy : Nat, wy = (2 ^ cn (w_X2_freeSet S) n) := ⟨_, rfl⟩
  have hwl : wy ≤ 4096 := by rw [hwy]; exact m2_pos hm
  have hw1 : 1 ≤ wy := by rw [hwy]; exact Nat.one_le_two_pow
  refine lv_aload_n hx hb dX4_search_0 rfl (lv_at hl 0 rfl) ?_
  refine wcV (n := 0) (As := []) (rest := []) hF (c_X4_listFreeCells l k a S T dr tr C F G  n hn hc) hP hD hS hA hK 0 (ci := 4) rfl rfl rfl uC_X4_listFreeCells uN_X4 uM_X4_235 uI_X4_listFreeCells uE_X4_listFreeCells (by decide +kernel) rfl ⟨Nat.le_of_ble_eq_true rfl, Nat.le_of_ble_eq_true rfl⟩ ⟨Nat.zero_le _, Nat.zero_le _⟩ hl.1 rfl (Nat.le_of_ble_eq_true rfl) dX4_search_1 (fun H locs hP hD hS => ?_)
  have hP : va_P k.1 vwCl (xW k a S T dr tr C (lfF (w_X2_freeSet S) F n) G) H := hP
  have hD : va_D A (xW k a S T dr tr C (lfF (w_X2_freeSet S) F n) G) := hD
  refine lv_istore_n (lv' := [(1, .int (nI (cn (w_X2_freeSet S) n))), (0, .ref (a 0))]) hx hb dX4_search_4 rfl hl (by decide) rfl (fun ls hl => ?_)
  refine lv_iconst (v := 1) hx hb dX4_search_5 (by decide) ?_
  refine lv_iload_n hx hb dX4_search_6 rfl (lv_at hl 0 rfl) ?_
  refine lv_ishl hx hb dX4_search_7 ?_
  refine W.eq (g2 := F0 m 8 ls [.int (nI wy)]) (by rw [hwy, ← shl_nI _ (by omega)]; try rfl) ?_
  refine lv_istore_n (lv' := [(2, .int (nI wy)), (1, .int (nI (cn (w_X2_freeSet S) n))), (0, .ref (a 0))]) hx hb dX4_search_8 rfl hl (by decide) rfl (fun ls hl => ?_)
  refine lv_aload_n hx hb dX4_search_9 rfl (lv_at hl 2 rfl) ?_
  refine va_get (D := k.1) (ci := 4) (v := .ref (a 11)) (C := RX4) (T := TX4) (N := 10) hx hb hU inlX4 hown hK.1 hP 0 rfl rfl 1 (by decide) (hU _ uF_X4_21) (fun _ h9 => h9) rfl dX4_search_10 ?_
  refine lv_aload_n hx hb dX4_search_13 rfl (lv_at hl 2 rfl) ?_
  refine va_get (D := k.1) (ci := 4) (v := .ref (a 1)) (C := RX4) (T := TX4) (N := 10) hx hb hU inlX4 hown hK.1 hP 0 rfl rfl 0 (by decide) (hU _ uF_X4_10) (fun _ h9 => h9) rfl dX4_search_14 ?_
  refine va_getN (D := k.1) (ci := 2) (v := .int (S_needed S)) (C := RX2) (T := TX2) (N := 16) hx hb hU inlX2 hown hK.1 hP 1 rfl rfl 13 (by decide) (hK.nf nF_X4_109) (fun _ h9 => h9) rfl dX4_search_17 ?_
  refine wcVN (n := 1) (As := [.int (S_needed S)]) (rest := []) hF (c_X3_begin l k a S T dr tr C (lfF (w_X2_freeSet S) F n) G (S_needed S) n hn hc) hP hD hS hA hK 11 (ci := 3) rfl rfl rfl uC_X3_begin uN_X3 nM_X4_160 uI_X3_begin uE_X3_begin (by decide +kernel) rfl ⟨Nat.le_of_ble_eq_true rfl, Nat.le_of_ble_eq_true rfl⟩ ⟨Nat.zero_le _, Nat.zero_le _⟩ hl.1 rfl (Nat.le_of_ble_eq_true rfl) dX4_search_20 (fun H locs hP hD hS => ?_)
  have hP : va_P k.1 vwCl (xW k a S (bgT S T n (S_needed S) n) dr tr C (lfF (w_X2_freeSet S) F n) G) H := hP
  have hD : va_D A (xW k a S (bgT S T n (S_needed S) n) dr tr C (lfF (w_X2_freeSet S) F n) G) := hD
  refine lv_aload_n hx hb dX4_search_23 rfl (lv_at hl 2 rfl) ?_
  refine wcV (n := 0) (As := []) (rest := []) hF (c_X4_considerTally l k a S (bgT S T n (S_needed S) n) dr tr C (lfF (w_X2_freeSet S) F n) G  ) hP hD hS hA hK 0 (ci := 4) rfl rfl rfl uC_X4_considerTally uN_X4 uM_X4_238 uI_X4_considerTally uE_X4_considerTally (by decide +kernel) rfl ⟨Nat.le_of_ble_eq_true rfl, Nat.le_of_ble_eq_true rfl⟩ ⟨Nat.zero_le _, Nat.zero_le _⟩ hl.1 rfl (Nat.le_of_ble_eq_true rfl) dX4_search_24 (fun H locs hP hD hS => ?_)
  have hP : va_P k.1 vwCl (xW k a S (bgT S T n (S_needed S) n) dr tr (w_X4_considerTally_C S (bgT S T n (S_needed S) n) C) (lfF (w_X2_freeSet S) F n) G) H := hP
  have hD : va_D A (xW k a S (bgT S T n (S_needed S) n) dr tr (w_X4_considerTally_C S (bgT S T n (S_needed S) n) C) (lfF (w_X2_freeSet S) F n) G) := hD
  refine lv_iconst (v := 1) hx hb dX4_search_27 (by decide) ?_
  refine lv_istore_n (lv' := [(3, .int 1), (2, .int (nI wy)), (1, .int (nI (cn (w_X2_freeSet S) n))), (0, .ref (a 0))]) hx hb dX4_search_28 rfl hl (by decide) rfl (fun ls hl => ?_)
  have loop_i : ∀ (ri i : Nat), i + ri * 1 = wy → ∀ (ls : Array Slot) (H : Heap) (locs : List Loc) , lv_has ls 5 [(3, .int (nI i)), (2, .int (nI wy)), (1, .int (nI (cn (w_X2_freeSet S) n))), (0, .ref (a 0))] → va_P k.1 vwCl (xW k a S (sr S n (sr0 S T C n) i).1 dr tr (sr S n (sr0 S T C n) i).2 (lfF (w_X2_freeSet S) F n) G) H → va_D A (xW k a S (sr S n (sr0 S T C n) i).1 dr tr (sr S n (sr0 S T C n) i).2 (lfF (w_X2_freeSet S) F n) G) → va_S A s.heap H locs → 1 ≤ i → WW p l e s m below meth c yX4_search cX4_search 5 none (rz 4 94) [.ref (a 0)] none k (xW k a S (sr S n (sr0 S T C n) (2 ^ cn (w_X2_freeSet S) n)).1 dr tr (sr S n (sr0 S T C n) (2 ^ cn (w_X2_freeSet S) n)).2 (lfF (w_X2_freeSet S) F n) G) A H locs (F0 m 29 ls []) := by
    intro ri
    induction ri with
    | zero =>
      intro i hi_i ls H locs hl hP hD hS hv_i
      have he_i : wy = i := by omega
      subst he_i
      refine lv_iload_n hx hb dX4_search_29 rfl (lv_at hl 0 rfl) ?_
      refine lv_iload_n hx hb dX4_search_30 rfl (lv_at hl 1 rfl) ?_
      refine xb_ge (tgt := 75) hx hb dX4_search_31 (by decide) (fun c_1 => ?_) (fun c9 => absurd c9 (nI_nlt (a := wy) (b := wy) (Nat.le_refl _) (by omega)))
      have hP9 : va_P k.1 vwCl (xW k a S (sr S n (sr0 S T C n) (2 ^ cn (w_X2_freeSet S) n)).1 dr tr (sr S n (sr0 S T C n) (2 ^ cn (w_X2_freeSet S) n)).2 (lfF (w_X2_freeSet S) F n) G) H := by rw [← hwy]; exact hP
      have hD9 : va_D A (xW k a S (sr S n (sr0 S T C n) (2 ^ cn (w_X2_freeSet S) n)).1 dr tr (sr S n (sr0 S T C n) (2 ^ cn (w_X2_freeSet S) n)).2 (lfF (w_X2_freeSet S) F n) G) := by rw [← hwy]; exact hD
      exact W.vret hx hb hr (fun t ht hW => ⟨⟨rfl, by rw [ht]; exact hP9, hD9⟩, hS.F ht⟩) hS.2.2 dX4_search_75
    | succ ri ih_i =>
      intro i hi_i ls H locs hl hP hD hS hv_i
      have ht_i : i < wy := by omega
      refine lv_iload_n hx hb dX4_search_29 rfl (lv_at hl 0 rfl) ?_
      refine lv_iload_n hx hb dX4_search_30 rfl (lv_at hl 1 rfl) ?_
      refine xb_ge (tgt := 75) hx hb dX4_search_31 (by decide) (fun c9 => absurd (nI_lt (a := i) (b := wy) (by omega) (by omega)) c9) (fun c_2 => ?_)
      refine lv_iload_n hx hb dX4_search_34 rfl (lv_at hl 0 rfl) ?_
      refine lv_iload_n hx hb dX4_search_35 rfl (lv_at hl 0 rfl) ?_
      refine lv_ineg hx hb dX4_search_36 ?_
      refine lv_iand hx hb dX4_search_37 ?_
      refine lv_iconst (v := 1) hx hb dX4_search_38 (by decide) ?_
      refine lv_isub hx hb dX4_search_39 ?_
      refine rcS (n := 1) (As := [.int (((nI i) &&& (-(nI i))) - 1)]) (rest := []) hF (c_J6_bitCount_0f7a4 l k (((nI i) &&& (-(nI i))) - 1)) (hP.sub (ws' := []) [] rfl) hK uC_J6_bitCount_0f7a4 uN_J6 uM_X4_142 uS_J6_bitCount_0f7a4 (by decide +kernel) rfl ⟨Nat.le_of_ble_eq_true rfl, Nat.le_of_ble_eq_true rfl⟩ ⟨Nat.zero_le _, Nat.zero_le _⟩ hl.1 rfl (Nat.le_of_ble_eq_true rfl) dX4_search_40 ?_
      refine W.eq (g2 := F0 m 43 ls [.int (nI (plN i))]) (by rw [pl_eq]; try rfl) ?_
      refine lv_istore (lv' := [(4, .int (nI (plN i))), (3, .int (nI i)), (2, .int (nI wy)), (1, .int (nI (cn (w_X2_freeSet S) n))), (0, .ref (a 0))]) hx hb dX4_search_43 hl (by decide) rfl (fun ls hl => ?_)
      refine lv_iload hx hb dX4_search_45 (lv_at hl 0 rfl) ?_
      refine lv_iload_n hx hb dX4_search_47 rfl (lv_at hl 3 rfl) ?_
      refine xb_ge (tgt := 69) hx hb dX4_search_48 (by decide) (fun c_3 => ?_) (fun c_3 => ?_)
      · refine lv_iinc (v := nI (i + 1)) (lv' := [(3, .int (nI (i + 1))), (4, .int (nI (plN i))), (2, .int (nI wy)), (1, .int (nI (cn (w_X2_freeSet S) n))), (0, .ref (a 0))]) hx hb dX4_search_69 hl (k := 1) rfl (nI_add i 1) (by decide) rfl (fun ls hl => ?_)
        refine lv_goto (tgt := 29) hx hb dX4_search_72 (by decide) ?_
        have hpl : ¬ plN i < cn (w_X2_freeSet S) n := fun h => c_3 (nI_lt h (by omega))
        have hq2 : (sr S n (sr0 S T C n) i).2 = (sr S n (sr0 S T C n) (i + 1)).2 := by rw [sr, if_neg (by omega), srs, if_neg hpl]
        rw [hq2] at hP hD
        have hq1 : (sr S n (sr0 S T C n) i).1 = (sr S n (sr0 S T C n) (i + 1)).1 := by rw [sr, if_neg (by omega), srs, if_neg hpl]
        rw [hq1] at hP hD
        exact ih_i (i + 1) (by omega) ls _ _ (lv_sub hl [0, 2, 3, 4] rfl) hP hD hS (by omega)
      · have hpl : plN i < cn (w_X2_freeSet S) n := (nI_ltI (by have := pl_lt i; omega) (by omega)).mp c_3
        refine lv_aload_n hx hb dX4_search_51 rfl (lv_at hl 4 rfl) ?_
        refine va_get (D := k.1) (ci := 4) (v := .ref (a 11)) (C := RX4) (T := TX4) (N := 10) hx hb hU inlX4 hown hK.1 hP 0 rfl rfl 1 (by decide) (hU _ uF_X4_21) (fun _ h9 => h9) rfl dX4_search_52 ?_
        refine lv_aload_n hx hb dX4_search_55 rfl (lv_at hl 4 rfl) ?_
        refine va_get (D := k.1) (ci := 4) (v := .ref (a 17)) (C := RX4) (T := TX4) (N := 10) hx hb hU inlX4 hown hK.1 hP 0 rfl rfl 5 (by decide) (hU _ uF_X4_46) (fun _ h9 => h9) rfl dX4_search_56 ?_
        refine lv_iload hx hb dX4_search_59 (lv_at hl 0 rfl) ?_
        refine xa_iald hx hb hK.1 hP 17 0 rfl rfl (j := (plN i)) rfl (by omega) (by decide) dX4_search_61 ?_
        have hfc : fcN (w_X2_freeSet S) n (plN i) < n := fcN_lt _ hpl
        refine W.eq (g2 := F0 m 62 ls [.int (nI (fcN (w_X2_freeSet S) n (plN i))), .ref (a 11)]) (by rw [lfF_at _ _ hpl]; try rfl) ?_
        refine wcVN (n := 1) (As := [.int (nI (fcN (w_X2_freeSet S) n (plN i)))]) (rest := []) hF (c_X3_exchange l k a S (sr S n (sr0 S T C n) i).1 dr tr (sr S n (sr0 S T C n) i).2 (lfF (w_X2_freeSet S) F n) G (fcN (w_X2_freeSet S) n (plN i)) n hn hc (by omega)) hP hD hS hA hK 11 (ci := 3) rfl rfl rfl uC_X3_exchange uN_X3 nM_X4_241 uI_X3_exchange uE_X3_exchange (by decide +kernel) rfl ⟨Nat.le_of_ble_eq_true rfl, Nat.le_of_ble_eq_true rfl⟩ ⟨Nat.zero_le _, Nat.zero_le _⟩ hl.1 rfl (Nat.le_of_ble_eq_true rfl) dX4_search_62 (fun H locs hP hD hS => ?_)
        have hP : va_P k.1 vwCl (xW k a S (ex_T S (sr S n (sr0 S T C n) i).1 n (fcN (w_X2_freeSet S) n (plN i))) dr tr (sr S n (sr0 S T C n) i).2 (lfF (w_X2_freeSet S) F n) G) H := hP
        have hD : va_D A (xW k a S (ex_T S (sr S n (sr0 S T C n) i).1 n (fcN (w_X2_freeSet S) n (plN i))) dr tr (sr S n (sr0 S T C n) i).2 (lfF (w_X2_freeSet S) F n) G) := hD
        refine lv_aload_n hx hb dX4_search_65 rfl (lv_at hl 4 rfl) ?_
        refine wcV (n := 0) (As := []) (rest := []) hF (c_X4_considerTally l k a S (ex_T S (sr S n (sr0 S T C n) i).1 n (fcN (w_X2_freeSet S) n (plN i))) dr tr (sr S n (sr0 S T C n) i).2 (lfF (w_X2_freeSet S) F n) G  ) hP hD hS hA hK 0 (ci := 4) rfl rfl rfl uC_X4_considerTally uN_X4 uM_X4_238 uI_X4_considerTally uE_X4_considerTally (by decide +kernel) rfl ⟨Nat.le_of_ble_eq_true rfl, Nat.le_of_ble_eq_true rfl⟩ ⟨Nat.zero_le _, Nat.zero_le _⟩ hl.1 rfl (Nat.le_of_ble_eq_true rfl) dX4_search_66 (fun H locs hP hD hS => ?_)
        have hP : va_P k.1 vwCl (xW k a S (ex_T S (sr S n (sr0 S T C n) i).1 n (fcN (w_X2_freeSet S) n (plN i))) dr tr (w_X4_considerTally_C S (ex_T S (sr S n (sr0 S T C n) i).1 n (fcN (w_X2_freeSet S) n (plN i))) (sr S n (sr0 S T C n) i).2) (lfF (w_X2_freeSet S) F n) G) H := hP
        have hD : va_D A (xW k a S (ex_T S (sr S n (sr0 S T C n) i).1 n (fcN (w_X2_freeSet S) n (plN i))) dr tr (w_X4_considerTally_C S (ex_T S (sr S n (sr0 S T C n) i).1 n (fcN (w_X2_freeSet S) n (plN i))) (sr S n (sr0 S T C n) i).2) (lfF (w_X2_freeSet S) F n) G) := hD
        refine lv_iinc (v := nI (i + 1)) (lv' := [(3, .int (nI (i + 1))), (4, .int (nI (plN i))), (2, .int (nI wy)), (1, .int (nI (cn (w_X2_freeSet S) n))), (0, .ref (a 0))]) hx hb dX4_search_69 hl (k := 1) rfl (nI_add i 1) (by decide) rfl (fun ls hl => ?_)
        refine lv_goto (tgt := 29) hx hb dX4_search_72 (by decide) ?_
        have hq2 : (w_X4_considerTally_C S (ex_T S (sr S n (sr0 S T C n) i).1 n (fcN (w_X2_freeSet S) n (plN i))) (sr S n (sr0 S T C n) i).2) = (sr S n (sr0 S T C n) (i + 1)).2 := by rw [sr, if_neg (by omega), srs, if_pos hpl]
        rw [hq2] at hP hD
        have hq1 : (ex_T S (sr S n (sr0 S T C n) i).1 n (fcN (w_X2_freeSet S) n (plN i))) = (sr S n (sr0 S T C n) (i + 1)).1 := by rw [sr, if_neg (by omega), srs, if_pos hpl]
        rw [hq1] at hP hD
        exact ih_i (i + 1) (by omega) ls _ _ (lv_sub hl [0, 2, 3, 4] rfl) hP hD hS (by omega)
  exact loop_i ((wy - 1) / 1) 1 (by omega) ls _ _ (lv_sub hl [0, 1, 2, 3] rfl) hP hD hS (Nat.le_refl 1)

/-- the cell that a drawn number names -/
def djN (n : Nat) (x : Int64) : Nat := (Int64.toInt32 (w_X1_next x - w_X1_next x / Int32.toInt64 (nI n) * Int32.toInt64 (nI n))).toNatClampNeg
theorem dj_spec {n : Nat} (h0 : 0 < n) (hn : n ≤ 24) (x : Int64) : Int64.toInt32 (w_X1_next x - w_X1_next x / Int32.toInt64 (nI n) * Int32.toInt64 (nI n)) = nI (djN n x) ∧ djN n x < n := by
  obtain ⟨j, hj, e⟩ := lrem_nI (v := w_X1_next x) h0 (by omega) (by unfold w_X1_next; exact lu1_nonneg _)
  unfold djN
  rw [e, nI_clamp (by omega)]
  exact ⟨rfl, hj⟩
abbrev DmT : Type := TalT × Int64 × Nat × Int64
def dms (S : SeaT) (n : Nat) (y : DmT) : DmT :=
  if w_X3_price S (ex_T S y.1 n (djN n y.2.1)) < y.2.2.2 then
    (if w_X3_stands S (ex_T S y.1 n (djN n y.2.1)) = 0 then (ex_T S (ex_T S y.1 n (djN n y.2.1)) n (djN n y.2.1), w_X1_next_dr y.2.1, y.2.2.1, y.2.2.2)
     else (ex_T S y.1 n (djN n y.2.1), w_X1_next_dr y.2.1, y.2.2.1 + 1, w_X3_price S (ex_T S y.1 n (djN n y.2.1))))
  else (ex_T S (ex_T S y.1 n (djN n y.2.1)) n (djN n y.2.1), w_X1_next_dr y.2.1, y.2.2.1, y.2.2.2)
def dm (S : SeaT) (n : Nat) (x : DmT) : Nat → DmT
  | 0 => x
  | i + 1 => dms S n (dm S n x i)
def dm0 (S : SeaT) (T : TalT) (n : Nat) (x : Int64) : DmT := (bgT S T n (w_X2_openSet S) n, x, 0, w_X3_price S (bgT S T n (w_X2_openSet S) n))
def dm_ok (S : SeaT) (T : TalT) (n : Nat) : Prop := ¬ S_cells S = 0 ∧ ¬ w_X3_stands S (bgT S T n (w_X2_openSet S) n) = 0

def w_dm_dr (S : SeaT) (T : TalT) (dr : Int64) (n N : Nat) : Int32 := if S_cells S = 0 then (-1) else if w_X3_stands S (bgT S T n (w_X2_openSet S) n) = 0 then (-1) else nI (dm S n (dm0 S T n dr) N).2.2.1
def w_dmT_dr (S : SeaT) (T : TalT) (dr : Int64) (n N : Nat) : TalT := if S_cells S = 0 then bgT S T n (w_X2_openSet S) n else if w_X3_stands S (bgT S T n (w_X2_openSet S) n) = 0 then bgT S T n (w_X2_openSet S) n else (dm S n (dm0 S T n dr) N).1
def w_dmx_dr (S : SeaT) (T : TalT) (dr : Int64) (n N : Nat) : Int64 := if S_cells S = 0 then dr else if w_X3_stands S (bgT S T n (w_X2_openSet S) n) = 0 then dr else (dm S n (dm0 S T n dr) N).2.1

set_option maxHeartbeats 4000000 in
set_option maxRecDepth 100000 in
theorem c_X4_drawnMoves_dr (l : Launch) (k : KT) (a : Nat → Nat) (S : SeaT) (T : TalT) (dr : Int64) (tr : Int64) (C : ChoT) (F : (Nat → Int32)) (G : GoT) (N : Nat) (n : Nat) (hn : n ≤ 24) (hc : S_cells S = nI n) (hN : N ≤ 1000) : MW l yX4_drawnMoves cX4_drawnMoves 8 (some .int) (rz 4 94) k [.ref (a 0), .ref (a 14), .int (nI N)] (xW k a S T dr tr C F G) (some (.int (w_dm_dr S T dr n N))) (xW k a S (w_dmT_dr S T dr n N) (w_dmx_dr S T dr n N) tr C F G) := by
  intro sz
  refine Met.ofW (cc := cX4_drawnMoves) (maxL := 8) (ret := (some .int)) (by decide) rfl ?_
  intro p e s m args below meth c s₁ B hml hv
  obtain ⟨rfl, hsz, hP, hK, hD0⟩ := hv
  have hx := B.exec
  have hb := B.bytes
  have hr := B.returns
  have hU : ∀ w ∈ wsL_law, w.before [.ref (a 0), .ref (a 14), .int (nI N)].toArray s = true := fun w h => atoms_spec (ws := Cond.code yX4_drawnMoves cX4_drawnMoves 8 (some .int) :: wsL_law) B.pre w (List.mem_cons_of_mem _ h)
  have hown : s.vm.findClass RX4 = some m.cls := findClass_of_methodNamed B.named
  have hlocks := B.notSynchronized
  have hF : CF p m c cX4_drawnMoves 8 s [.ref (a 0), .ref (a 14), .int (nI N)].toArray RX4 := ⟨hx, hb, hml, hown, hU⟩
  subst hsz
  have hD := hD0.self (sz := s.heap.size)
  generalize hAe : va_A (xW k a S T dr tr C F G) s.heap.size = A at hD ⊢
  have hA : ∀ q : Nat, s.heap.size ≤ q → A q := fun q h => by rw [← hAe]; exact Or.inr h
  have hS : va_S A s.heap s.heap [] := va_S.rf
  have hl := lv_entry ([.ref (a 0), .ref (a 14), .int (nI N)] : List Value) (n := 8) (Nat.le_of_ble_eq_true rfl)
  rw [lg_entry_eq]
  generalize (lg_sl ([.ref (a 0), .ref (a 14), .int (nI N)] : List Value) ++ List.replicate (8 - (lg_sl ([.ref (a 0), .ref (a 14), .int (nI N)] : List Value)).length) Slot.unset).toArray = ls at hl ⊢
  have hl : lv_has ls 8 [(0, .ref (a 0)), (1, .ref (a 14)), (2, .int (nI N))] := hl
  refine lv_aload_n hx hb dX4_drawnMoves_0 rfl (lv_at hl 0 rfl) ?_
  refine va_get (D := k.1) (ci := 4) (v := .ref (a 11)) (C := RX4) (T := TX4) (N := 10) hx hb hU inlX4 hown hK.1 hP 0 rfl rfl 1 (by decide) (hU _ uF_X4_21) (fun _ h9 => h9) rfl dX4_drawnMoves_1 ?_
  refine lv_aload_n hx hb dX4_drawnMoves_4 rfl (lv_at hl 0 rfl) ?_
  refine va_get (D := k.1) (ci := 4) (v := .ref (a 1)) (C := RX4) (T := TX4) (N := 10) hx hb hU inlX4 hown hK.1 hP 0 rfl rfl 0 (by decide) (hU _ uF_X4_10) (fun _ h9 => h9) rfl dX4_drawnMoves_5 ?_
  refine rcVN (n := 0) (As := []) (rest := [.ref (a 11)]) hF (c_X2_openSet l k a S T dr tr C F G  ) (hP) hK 1 (ci := 2) rfl rfl rfl uC_X2_openSet uN_X2 nM_X4_229 uI_X2_openSet uE_X2_openSet (by decide +kernel) rfl ⟨Nat.le_of_ble_eq_true rfl, Nat.le_of_ble_eq_true rfl⟩ ⟨Nat.zero_le _, Nat.zero_le _⟩ hl.1 rfl (Nat.le_of_ble_eq_true rfl) dX4_drawnMoves_8 ?_
  refine wcVN (n := 1) (As := [.int (w_X2_openSet S)]) (rest := []) hF (c_X3_begin l k a S T dr tr C F G (w_X2_openSet S) n hn hc) hP hD hS hA hK 11 (ci := 3) rfl rfl rfl uC_X3_begin uN_X3 nM_X4_160 uI_X3_begin uE_X3_begin (by decide +kernel) rfl ⟨Nat.le_of_ble_eq_true rfl, Nat.le_of_ble_eq_true rfl⟩ ⟨Nat.zero_le _, Nat.zero_le _⟩ hl.1 rfl (Nat.le_of_ble_eq_true rfl) dX4_drawnMoves_11 (fun H locs hP hD hS => ?_)
  have hP : va_P k.1 vwCl (xW k a S (bgT S T n (w_X2_openSet S) n) dr tr C F G) H := hP
  have hD : va_D A (xW k a S (bgT S T n (w_X2_openSet S) n) dr tr C F G) := hD
  refine lv_aload_n hx hb dX4_drawnMoves_14 rfl (lv_at hl 0 rfl) ?_
  refine va_get (D := k.1) (ci := 4) (v := .ref (a 1)) (C := RX4) (T := TX4) (N := 10) hx hb hU inlX4 hown hK.1 hP 0 rfl rfl 0 (by decide) (hU _ uF_X4_10) (fun _ h9 => h9) rfl dX4_drawnMoves_15 ?_
  refine va_getN (D := k.1) (ci := 2) (v := .int (S_cells S)) (C := RX2) (T := TX2) (N := 16) hx hb hU inlX2 hown hK.1 hP 1 rfl rfl 12 (by decide) (hK.nf nF_X4_60) (fun _ h9 => h9) rfl dX4_drawnMoves_18 ?_
  refine lv_if_eq (tgt := 34) hx hb dX4_drawnMoves_21 (by decide) (fun c_1 => ?_) (fun c_1 => ?_)
  · refine lv_iconst (v := (-1)) hx hb dX4_drawnMoves_34 (by decide) ?_
    have hP9 : va_P k.1 vwCl (xW k a S (w_dmT_dr S T dr n N) (w_dmx_dr S T dr n N) tr C F G) H := by rw [w_dmT_dr, if_pos c_1]; rw [w_dmx_dr, if_pos c_1]; exact hP
    have hD9 : va_D A (xW k a S (w_dmT_dr S T dr n N) (w_dmx_dr S T dr n N) tr C F G) := by rw [w_dmT_dr, if_pos c_1]; rw [w_dmx_dr, if_pos c_1]; exact hD
    exact W.iret (v := (-1)) hx hb hr (fun t ht hW => ⟨⟨by rw [w_dm_dr, if_pos c_1], by rw [ht]; exact hP9, hD9⟩, hS.F ht⟩) hS.2.2 dX4_drawnMoves_35
  · refine lv_aload_n hx hb dX4_drawnMoves_24 rfl (lv_at hl 0 rfl) ?_
    refine va_get (D := k.1) (ci := 4) (v := .ref (a 11)) (C := RX4) (T := TX4) (N := 10) hx hb hU inlX4 hown hK.1 hP 0 rfl rfl 1 (by decide) (hU _ uF_X4_21) (fun _ h9 => h9) rfl dX4_drawnMoves_25 ?_
    refine rcVN (n := 0) (As := []) (rest := []) hF (c_X3_stands l k a S (bgT S T n (w_X2_openSet S) n) dr tr C F G  ) (hP) hK 11 (ci := 3) rfl rfl rfl uC_X3_stands uN_X3 nM_X4_248 uI_X3_stands uE_X3_stands (by decide +kernel) rfl ⟨Nat.le_of_ble_eq_true rfl, Nat.le_of_ble_eq_true rfl⟩ ⟨Nat.zero_le _, Nat.zero_le _⟩ hl.1 rfl (Nat.le_of_ble_eq_true rfl) dX4_drawnMoves_28 ?_
    refine lv_if_ne (tgt := 36) hx hb dX4_drawnMoves_31 (by decide) (fun c_2 => ?_) (fun c_2 => ?_)
    · have hn0 : 0 < n := by rcases Nat.eq_zero_or_pos n with h | h; exact absurd (by rw [hc, h]; rfl) c_1; exact h
      refine lv_iconst (v := 0) hx hb dX4_drawnMoves_36 (by decide) ?_
      refine lv_istore_n (lv' := [(3, .int 0), (0, .ref (a 0)), (1, .ref (a 14)), (2, .int (nI N))]) hx hb dX4_drawnMoves_37 rfl hl (by decide) rfl (fun ls hl => ?_)
      refine lv_aload_n hx hb dX4_drawnMoves_38 rfl (lv_at hl 1 rfl) ?_
      refine va_get (D := k.1) (ci := 4) (v := .ref (a 11)) (C := RX4) (T := TX4) (N := 10) hx hb hU inlX4 hown hK.1 hP 0 rfl rfl 1 (by decide) (hU _ uF_X4_21) (fun _ h9 => h9) rfl dX4_drawnMoves_39 ?_
      refine rcVN (n := 0) (As := []) (rest := []) hF (c_X3_price l k a S (bgT S T n (w_X2_openSet S) n) dr tr C F G  ) (hP) hK 11 (ci := 3) rfl rfl rfl uC_X3_price uN_X3 nM_X4_181 uI_X3_price uE_X3_price (by decide +kernel) rfl ⟨Nat.le_of_ble_eq_true rfl, Nat.le_of_ble_eq_true rfl⟩ ⟨Nat.zero_le _, Nat.zero_le _⟩ hl.1 rfl (Nat.le_of_ble_eq_true rfl) dX4_drawnMoves_42 ?_
      refine lv_lstore (lv' := [(4, .long (w_X3_price S (bgT S T n (w_X2_openSet S) n))), (3, .int 0), (0, .ref (a 0)), (1, .ref (a 14)), (2, .int (nI N))]) hx hb dX4_drawnMoves_45 hl (by decide) rfl (fun ls hl => ?_)
      refine lv_iconst (v := 0) hx hb dX4_drawnMoves_47 (by decide) ?_
      refine lv_istore (lv' := [(6, .int 0), (4, .long (w_X3_price S (bgT S T n (w_X2_openSet S) n))), (3, .int 0), (0, .ref (a 0)), (1, .ref (a 14)), (2, .int (nI N))]) hx hb dX4_drawnMoves_48 hl (by decide) rfl (fun ls hl => ?_)
      have loop_i : ∀ (ri i : Nat), i + ri * 1 = N → ∀ (ls : Array Slot) (H : Heap) (locs : List Loc) , lv_has ls 8 [(6, .int (nI i)), (4, .long ((dm S n (dm0 S T n dr) i).2.2.2)), (3, .int (nI ((dm S n (dm0 S T n dr) i).2.2.1))), (0, .ref (a 0)), (1, .ref (a 14)), (2, .int (nI N))] → va_P k.1 vwCl (xW k a S (dm S n (dm0 S T n dr) i).1 (dm S n (dm0 S T n dr) i).2.1 tr C F G) H → va_D A (xW k a S (dm S n (dm0 S T n dr) i).1 (dm S n (dm0 S T n dr) i).2.1 tr C F G) → va_S A s.heap H locs → WW p l e s m below meth c yX4_drawnMoves cX4_drawnMoves 8 (some .int) (rz 4 94) [.ref (a 0), .ref (a 14), .int (nI N)] (some (.int (w_dm_dr S T dr n N))) k (xW k a S (w_dmT_dr S T dr n N) (w_dmx_dr S T dr n N) tr C F G) A H locs (F0 m 50 ls []) := by
        intro ri
        induction ri with
        | zero =>
          intro i hi_i ls H locs hl hP hD hS
          have he_i : N = i := by omega
          subst he_i
          refine lv_iload hx hb dX4_drawnMoves_50 (lv_at hl 0 rfl) ?_
          refine lv_iload_n hx hb dX4_drawnMoves_52 rfl (lv_at hl 5 rfl) ?_
          refine xb_ge (tgt := 134) hx hb dX4_drawnMoves_53 (by decide) (fun c_3 => ?_) (fun c9 => absurd c9 (nI_nlt (a := N) (b := N) (Nat.le_refl _) (by omega)))
          refine lv_iload_n hx hb dX4_drawnMoves_134 rfl (lv_at hl 2 rfl) ?_
          have hP9 : va_P k.1 vwCl (xW k a S (w_dmT_dr S T dr n N) (w_dmx_dr S T dr n N) tr C F G) H := by rw [w_dmT_dr, if_neg c_1, if_neg c_2]; rw [w_dmx_dr, if_neg c_1, if_neg c_2]; exact hP
          have hD9 : va_D A (xW k a S (w_dmT_dr S T dr n N) (w_dmx_dr S T dr n N) tr C F G) := by rw [w_dmT_dr, if_neg c_1, if_neg c_2]; rw [w_dmx_dr, if_neg c_1, if_neg c_2]; exact hD
          exact W.iret (v := (nI ((dm S n (dm0 S T n dr) N).2.2.1))) hx hb hr (fun t ht hW => ⟨⟨by rw [w_dm_dr, if_neg c_1, if_neg c_2], by rw [ht]; exact hP9, hD9⟩, hS.F ht⟩) hS.2.2 dX4_drawnMoves_135
        | succ ri ih_i =>
          intro i hi_i ls H locs hl hP hD hS
          have ht_i : i < N := by omega
          refine lv_iload hx hb dX4_drawnMoves_50 (lv_at hl 0 rfl) ?_
          refine lv_iload_n hx hb dX4_drawnMoves_52 rfl (lv_at hl 5 rfl) ?_
          refine xb_ge (tgt := 134) hx hb dX4_drawnMoves_53 (by decide) (fun c9 => absurd (nI_lt (a := i) (b := N) (by omega) (by omega)) c9) (fun c_4 => ?_)
          refine lv_aload_n hx hb dX4_drawnMoves_56 rfl (lv_at hl 4 rfl) ?_
          refine wc1 (n := 0) (As := []) (rest := []) hF (c_X1_next l k (fun _ => a 14) (dm S n (dm0 S T n dr) i).2.1 ) hP hD hS hA hK 14 (ci := 1) rfl rfl ⟨rfl, rfl⟩ uC_X1_next uN_X1 nM_X4_252 uI_X1_next uE_X1_next (by decide +kernel) rfl ⟨Nat.le_of_ble_eq_true rfl, Nat.le_of_ble_eq_true rfl⟩ ⟨Nat.zero_le _, Nat.zero_le _⟩ hl.1 rfl (Nat.le_of_ble_eq_true rfl) dX4_drawnMoves_57 (fun H locs hP hD hS => ?_)
          have hP : va_P k.1 vwCl (xW k a S (dm S n (dm0 S T n dr) i).1 (w_X1_next_dr (dm S n (dm0 S T n dr) i).2.1) tr C F G) H := hP
          have hD : va_D A (xW k a S (dm S n (dm0 S T n dr) i).1 (w_X1_next_dr (dm S n (dm0 S T n dr) i).2.1) tr C F G) := hD
          refine lv_aload_n hx hb dX4_drawnMoves_60 rfl (lv_at hl 3 rfl) ?_
          refine va_get (D := k.1) (ci := 4) (v := .ref (a 1)) (C := RX4) (T := TX4) (N := 10) hx hb hU inlX4 hown hK.1 hP 0 rfl rfl 0 (by decide) (hU _ uF_X4_10) (fun _ h9 => h9) rfl dX4_drawnMoves_61 ?_
          refine va_getN (D := k.1) (ci := 2) (v := .int (S_cells S)) (C := RX2) (T := TX2) (N := 16) hx hb hU inlX2 hown hK.1 hP 1 rfl rfl 12 (by decide) (hK.nf nF_X4_60) (fun _ h9 => h9) rfl dX4_drawnMoves_64 ?_
          refine lv_i2l (v := (Int32.toInt64 (S_cells S))) hx hb dX4_drawnMoves_67 rfl ?_
          refine lv_lrem hx hb dX4_drawnMoves_68 (by rw [hc, nI_l (by omega)]; intro h; have h1 := (pk_lEQ (a := n) (b := 0) (by omega) (by omega)).mp h; omega) ?_
          refine lv_l2i (v := (Int64.toInt32 ((w_X1_next (dm S n (dm0 S T n dr) i).2.1) - (w_X1_next (dm S n (dm0 S T n dr) i).2.1) / (Int32.toInt64 (S_cells S)) * (Int32.toInt64 (S_cells S))))) hx hb dX4_drawnMoves_69 rfl ?_
          refine W.eq (g2 := F0 m 70 ls [.int (nI (djN n (dm S n (dm0 S T n dr) i).2.1))]) (by rw [hc, (dj_spec hn0 hn _).1]; try rfl) ?_
          have hdj : djN n (dm S n (dm0 S T n dr) i).2.1 < n := (dj_spec hn0 hn _).2
          refine lv_istore (lv' := [(7, .int (nI (djN n (dm S n (dm0 S T n dr) i).2.1))), (6, .int (nI i)), (4, .long ((dm S n (dm0 S T n dr) i).2.2.2)), (3, .int (nI ((dm S n (dm0 S T n dr) i).2.2.1))), (0, .ref (a 0)), (1, .ref (a 14)), (2, .int (nI N))]) hx hb dX4_drawnMoves_70 hl (by decide) rfl (fun ls hl => ?_)
          refine lv_aload_n hx hb dX4_drawnMoves_72 rfl (lv_at hl 4 rfl) ?_
          refine va_get (D := k.1) (ci := 4) (v := .ref (a 11)) (C := RX4) (T := TX4) (N := 10) hx hb hU inlX4 hown hK.1 hP 0 rfl rfl 1 (by decide) (hU _ uF_X4_21) (fun _ h9 => h9) rfl dX4_drawnMoves_73 ?_
          refine lv_iload hx hb dX4_drawnMoves_76 (lv_at hl 0 rfl) ?_
          refine wcVN (n := 1) (As := [.int (nI (djN n (dm S n (dm0 S T n dr) i).2.1))]) (rest := []) hF (c_X3_exchange l k a S (dm S n (dm0 S T n dr) i).1 (w_X1_next_dr (dm S n (dm0 S T n dr) i).2.1) tr C F G (djN n (dm S n (dm0 S T n dr) i).2.1) n hn hc (by omega)) hP hD hS hA hK 11 (ci := 3) rfl rfl rfl uC_X3_exchange uN_X3 nM_X4_241 uI_X3_exchange uE_X3_exchange (by decide +kernel) rfl ⟨Nat.le_of_ble_eq_true rfl, Nat.le_of_ble_eq_true rfl⟩ ⟨Nat.zero_le _, Nat.zero_le _⟩ hl.1 rfl (Nat.le_of_ble_eq_true rfl) dX4_drawnMoves_78 (fun H locs hP hD hS => ?_)
          have hP : va_P k.1 vwCl (xW k a S (ex_T S (dm S n (dm0 S T n dr) i).1 n (djN n (dm S n (dm0 S T n dr) i).2.1)) (w_X1_next_dr (dm S n (dm0 S T n dr) i).2.1) tr C F G) H := hP
          have hD : va_D A (xW k a S (ex_T S (dm S n (dm0 S T n dr) i).1 n (djN n (dm S n (dm0 S T n dr) i).2.1)) (w_X1_next_dr (dm S n (dm0 S T n dr) i).2.1) tr C F G) := hD
          refine lv_aload_n hx hb dX4_drawnMoves_81 rfl (lv_at hl 4 rfl) ?_
          refine va_get (D := k.1) (ci := 4) (v := .ref (a 11)) (C := RX4) (T := TX4) (N := 10) hx hb hU inlX4 hown hK.1 hP 0 rfl rfl 1 (by decide) (hU _ uF_X4_21) (fun _ h9 => h9) rfl dX4_drawnMoves_82 ?_
          refine rcVN (n := 0) (As := []) (rest := []) hF (c_X3_price l k a S (ex_T S (dm S n (dm0 S T n dr) i).1 n (djN n (dm S n (dm0 S T n dr) i).2.1)) (w_X1_next_dr (dm S n (dm0 S T n dr) i).2.1) tr C F G  ) (hP) hK 11 (ci := 3) rfl rfl rfl uC_X3_price uN_X3 nM_X4_181 uI_X3_price uE_X3_price (by decide +kernel) rfl ⟨Nat.le_of_ble_eq_true rfl, Nat.le_of_ble_eq_true rfl⟩ ⟨Nat.zero_le _, Nat.zero_le _⟩ hl.1 rfl (Nat.le_of_ble_eq_true rfl) dX4_drawnMoves_85 ?_
          refine lv_lload hx hb dX4_drawnMoves_88 (lv_at hl 2 rfl) ?_
          refine xl_ge (tgt := 119) hx hb dX4_drawnMoves_90 dX4_drawnMoves_91 (by decide) (fun c_5 => ?_) (fun c_5 => ?_)
          · refine lv_aload_n hx hb dX4_drawnMoves_119 rfl (lv_at hl 4 rfl) ?_
            refine va_get (D := k.1) (ci := 4) (v := .ref (a 11)) (C := RX4) (T := TX4) (N := 10) hx hb hU inlX4 hown hK.1 hP 0 rfl rfl 1 (by decide) (hU _ uF_X4_21) (fun _ h9 => h9) rfl dX4_drawnMoves_120 ?_
            refine lv_iload hx hb dX4_drawnMoves_123 (lv_at hl 0 rfl) ?_
            refine wcVN (n := 1) (As := [.int (nI (djN n (dm S n (dm0 S T n dr) i).2.1))]) (rest := []) hF (c_X3_exchange l k a S (ex_T S (dm S n (dm0 S T n dr) i).1 n (djN n (dm S n (dm0 S T n dr) i).2.1)) (w_X1_next_dr (dm S n (dm0 S T n dr) i).2.1) tr C F G (djN n (dm S n (dm0 S T n dr) i).2.1) n hn hc (by omega)) hP hD hS hA hK 11 (ci := 3) rfl rfl rfl uC_X3_exchange uN_X3 nM_X4_241 uI_X3_exchange uE_X3_exchange (by decide +kernel) rfl ⟨Nat.le_of_ble_eq_true rfl, Nat.le_of_ble_eq_true rfl⟩ ⟨Nat.zero_le _, Nat.zero_le _⟩ hl.1 rfl (Nat.le_of_ble_eq_true rfl) dX4_drawnMoves_125 (fun H locs hP hD hS => ?_)
            have hP : va_P k.1 vwCl (xW k a S (ex_T S (ex_T S (dm S n (dm0 S T n dr) i).1 n (djN n (dm S n (dm0 S T n dr) i).2.1)) n (djN n (dm S n (dm0 S T n dr) i).2.1)) (w_X1_next_dr (dm S n (dm0 S T n dr) i).2.1) tr C F G) H := hP
            have hD : va_D A (xW k a S (ex_T S (ex_T S (dm S n (dm0 S T n dr) i).1 n (djN n (dm S n (dm0 S T n dr) i).2.1)) n (djN n (dm S n (dm0 S T n dr) i).2.1)) (w_X1_next_dr (dm S n (dm0 S T n dr) i).2.1) tr C F G) := hD
            refine lv_iinc (v := nI (i + 1)) (lv' := [(6, .int (nI (i + 1))), (7, .int (nI (djN n (dm S n (dm0 S T n dr) i).2.1))), (4, .long ((dm S n (dm0 S T n dr) i).2.2.2)), (3, .int (nI ((dm S n (dm0 S T n dr) i).2.2.1))), (0, .ref (a 0)), (1, .ref (a 14)), (2, .int (nI N))]) hx hb dX4_drawnMoves_128 hl (k := 1) rfl (nI_add i 1) (by decide) rfl (fun ls hl => ?_)
            refine lv_goto (tgt := 50) hx hb dX4_drawnMoves_131 (by decide) ?_
            have hq4 : (dm S n (dm0 S T n dr) i).2.2.2 = (dm S n (dm0 S T n dr) (i + 1)).2.2.2 := by rw [dm, dms, if_neg c_5]
            rw [hq4] at hl
            have hq3 : ((dm S n (dm0 S T n dr) i).2.2.1) = (dm S n (dm0 S T n dr) (i + 1)).2.2.1 := by rw [dm, dms, if_neg c_5]
            rw [hq3] at hl
            have hq1 : (ex_T S (ex_T S (dm S n (dm0 S T n dr) i).1 n (djN n (dm S n (dm0 S T n dr) i).2.1)) n (djN n (dm S n (dm0 S T n dr) i).2.1)) = (dm S n (dm0 S T n dr) (i + 1)).1 := by rw [dm, dms, if_neg c_5]
            rw [hq1] at hP hD
            have hq2 : (w_X1_next_dr (dm S n (dm0 S T n dr) i).2.1) = (dm S n (dm0 S T n dr) (i + 1)).2.1 := by rw [dm, dms, if_neg c_5]
            rw [hq2] at hP hD
            exact ih_i (i + 1) (by omega) ls _ _ (lv_sub hl [0, 2, 3, 4, 5, 6] rfl) hP hD hS
          · refine lv_aload_n hx hb dX4_drawnMoves_94 rfl (lv_at hl 4 rfl) ?_
            refine va_get (D := k.1) (ci := 4) (v := .ref (a 11)) (C := RX4) (T := TX4) (N := 10) hx hb hU inlX4 hown hK.1 hP 0 rfl rfl 1 (by decide) (hU _ uF_X4_21) (fun _ h9 => h9) rfl dX4_drawnMoves_95 ?_
            refine rcVN (n := 0) (As := []) (rest := []) hF (c_X3_stands l k a S (ex_T S (dm S n (dm0 S T n dr) i).1 n (djN n (dm S n (dm0 S T n dr) i).2.1)) (w_X1_next_dr (dm S n (dm0 S T n dr) i).2.1) tr C F G  ) (hP) hK 11 (ci := 3) rfl rfl rfl uC_X3_stands uN_X3 nM_X4_248 uI_X3_stands uE_X3_stands (by decide +kernel) rfl ⟨Nat.le_of_ble_eq_true rfl, Nat.le_of_ble_eq_true rfl⟩ ⟨Nat.zero_le _, Nat.zero_le _⟩ hl.1 rfl (Nat.le_of_ble_eq_true rfl) dX4_drawnMoves_98 ?_
            refine lv_if_eq (tgt := 119) hx hb dX4_drawnMoves_101 (by decide) (fun c_6 => ?_) (fun c_6 => ?_)
            · refine lv_aload_n hx hb dX4_drawnMoves_119 rfl (lv_at hl 4 rfl) ?_
              refine va_get (D := k.1) (ci := 4) (v := .ref (a 11)) (C := RX4) (T := TX4) (N := 10) hx hb hU inlX4 hown hK.1 hP 0 rfl rfl 1 (by decide) (hU _ uF_X4_21) (fun _ h9 => h9) rfl dX4_drawnMoves_120 ?_
              refine lv_iload hx hb dX4_drawnMoves_123 (lv_at hl 0 rfl) ?_
              refine wcVN (n := 1) (As := [.int (nI (djN n (dm S n (dm0 S T n dr) i).2.1))]) (rest := []) hF (c_X3_exchange l k a S (ex_T S (dm S n (dm0 S T n dr) i).1 n (djN n (dm S n (dm0 S T n dr) i).2.1)) (w_X1_next_dr (dm S n (dm0 S T n dr) i).2.1) tr C F G (djN n (dm S n (dm0 S T n dr) i).2.1) n hn hc (by omega)) hP hD hS hA hK 11 (ci := 3) rfl rfl rfl uC_X3_exchange uN_X3 nM_X4_241 uI_X3_exchange uE_X3_exchange (by decide +kernel) rfl ⟨Nat.le_of_ble_eq_true rfl, Nat.le_of_ble_eq_true rfl⟩ ⟨Nat.zero_le _, Nat.zero_le _⟩ hl.1 rfl (Nat.le_of_ble_eq_true rfl) dX4_drawnMoves_125 (fun H locs hP hD hS => ?_)
              have hP : va_P k.1 vwCl (xW k a S (ex_T S (ex_T S (dm S n (dm0 S T n dr) i).1 n (djN n (dm S n (dm0 S T n dr) i).2.1)) n (djN n (dm S n (dm0 S T n dr) i).2.1)) (w_X1_next_dr (dm S n (dm0 S T n dr) i).2.1) tr C F G) H := hP
              have hD : va_D A (xW k a S (ex_T S (ex_T S (dm S n (dm0 S T n dr) i).1 n (djN n (dm S n (dm0 S T n dr) i).2.1)) n (djN n (dm S n (dm0 S T n dr) i).2.1)) (w_X1_next_dr (dm S n (dm0 S T n dr) i).2.1) tr C F G) := hD
              refine lv_iinc (v := nI (i + 1)) (lv' := [(6, .int (nI (i + 1))), (7, .int (nI (djN n (dm S n (dm0 S T n dr) i).2.1))), (4, .long ((dm S n (dm0 S T n dr) i).2.2.2)), (3, .int (nI ((dm S n (dm0 S T n dr) i).2.2.1))), (0, .ref (a 0)), (1, .ref (a 14)), (2, .int (nI N))]) hx hb dX4_drawnMoves_128 hl (k := 1) rfl (nI_add i 1) (by decide) rfl (fun ls hl => ?_)
              refine lv_goto (tgt := 50) hx hb dX4_drawnMoves_131 (by decide) ?_
              have hq4 : (dm S n (dm0 S T n dr) i).2.2.2 = (dm S n (dm0 S T n dr) (i + 1)).2.2.2 := by rw [dm, dms, if_pos c_5, if_pos c_6]
              rw [hq4] at hl
              have hq3 : ((dm S n (dm0 S T n dr) i).2.2.1) = (dm S n (dm0 S T n dr) (i + 1)).2.2.1 := by rw [dm, dms, if_pos c_5, if_pos c_6]
              rw [hq3] at hl
              have hq1 : (ex_T S (ex_T S (dm S n (dm0 S T n dr) i).1 n (djN n (dm S n (dm0 S T n dr) i).2.1)) n (djN n (dm S n (dm0 S T n dr) i).2.1)) = (dm S n (dm0 S T n dr) (i + 1)).1 := by rw [dm, dms, if_pos c_5, if_pos c_6]
              rw [hq1] at hP hD
              have hq2 : (w_X1_next_dr (dm S n (dm0 S T n dr) i).2.1) = (dm S n (dm0 S T n dr) (i + 1)).2.1 := by rw [dm, dms, if_pos c_5, if_pos c_6]
              rw [hq2] at hP hD
              exact ih_i (i + 1) (by omega) ls _ _ (lv_sub hl [0, 2, 3, 4, 5, 6] rfl) hP hD hS
            · refine lv_aload_n hx hb dX4_drawnMoves_104 rfl (lv_at hl 4 rfl) ?_
              refine va_get (D := k.1) (ci := 4) (v := .ref (a 11)) (C := RX4) (T := TX4) (N := 10) hx hb hU inlX4 hown hK.1 hP 0 rfl rfl 1 (by decide) (hU _ uF_X4_21) (fun _ h9 => h9) rfl dX4_drawnMoves_105 ?_
              refine rcVN (n := 0) (As := []) (rest := []) hF (c_X3_price l k a S (ex_T S (dm S n (dm0 S T n dr) i).1 n (djN n (dm S n (dm0 S T n dr) i).2.1)) (w_X1_next_dr (dm S n (dm0 S T n dr) i).2.1) tr C F G  ) (hP) hK 11 (ci := 3) rfl rfl rfl uC_X3_price uN_X3 nM_X4_181 uI_X3_price uE_X3_price (by decide +kernel) rfl ⟨Nat.le_of_ble_eq_true rfl, Nat.le_of_ble_eq_true rfl⟩ ⟨Nat.zero_le _, Nat.zero_le _⟩ hl.1 rfl (Nat.le_of_ble_eq_true rfl) dX4_drawnMoves_108 ?_
              refine lv_lstore (lv' := [(4, .long (w_X3_price S (ex_T S (dm S n (dm0 S T n dr) i).1 n (djN n (dm S n (dm0 S T n dr) i).2.1)))), (7, .int (nI (djN n (dm S n (dm0 S T n dr) i).2.1))), (6, .int (nI i)), (3, .int (nI ((dm S n (dm0 S T n dr) i).2.2.1))), (0, .ref (a 0)), (1, .ref (a 14)), (2, .int (nI N))]) hx hb dX4_drawnMoves_111 hl (by decide) rfl (fun ls hl => ?_)
              refine lv_iinc (v := nI (((dm S n (dm0 S T n dr) i).2.2.1) + 1)) (lv' := [(3, .int (nI (((dm S n (dm0 S T n dr) i).2.2.1) + 1))), (4, .long (w_X3_price S (ex_T S (dm S n (dm0 S T n dr) i).1 n (djN n (dm S n (dm0 S T n dr) i).2.1)))), (7, .int (nI (djN n (dm S n (dm0 S T n dr) i).2.1))), (6, .int (nI i)), (0, .ref (a 0)), (1, .ref (a 14)), (2, .int (nI N))]) hx hb dX4_drawnMoves_113 hl (k := 3) rfl (nI_add ((dm S n (dm0 S T n dr) i).2.2.1) 1) (by decide) rfl (fun ls hl => ?_)
              refine lv_goto (tgt := 128) hx hb dX4_drawnMoves_116 (by decide) ?_
              refine lv_iinc (v := nI (i + 1)) (lv' := [(6, .int (nI (i + 1))), (3, .int (nI (((dm S n (dm0 S T n dr) i).2.2.1) + 1))), (4, .long (w_X3_price S (ex_T S (dm S n (dm0 S T n dr) i).1 n (djN n (dm S n (dm0 S T n dr) i).2.1)))), (7, .int (nI (djN n (dm S n (dm0 S T n dr) i).2.1))), (0, .ref (a 0)), (1, .ref (a 14)), (2, .int (nI N))]) hx hb dX4_drawnMoves_128 hl (k := 3) rfl (nI_add i 1) (by decide) rfl (fun ls hl => ?_)
              refine lv_goto (tgt := 50) hx hb dX4_drawnMoves_131 (by decide) ?_
              have hq4 : (w_X3_price S (ex_T S (dm S n (dm0 S T n dr) i).1 n (djN n (dm S n (dm0 S T n dr) i).2.1))) = (dm S n (dm0 S T n dr) (i + 1)).2.2.2 := by rw [dm, dms, if_pos c_5, if_neg c_6]
              rw [hq4] at hl
              have hq3 : (((dm S n (dm0 S T n dr) i).2.2.1) + 1) = (dm S n (dm0 S T n dr) (i + 1)).2.2.1 := by rw [dm, dms, if_pos c_5, if_neg c_6]
              rw [hq3] at hl
              have hq1 : (ex_T S (dm S n (dm0 S T n dr) i).1 n (djN n (dm S n (dm0 S T n dr) i).2.1)) = (dm S n (dm0 S T n dr) (i + 1)).1 := by rw [dm, dms, if_pos c_5, if_neg c_6]
              rw [hq1] at hP hD
              have hq2 : (w_X1_next_dr (dm S n (dm0 S T n dr) i).2.1) = (dm S n (dm0 S T n dr) (i + 1)).2.1 := by rw [dm, dms, if_pos c_5, if_neg c_6]
              rw [hq2] at hP hD
              exact ih_i (i + 1) (by omega) ls _ _ (lv_sub hl [0, 2, 1, 4, 5, 6] rfl) hP hD hS
      exact loop_i N 0 (by omega) ls _ _ (lv_sub hl [0, 1, 2, 3, 4, 5] rfl) hP hD hS
    · refine lv_iconst (v := (-1)) hx hb dX4_drawnMoves_34 (by decide) ?_
      have hP9 : va_P k.1 vwCl (xW k a S (w_dmT_dr S T dr n N) (w_dmx_dr S T dr n N) tr C F G) H := by rw [w_dmT_dr, if_neg c_1, if_pos c_2]; rw [w_dmx_dr, if_neg c_1, if_pos c_2]; exact hP
      have hD9 : va_D A (xW k a S (w_dmT_dr S T dr n N) (w_dmx_dr S T dr n N) tr C F G) := by rw [w_dmT_dr, if_neg c_1, if_pos c_2]; rw [w_dmx_dr, if_neg c_1, if_pos c_2]; exact hD
      exact W.iret (v := (-1)) hx hb hr (fun t ht hW => ⟨⟨by rw [w_dm_dr, if_neg c_1, if_pos c_2], by rw [ht]; exact hP9, hD9⟩, hS.F ht⟩) hS.2.2 dX4_drawnMoves_35

def w_dm_tr (S : SeaT) (T : TalT) (tr : Int64) (n N : Nat) : Int32 := if S_cells S = 0 then (-1) else if w_X3_stands S (bgT S T n (w_X2_openSet S) n) = 0 then (-1) else nI (dm S n (dm0 S T n tr) N).2.2.1
def w_dmT_tr (S : SeaT) (T : TalT) (tr : Int64) (n N : Nat) : TalT := if S_cells S = 0 then bgT S T n (w_X2_openSet S) n else if w_X3_stands S (bgT S T n (w_X2_openSet S) n) = 0 then bgT S T n (w_X2_openSet S) n else (dm S n (dm0 S T n tr) N).1
def w_dmx_tr (S : SeaT) (T : TalT) (tr : Int64) (n N : Nat) : Int64 := if S_cells S = 0 then tr else if w_X3_stands S (bgT S T n (w_X2_openSet S) n) = 0 then tr else (dm S n (dm0 S T n tr) N).2.1

set_option maxHeartbeats 4000000 in
set_option maxRecDepth 100000 in
theorem c_X4_drawnMoves_tr (l : Launch) (k : KT) (a : Nat → Nat) (S : SeaT) (T : TalT) (dr : Int64) (tr : Int64) (C : ChoT) (F : (Nat → Int32)) (G : GoT) (N : Nat) (n : Nat) (hn : n ≤ 24) (hc : S_cells S = nI n) (hN : N ≤ 1000) : MW l yX4_drawnMoves cX4_drawnMoves 8 (some .int) (rz 4 94) k [.ref (a 0), .ref (a 15), .int (nI N)] (xW k a S T dr tr C F G) (some (.int (w_dm_tr S T tr n N))) (xW k a S (w_dmT_tr S T tr n N) dr (w_dmx_tr S T tr n N) C F G) := by
  intro sz
  refine Met.ofW (cc := cX4_drawnMoves) (maxL := 8) (ret := (some .int)) (by decide) rfl ?_
  intro p e s m args below meth c s₁ B hml hv
  obtain ⟨rfl, hsz, hP, hK, hD0⟩ := hv
  have hx := B.exec
  have hb := B.bytes
  have hr := B.returns
  have hU : ∀ w ∈ wsL_law, w.before [.ref (a 0), .ref (a 15), .int (nI N)].toArray s = true := fun w h => atoms_spec (ws := Cond.code yX4_drawnMoves cX4_drawnMoves 8 (some .int) :: wsL_law) B.pre w (List.mem_cons_of_mem _ h)
  have hown : s.vm.findClass RX4 = some m.cls := findClass_of_methodNamed B.named
  have hlocks := B.notSynchronized
  have hF : CF p m c cX4_drawnMoves 8 s [.ref (a 0), .ref (a 15), .int (nI N)].toArray RX4 := ⟨hx, hb, hml, hown, hU⟩
  subst hsz
  have hD := hD0.self (sz := s.heap.size)
  generalize hAe : va_A (xW k a S T dr tr C F G) s.heap.size = A at hD ⊢
  have hA : ∀ q : Nat, s.heap.size ≤ q → A q := fun q h => by rw [← hAe]; exact Or.inr h
  have hS : va_S A s.heap s.heap [] := va_S.rf
  have hl := lv_entry ([.ref (a 0), .ref (a 15), .int (nI N)] : List Value) (n := 8) (Nat.le_of_ble_eq_true rfl)
  rw [lg_entry_eq]
  generalize (lg_sl ([.ref (a 0), .ref (a 15), .int (nI N)] : List Value) ++ List.replicate (8 - (lg_sl ([.ref (a 0), .ref (a 15), .int (nI N)] : List Value)).length) Slot.unset).toArray = ls at hl ⊢
  have hl : lv_has ls 8 [(0, .ref (a 0)), (1, .ref (a 15)), (2, .int (nI N))] := hl
  refine lv_aload_n hx hb dX4_drawnMoves_0 rfl (lv_at hl 0 rfl) ?_
  refine va_get (D := k.1) (ci := 4) (v := .ref (a 11)) (C := RX4) (T := TX4) (N := 10) hx hb hU inlX4 hown hK.1 hP 0 rfl rfl 1 (by decide) (hU _ uF_X4_21) (fun _ h9 => h9) rfl dX4_drawnMoves_1 ?_
  refine lv_aload_n hx hb dX4_drawnMoves_4 rfl (lv_at hl 0 rfl) ?_
  refine va_get (D := k.1) (ci := 4) (v := .ref (a 1)) (C := RX4) (T := TX4) (N := 10) hx hb hU inlX4 hown hK.1 hP 0 rfl rfl 0 (by decide) (hU _ uF_X4_10) (fun _ h9 => h9) rfl dX4_drawnMoves_5 ?_
  refine rcVN (n := 0) (As := []) (rest := [.ref (a 11)]) hF (c_X2_openSet l k a S T dr tr C F G  ) (hP) hK 1 (ci := 2) rfl rfl rfl uC_X2_openSet uN_X2 nM_X4_229 uI_X2_openSet uE_X2_openSet (by decide +kernel) rfl ⟨Nat.le_of_ble_eq_true rfl, Nat.le_of_ble_eq_true rfl⟩ ⟨Nat.zero_le _, Nat.zero_le _⟩ hl.1 rfl (Nat.le_of_ble_eq_true rfl) dX4_drawnMoves_8 ?_
  refine wcVN (n := 1) (As := [.int (w_X2_openSet S)]) (rest := []) hF (c_X3_begin l k a S T dr tr C F G (w_X2_openSet S) n hn hc) hP hD hS hA hK 11 (ci := 3) rfl rfl rfl uC_X3_begin uN_X3 nM_X4_160 uI_X3_begin uE_X3_begin (by decide +kernel) rfl ⟨Nat.le_of_ble_eq_true rfl, Nat.le_of_ble_eq_true rfl⟩ ⟨Nat.zero_le _, Nat.zero_le _⟩ hl.1 rfl (Nat.le_of_ble_eq_true rfl) dX4_drawnMoves_11 (fun H locs hP hD hS => ?_)
  have hP : va_P k.1 vwCl (xW k a S (bgT S T n (w_X2_openSet S) n) dr tr C F G) H := hP
  have hD : va_D A (xW k a S (bgT S T n (w_X2_openSet S) n) dr tr C F G) := hD
  refine lv_aload_n hx hb dX4_drawnMoves_14 rfl (lv_at hl 0 rfl) ?_
  refine va_get (D := k.1) (ci := 4) (v := .ref (a 1)) (C := RX4) (T := TX4) (N := 10) hx hb hU inlX4 hown hK.1 hP 0 rfl rfl 0 (by decide) (hU _ uF_X4_10) (fun _ h9 => h9) rfl dX4_drawnMoves_15 ?_
  refine va_getN (D := k.1) (ci := 2) (v := .int (S_cells S)) (C := RX2) (T := TX2) (N := 16) hx hb hU inlX2 hown hK.1 hP 1 rfl rfl 12 (by decide) (hK.nf nF_X4_60) (fun _ h9 => h9) rfl dX4_drawnMoves_18 ?_
  refine lv_if_eq (tgt := 34) hx hb dX4_drawnMoves_21 (by decide) (fun c_1 => ?_) (fun c_1 => ?_)
  · refine lv_iconst (v := (-1)) hx hb dX4_drawnMoves_34 (by decide) ?_
    have hP9 : va_P k.1 vwCl (xW k a S (w_dmT_tr S T tr n N) dr (w_dmx_tr S T tr n N) C F G) H := by rw [w_dmT_tr, if_pos c_1]; rw [w_dmx_tr, if_pos c_1]; exact hP
    have hD9 : va_D A (xW k a S (w_dmT_tr S T tr n N) dr (w_dmx_tr S T tr n N) C F G) := by rw [w_dmT_tr, if_pos c_1]; rw [w_dmx_tr, if_pos c_1]; exact hD
    exact W.iret (v := (-1)) hx hb hr (fun t ht hW => ⟨⟨by rw [w_dm_tr, if_pos c_1], by rw [ht]; exact hP9, hD9⟩, hS.F ht⟩) hS.2.2 dX4_drawnMoves_35
  · refine lv_aload_n hx hb dX4_drawnMoves_24 rfl (lv_at hl 0 rfl) ?_
    refine va_get (D := k.1) (ci := 4) (v := .ref (a 11)) (C := RX4) (T := TX4) (N := 10) hx hb hU inlX4 hown hK.1 hP 0 rfl rfl 1 (by decide) (hU _ uF_X4_21) (fun _ h9 => h9) rfl dX4_drawnMoves_25 ?_
    refine rcVN (n := 0) (As := []) (rest := []) hF (c_X3_stands l k a S (bgT S T n (w_X2_openSet S) n) dr tr C F G  ) (hP) hK 11 (ci := 3) rfl rfl rfl uC_X3_stands uN_X3 nM_X4_248 uI_X3_stands uE_X3_stands (by decide +kernel) rfl ⟨Nat.le_of_ble_eq_true rfl, Nat.le_of_ble_eq_true rfl⟩ ⟨Nat.zero_le _, Nat.zero_le _⟩ hl.1 rfl (Nat.le_of_ble_eq_true rfl) dX4_drawnMoves_28 ?_
    refine lv_if_ne (tgt := 36) hx hb dX4_drawnMoves_31 (by decide) (fun c_2 => ?_) (fun c_2 => ?_)
    · have hn0 : 0 < n := by rcases Nat.eq_zero_or_pos n with h | h; exact absurd (by rw [hc, h]; rfl) c_1; exact h
      refine lv_iconst (v := 0) hx hb dX4_drawnMoves_36 (by decide) ?_
      refine lv_istore_n (lv' := [(3, .int 0), (0, .ref (a 0)), (1, .ref (a 15)), (2, .int (nI N))]) hx hb dX4_drawnMoves_37 rfl hl (by decide) rfl (fun ls hl => ?_)
      refine lv_aload_n hx hb dX4_drawnMoves_38 rfl (lv_at hl 1 rfl) ?_
      refine va_get (D := k.1) (ci := 4) (v := .ref (a 11)) (C := RX4) (T := TX4) (N := 10) hx hb hU inlX4 hown hK.1 hP 0 rfl rfl 1 (by decide) (hU _ uF_X4_21) (fun _ h9 => h9) rfl dX4_drawnMoves_39 ?_
      refine rcVN (n := 0) (As := []) (rest := []) hF (c_X3_price l k a S (bgT S T n (w_X2_openSet S) n) dr tr C F G  ) (hP) hK 11 (ci := 3) rfl rfl rfl uC_X3_price uN_X3 nM_X4_181 uI_X3_price uE_X3_price (by decide +kernel) rfl ⟨Nat.le_of_ble_eq_true rfl, Nat.le_of_ble_eq_true rfl⟩ ⟨Nat.zero_le _, Nat.zero_le _⟩ hl.1 rfl (Nat.le_of_ble_eq_true rfl) dX4_drawnMoves_42 ?_
      refine lv_lstore (lv' := [(4, .long (w_X3_price S (bgT S T n (w_X2_openSet S) n))), (3, .int 0), (0, .ref (a 0)), (1, .ref (a 15)), (2, .int (nI N))]) hx hb dX4_drawnMoves_45 hl (by decide) rfl (fun ls hl => ?_)
      refine lv_iconst (v := 0) hx hb dX4_drawnMoves_47 (by decide) ?_
      refine lv_istore (lv' := [(6, .int 0), (4, .long (w_X3_price S (bgT S T n (w_X2_openSet S) n))), (3, .int 0), (0, .ref (a 0)), (1, .ref (a 15)), (2, .int (nI N))]) hx hb dX4_drawnMoves_48 hl (by decide) rfl (fun ls hl => ?_)
      have loop_i : ∀ (ri i : Nat), i + ri * 1 = N → ∀ (ls : Array Slot) (H : Heap) (locs : List Loc) , lv_has ls 8 [(6, .int (nI i)), (4, .long ((dm S n (dm0 S T n tr) i).2.2.2)), (3, .int (nI ((dm S n (dm0 S T n tr) i).2.2.1))), (0, .ref (a 0)), (1, .ref (a 15)), (2, .int (nI N))] → va_P k.1 vwCl (xW k a S (dm S n (dm0 S T n tr) i).1 dr (dm S n (dm0 S T n tr) i).2.1 C F G) H → va_D A (xW k a S (dm S n (dm0 S T n tr) i).1 dr (dm S n (dm0 S T n tr) i).2.1 C F G) → va_S A s.heap H locs → WW p l e s m below meth c yX4_drawnMoves cX4_drawnMoves 8 (some .int) (rz 4 94) [.ref (a 0), .ref (a 15), .int (nI N)] (some (.int (w_dm_tr S T tr n N))) k (xW k a S (w_dmT_tr S T tr n N) dr (w_dmx_tr S T tr n N) C F G) A H locs (F0 m 50 ls []) := by
        intro ri
        induction ri with
        | zero =>
          intro i hi_i ls H locs hl hP hD hS
          have he_i : N = i := by omega
          subst he_i
          refine lv_iload hx hb dX4_drawnMoves_50 (lv_at hl 0 rfl) ?_
          refine lv_iload_n hx hb dX4_drawnMoves_52 rfl (lv_at hl 5 rfl) ?_
          refine xb_ge (tgt := 134) hx hb dX4_drawnMoves_53 (by decide) (fun c_3 => ?_) (fun c9 => absurd c9 (nI_nlt (a := N) (b := N) (Nat.le_refl _) (by omega)))
          refine lv_iload_n hx hb dX4_drawnMoves_134 rfl (lv_at hl 2 rfl) ?_
          have hP9 : va_P k.1 vwCl (xW k a S (w_dmT_tr S T tr n N) dr (w_dmx_tr S T tr n N) C F G) H := by rw [w_dmT_tr, if_neg c_1, if_neg c_2]; rw [w_dmx_tr, if_neg c_1, if_neg c_2]; exact hP
          have hD9 : va_D A (xW k a S (w_dmT_tr S T tr n N) dr (w_dmx_tr S T tr n N) C F G) := by rw [w_dmT_tr, if_neg c_1, if_neg c_2]; rw [w_dmx_tr, if_neg c_1, if_neg c_2]; exact hD
          exact W.iret (v := (nI ((dm S n (dm0 S T n tr) N).2.2.1))) hx hb hr (fun t ht hW => ⟨⟨by rw [w_dm_tr, if_neg c_1, if_neg c_2], by rw [ht]; exact hP9, hD9⟩, hS.F ht⟩) hS.2.2 dX4_drawnMoves_135
        | succ ri ih_i =>
          intro i hi_i ls H locs hl hP hD hS
          have ht_i : i < N := by omega
          refine lv_iload hx hb dX4_drawnMoves_50 (lv_at hl 0 rfl) ?_
          refine lv_iload_n hx hb dX4_drawnMoves_52 rfl (lv_at hl 5 rfl) ?_
          refine xb_ge (tgt := 134) hx hb dX4_drawnMoves_53 (by decide) (fun c9 => absurd (nI_lt (a := i) (b := N) (by omega) (by omega)) c9) (fun c_4 => ?_)
          refine lv_aload_n hx hb dX4_drawnMoves_56 rfl (lv_at hl 4 rfl) ?_
          refine wc1 (n := 0) (As := []) (rest := []) hF (c_X1_next l k (fun _ => a 15) (dm S n (dm0 S T n tr) i).2.1 ) hP hD hS hA hK 15 (ci := 1) rfl rfl ⟨rfl, rfl⟩ uC_X1_next uN_X1 nM_X4_252 uI_X1_next uE_X1_next (by decide +kernel) rfl ⟨Nat.le_of_ble_eq_true rfl, Nat.le_of_ble_eq_true rfl⟩ ⟨Nat.zero_le _, Nat.zero_le _⟩ hl.1 rfl (Nat.le_of_ble_eq_true rfl) dX4_drawnMoves_57 (fun H locs hP hD hS => ?_)
          have hP : va_P k.1 vwCl (xW k a S (dm S n (dm0 S T n tr) i).1 dr (w_X1_next_dr (dm S n (dm0 S T n tr) i).2.1) C F G) H := hP
          have hD : va_D A (xW k a S (dm S n (dm0 S T n tr) i).1 dr (w_X1_next_dr (dm S n (dm0 S T n tr) i).2.1) C F G) := hD
          refine lv_aload_n hx hb dX4_drawnMoves_60 rfl (lv_at hl 3 rfl) ?_
          refine va_get (D := k.1) (ci := 4) (v := .ref (a 1)) (C := RX4) (T := TX4) (N := 10) hx hb hU inlX4 hown hK.1 hP 0 rfl rfl 0 (by decide) (hU _ uF_X4_10) (fun _ h9 => h9) rfl dX4_drawnMoves_61 ?_
          refine va_getN (D := k.1) (ci := 2) (v := .int (S_cells S)) (C := RX2) (T := TX2) (N := 16) hx hb hU inlX2 hown hK.1 hP 1 rfl rfl 12 (by decide) (hK.nf nF_X4_60) (fun _ h9 => h9) rfl dX4_drawnMoves_64 ?_
          refine lv_i2l (v := (Int32.toInt64 (S_cells S))) hx hb dX4_drawnMoves_67 rfl ?_
          refine lv_lrem hx hb dX4_drawnMoves_68 (by rw [hc, nI_l (by omega)]; intro h; have h1 := (pk_lEQ (a := n) (b := 0) (by omega) (by omega)).mp h; omega) ?_
          refine lv_l2i (v := (Int64.toInt32 ((w_X1_next (dm S n (dm0 S T n tr) i).2.1) - (w_X1_next (dm S n (dm0 S T n tr) i).2.1) / (Int32.toInt64 (S_cells S)) * (Int32.toInt64 (S_cells S))))) hx hb dX4_drawnMoves_69 rfl ?_
          refine W.eq (g2 := F0 m 70 ls [.int (nI (djN n (dm S n (dm0 S T n tr) i).2.1))]) (by rw [hc, (dj_spec hn0 hn _).1]; try rfl) ?_
          have hdj : djN n (dm S n (dm0 S T n tr) i).2.1 < n := (dj_spec hn0 hn _).2
          refine lv_istore (lv' := [(7, .int (nI (djN n (dm S n (dm0 S T n tr) i).2.1))), (6, .int (nI i)), (4, .long ((dm S n (dm0 S T n tr) i).2.2.2)), (3, .int (nI ((dm S n (dm0 S T n tr) i).2.2.1))), (0, .ref (a 0)), (1, .ref (a 15)), (2, .int (nI N))]) hx hb dX4_drawnMoves_70 hl (by decide) rfl (fun ls hl => ?_)
          refine lv_aload_n hx hb dX4_drawnMoves_72 rfl (lv_at hl 4 rfl) ?_
          refine va_get (D := k.1) (ci := 4) (v := .ref (a 11)) (C := RX4) (T := TX4) (N := 10) hx hb hU inlX4 hown hK.1 hP 0 rfl rfl 1 (by decide) (hU _ uF_X4_21) (fun _ h9 => h9) rfl dX4_drawnMoves_73 ?_
          refine lv_iload hx hb dX4_drawnMoves_76 (lv_at hl 0 rfl) ?_
          refine wcVN (n := 1) (As := [.int (nI (djN n (dm S n (dm0 S T n tr) i).2.1))]) (rest := []) hF (c_X3_exchange l k a S (dm S n (dm0 S T n tr) i).1 dr (w_X1_next_dr (dm S n (dm0 S T n tr) i).2.1) C F G (djN n (dm S n (dm0 S T n tr) i).2.1) n hn hc (by omega)) hP hD hS hA hK 11 (ci := 3) rfl rfl rfl uC_X3_exchange uN_X3 nM_X4_241 uI_X3_exchange uE_X3_exchange (by decide +kernel) rfl ⟨Nat.le_of_ble_eq_true rfl, Nat.le_of_ble_eq_true rfl⟩ ⟨Nat.zero_le _, Nat.zero_le _⟩ hl.1 rfl (Nat.le_of_ble_eq_true rfl) dX4_drawnMoves_78 (fun H locs hP hD hS => ?_)
          have hP : va_P k.1 vwCl (xW k a S (ex_T S (dm S n (dm0 S T n tr) i).1 n (djN n (dm S n (dm0 S T n tr) i).2.1)) dr (w_X1_next_dr (dm S n (dm0 S T n tr) i).2.1) C F G) H := hP
          have hD : va_D A (xW k a S (ex_T S (dm S n (dm0 S T n tr) i).1 n (djN n (dm S n (dm0 S T n tr) i).2.1)) dr (w_X1_next_dr (dm S n (dm0 S T n tr) i).2.1) C F G) := hD
          refine lv_aload_n hx hb dX4_drawnMoves_81 rfl (lv_at hl 4 rfl) ?_
          refine va_get (D := k.1) (ci := 4) (v := .ref (a 11)) (C := RX4) (T := TX4) (N := 10) hx hb hU inlX4 hown hK.1 hP 0 rfl rfl 1 (by decide) (hU _ uF_X4_21) (fun _ h9 => h9) rfl dX4_drawnMoves_82 ?_
          refine rcVN (n := 0) (As := []) (rest := []) hF (c_X3_price l k a S (ex_T S (dm S n (dm0 S T n tr) i).1 n (djN n (dm S n (dm0 S T n tr) i).2.1)) dr (w_X1_next_dr (dm S n (dm0 S T n tr) i).2.1) C F G  ) (hP) hK 11 (ci := 3) rfl rfl rfl uC_X3_price uN_X3 nM_X4_181 uI_X3_price uE_X3_price (by decide +kernel) rfl ⟨Nat.le_of_ble_eq_true rfl, Nat.le_of_ble_eq_true rfl⟩ ⟨Nat.zero_le _, Nat.zero_le _⟩ hl.1 rfl (Nat.le_of_ble_eq_true rfl) dX4_drawnMoves_85 ?_
          refine lv_lload hx hb dX4_drawnMoves_88 (lv_at hl 2 rfl) ?_
          refine xl_ge (tgt := 119) hx hb dX4_drawnMoves_90 dX4_drawnMoves_91 (by decide) (fun c_5 => ?_) (fun c_5 => ?_)
          · refine lv_aload_n hx hb dX4_drawnMoves_119 rfl (lv_at hl 4 rfl) ?_
            refine va_get (D := k.1) (ci := 4) (v := .ref (a 11)) (C := RX4) (T := TX4) (N := 10) hx hb hU inlX4 hown hK.1 hP 0 rfl rfl 1 (by decide) (hU _ uF_X4_21) (fun _ h9 => h9) rfl dX4_drawnMoves_120 ?_
            refine lv_iload hx hb dX4_drawnMoves_123 (lv_at hl 0 rfl) ?_
            refine wcVN (n := 1) (As := [.int (nI (djN n (dm S n (dm0 S T n tr) i).2.1))]) (rest := []) hF (c_X3_exchange l k a S (ex_T S (dm S n (dm0 S T n tr) i).1 n (djN n (dm S n (dm0 S T n tr) i).2.1)) dr (w_X1_next_dr (dm S n (dm0 S T n tr) i).2.1) C F G (djN n (dm S n (dm0 S T n tr) i).2.1) n hn hc (by omega)) hP hD hS hA hK 11 (ci := 3) rfl rfl rfl uC_X3_exchange uN_X3 nM_X4_241 uI_X3_exchange uE_X3_exchange (by decide +kernel) rfl ⟨Nat.le_of_ble_eq_true rfl, Nat.le_of_ble_eq_true rfl⟩ ⟨Nat.zero_le _, Nat.zero_le _⟩ hl.1 rfl (Nat.le_of_ble_eq_true rfl) dX4_drawnMoves_125 (fun H locs hP hD hS => ?_)
            have hP : va_P k.1 vwCl (xW k a S (ex_T S (ex_T S (dm S n (dm0 S T n tr) i).1 n (djN n (dm S n (dm0 S T n tr) i).2.1)) n (djN n (dm S n (dm0 S T n tr) i).2.1)) dr (w_X1_next_dr (dm S n (dm0 S T n tr) i).2.1) C F G) H := hP
            have hD : va_D A (xW k a S (ex_T S (ex_T S (dm S n (dm0 S T n tr) i).1 n (djN n (dm S n (dm0 S T n tr) i).2.1)) n (djN n (dm S n (dm0 S T n tr) i).2.1)) dr (w_X1_next_dr (dm S n (dm0 S T n tr) i).2.1) C F G) := hD
            refine lv_iinc (v := nI (i + 1)) (lv' := [(6, .int (nI (i + 1))), (7, .int (nI (djN n (dm S n (dm0 S T n tr) i).2.1))), (4, .long ((dm S n (dm0 S T n tr) i).2.2.2)), (3, .int (nI ((dm S n (dm0 S T n tr) i).2.2.1))), (0, .ref (a 0)), (1, .ref (a 15)), (2, .int (nI N))]) hx hb dX4_drawnMoves_128 hl (k := 1) rfl (nI_add i 1) (by decide) rfl (fun ls hl => ?_)
            refine lv_goto (tgt := 50) hx hb dX4_drawnMoves_131 (by decide) ?_
            have hq4 : (dm S n (dm0 S T n tr) i).2.2.2 = (dm S n (dm0 S T n tr) (i + 1)).2.2.2 := by rw [dm, dms, if_neg c_5]
            rw [hq4] at hl
            have hq3 : ((dm S n (dm0 S T n tr) i).2.2.1) = (dm S n (dm0 S T n tr) (i + 1)).2.2.1 := by rw [dm, dms, if_neg c_5]
            rw [hq3] at hl
            have hq1 : (ex_T S (ex_T S (dm S n (dm0 S T n tr) i).1 n (djN n (dm S n (dm0 S T n tr) i).2.1)) n (djN n (dm S n (dm0 S T n tr) i).2.1)) = (dm S n (dm0 S T n tr) (i + 1)).1 := by rw [dm, dms, if_neg c_5]
            rw [hq1] at hP hD
            have hq2 : (w_X1_next_dr (dm S n (dm0 S T n tr) i).2.1) = (dm S n (dm0 S T n tr) (i + 1)).2.1 := by rw [dm, dms, if_neg c_5]
            rw [hq2] at hP hD
            exact ih_i (i + 1) (by omega) ls _ _ (lv_sub hl [0, 2, 3, 4, 5, 6] rfl) hP hD hS
          · refine lv_aload_n hx hb dX4_drawnMoves_94 rfl (lv_at hl 4 rfl) ?_
            refine va_get (D := k.1) (ci := 4) (v := .ref (a 11)) (C := RX4) (T := TX4) (N := 10) hx hb hU inlX4 hown hK.1 hP 0 rfl rfl 1 (by decide) (hU _ uF_X4_21) (fun _ h9 => h9) rfl dX4_drawnMoves_95 ?_
            refine rcVN (n := 0) (As := []) (rest := []) hF (c_X3_stands l k a S (ex_T S (dm S n (dm0 S T n tr) i).1 n (djN n (dm S n (dm0 S T n tr) i).2.1)) dr (w_X1_next_dr (dm S n (dm0 S T n tr) i).2.1) C F G  ) (hP) hK 11 (ci := 3) rfl rfl rfl uC_X3_stands uN_X3 nM_X4_248 uI_X3_stands uE_X3_stands (by decide +kernel) rfl ⟨Nat.le_of_ble_eq_true rfl, Nat.le_of_ble_eq_true rfl⟩ ⟨Nat.zero_le _, Nat.zero_le _⟩ hl.1 rfl (Nat.le_of_ble_eq_true rfl) dX4_drawnMoves_98 ?_
            refine lv_if_eq (tgt := 119) hx hb dX4_drawnMoves_101 (by decide) (fun c_6 => ?_) (fun c_6 => ?_)
            · refine lv_aload_n hx hb dX4_drawnMoves_119 rfl (lv_at hl 4 rfl) ?_
              refine va_get (D := k.1) (ci := 4) (v := .ref (a 11)) (C := RX4) (T := TX4) (N := 10) hx hb hU inlX4 hown hK.1 hP 0 rfl rfl 1 (by decide) (hU _ uF_X4_21) (fun _ h9 => h9) rfl dX4_drawnMoves_120 ?_
              refine lv_iload hx hb dX4_drawnMoves_123 (lv_at hl 0 rfl) ?_
              refine wcVN (n := 1) (As := [.int (nI (djN n (dm S n (dm0 S T n tr) i).2.1))]) (rest := []) hF (c_X3_exchange l k a S (ex_T S (dm S n (dm0 S T n tr) i).1 n (djN n (dm S n (dm0 S T n tr) i).2.1)) dr (w_X1_next_dr (dm S n (dm0 S T n tr) i).2.1) C F G (djN n (dm S n (dm0 S T n tr) i).2.1) n hn hc (by omega)) hP hD hS hA hK 11 (ci := 3) rfl rfl rfl uC_X3_exchange uN_X3 nM_X4_241 uI_X3_exchange uE_X3_exchange (by decide +kernel) rfl ⟨Nat.le_of_ble_eq_true rfl, Nat.le_of_ble_eq_true rfl⟩ ⟨Nat.zero_le _, Nat.zero_le _⟩ hl.1 rfl (Nat.le_of_ble_eq_true rfl) dX4_drawnMoves_125 (fun H locs hP hD hS => ?_)
              have hP : va_P k.1 vwCl (xW k a S (ex_T S (ex_T S (dm S n (dm0 S T n tr) i).1 n (djN n (dm S n (dm0 S T n tr) i).2.1)) n (djN n (dm S n (dm0 S T n tr) i).2.1)) dr (w_X1_next_dr (dm S n (dm0 S T n tr) i).2.1) C F G) H := hP
              have hD : va_D A (xW k a S (ex_T S (ex_T S (dm S n (dm0 S T n tr) i).1 n (djN n (dm S n (dm0 S T n tr) i).2.1)) n (djN n (dm S n (dm0 S T n tr) i).2.1)) dr (w_X1_next_dr (dm S n (dm0 S T n tr) i).2.1) C F G) := hD
              refine lv_iinc (v := nI (i + 1)) (lv' := [(6, .int (nI (i + 1))), (7, .int (nI (djN n (dm S n (dm0 S T n tr) i).2.1))), (4, .long ((dm S n (dm0 S T n tr) i).2.2.2)), (3, .int (nI ((dm S n (dm0 S T n tr) i).2.2.1))), (0, .ref (a 0)), (1, .ref (a 15)), (2, .int (nI N))]) hx hb dX4_drawnMoves_128 hl (k := 1) rfl (nI_add i 1) (by decide) rfl (fun ls hl => ?_)
              refine lv_goto (tgt := 50) hx hb dX4_drawnMoves_131 (by decide) ?_
              have hq4 : (dm S n (dm0 S T n tr) i).2.2.2 = (dm S n (dm0 S T n tr) (i + 1)).2.2.2 := by rw [dm, dms, if_pos c_5, if_pos c_6]
              rw [hq4] at hl
              have hq3 : ((dm S n (dm0 S T n tr) i).2.2.1) = (dm S n (dm0 S T n tr) (i + 1)).2.2.1 := by rw [dm, dms, if_pos c_5, if_pos c_6]
              rw [hq3] at hl
              have hq1 : (ex_T S (ex_T S (dm S n (dm0 S T n tr) i).1 n (djN n (dm S n (dm0 S T n tr) i).2.1)) n (djN n (dm S n (dm0 S T n tr) i).2.1)) = (dm S n (dm0 S T n tr) (i + 1)).1 := by rw [dm, dms, if_pos c_5, if_pos c_6]
              rw [hq1] at hP hD
              have hq2 : (w_X1_next_dr (dm S n (dm0 S T n tr) i).2.1) = (dm S n (dm0 S T n tr) (i + 1)).2.1 := by rw [dm, dms, if_pos c_5, if_pos c_6]
              rw [hq2] at hP hD
              exact ih_i (i + 1) (by omega) ls _ _ (lv_sub hl [0, 2, 3, 4, 5, 6] rfl) hP hD hS
            · refine lv_aload_n hx hb dX4_drawnMoves_104 rfl (lv_at hl 4 rfl) ?_
              refine va_get (D := k.1) (ci := 4) (v := .ref (a 11)) (C := RX4) (T := TX4) (N := 10) hx hb hU inlX4 hown hK.1 hP 0 rfl rfl 1 (by decide) (hU _ uF_X4_21) (fun _ h9 => h9) rfl dX4_drawnMoves_105 ?_
              refine rcVN (n := 0) (As := []) (rest := []) hF (c_X3_price l k a S (ex_T S (dm S n (dm0 S T n tr) i).1 n (djN n (dm S n (dm0 S T n tr) i).2.1)) dr (w_X1_next_dr (dm S n (dm0 S T n tr) i).2.1) C F G  ) (hP) hK 11 (ci := 3) rfl rfl rfl uC_X3_price uN_X3 nM_X4_181 uI_X3_price uE_X3_price (by decide +kernel) rfl ⟨Nat.le_of_ble_eq_true rfl, Nat.le_of_ble_eq_true rfl⟩ ⟨Nat.zero_le _, Nat.zero_le _⟩ hl.1 rfl (Nat.le_of_ble_eq_true rfl) dX4_drawnMoves_108 ?_
              refine lv_lstore (lv' := [(4, .long (w_X3_price S (ex_T S (dm S n (dm0 S T n tr) i).1 n (djN n (dm S n (dm0 S T n tr) i).2.1)))), (7, .int (nI (djN n (dm S n (dm0 S T n tr) i).2.1))), (6, .int (nI i)), (3, .int (nI ((dm S n (dm0 S T n tr) i).2.2.1))), (0, .ref (a 0)), (1, .ref (a 15)), (2, .int (nI N))]) hx hb dX4_drawnMoves_111 hl (by decide) rfl (fun ls hl => ?_)
              refine lv_iinc (v := nI (((dm S n (dm0 S T n tr) i).2.2.1) + 1)) (lv' := [(3, .int (nI (((dm S n (dm0 S T n tr) i).2.2.1) + 1))), (4, .long (w_X3_price S (ex_T S (dm S n (dm0 S T n tr) i).1 n (djN n (dm S n (dm0 S T n tr) i).2.1)))), (7, .int (nI (djN n (dm S n (dm0 S T n tr) i).2.1))), (6, .int (nI i)), (0, .ref (a 0)), (1, .ref (a 15)), (2, .int (nI N))]) hx hb dX4_drawnMoves_113 hl (k := 3) rfl (nI_add ((dm S n (dm0 S T n tr) i).2.2.1) 1) (by decide) rfl (fun ls hl => ?_)
              refine lv_goto (tgt := 128) hx hb dX4_drawnMoves_116 (by decide) ?_
              refine lv_iinc (v := nI (i + 1)) (lv' := [(6, .int (nI (i + 1))), (3, .int (nI (((dm S n (dm0 S T n tr) i).2.2.1) + 1))), (4, .long (w_X3_price S (ex_T S (dm S n (dm0 S T n tr) i).1 n (djN n (dm S n (dm0 S T n tr) i).2.1)))), (7, .int (nI (djN n (dm S n (dm0 S T n tr) i).2.1))), (0, .ref (a 0)), (1, .ref (a 15)), (2, .int (nI N))]) hx hb dX4_drawnMoves_128 hl (k := 3) rfl (nI_add i 1) (by decide) rfl (fun ls hl => ?_)
              refine lv_goto (tgt := 50) hx hb dX4_drawnMoves_131 (by decide) ?_
              have hq4 : (w_X3_price S (ex_T S (dm S n (dm0 S T n tr) i).1 n (djN n (dm S n (dm0 S T n tr) i).2.1))) = (dm S n (dm0 S T n tr) (i + 1)).2.2.2 := by rw [dm, dms, if_pos c_5, if_neg c_6]
              rw [hq4] at hl
              have hq3 : (((dm S n (dm0 S T n tr) i).2.2.1) + 1) = (dm S n (dm0 S T n tr) (i + 1)).2.2.1 := by rw [dm, dms, if_pos c_5, if_neg c_6]
              rw [hq3] at hl
              have hq1 : (ex_T S (dm S n (dm0 S T n tr) i).1 n (djN n (dm S n (dm0 S T n tr) i).2.1)) = (dm S n (dm0 S T n tr) (i + 1)).1 := by rw [dm, dms, if_pos c_5, if_neg c_6]
              rw [hq1] at hP hD
              have hq2 : (w_X1_next_dr (dm S n (dm0 S T n tr) i).2.1) = (dm S n (dm0 S T n tr) (i + 1)).2.1 := by rw [dm, dms, if_pos c_5, if_neg c_6]
              rw [hq2] at hP hD
              exact ih_i (i + 1) (by omega) ls _ _ (lv_sub hl [0, 2, 1, 4, 5, 6] rfl) hP hD hS
      exact loop_i N 0 (by omega) ls _ _ (lv_sub hl [0, 1, 2, 3, 4, 5] rfl) hP hD hS
    · refine lv_iconst (v := (-1)) hx hb dX4_drawnMoves_34 (by decide) ?_
      have hP9 : va_P k.1 vwCl (xW k a S (w_dmT_tr S T tr n N) dr (w_dmx_tr S T tr n N) C F G) H := by rw [w_dmT_tr, if_neg c_1, if_pos c_2]; rw [w_dmx_tr, if_neg c_1, if_pos c_2]; exact hP
      have hD9 : va_D A (xW k a S (w_dmT_tr S T tr n N) dr (w_dmx_tr S T tr n N) C F G) := by rw [w_dmT_tr, if_neg c_1, if_pos c_2]; rw [w_dmx_tr, if_neg c_1, if_pos c_2]; exact hD
      exact W.iret (v := (-1)) hx hb hr (fun t ht hW => ⟨⟨by rw [w_dm_tr, if_neg c_1, if_pos c_2], by rw [ht]; exact hP9, hD9⟩, hS.F ht⟩) hS.2.2 dX4_drawnMoves_35

def fes (S : SeaT) (n : Nat) (pr : Int64) (y : TalT × Int32) (i : Nat) : TalT × Int32 :=
  if bt (w_X2_freeSet S) i then
    (if w_X3_price S (ex_T S y.1 n i) = pr then
      (if w_X3_stands S (ex_T S y.1 n i) = 0 then (ex_T S (ex_T S y.1 n i) n i, y.2) else (ex_T S (ex_T S y.1 n i) n i, y.2 ||| (1 <<< (nI i &&& 31))))
     else (ex_T S (ex_T S y.1 n i) n i, y.2))
  else y
def fe (S : SeaT) (n : Nat) (pr : Int64) (x : TalT) : Nat → TalT × Int32
  | 0 => (x, 0)
  | i + 1 => fes S n pr (fe S n pr x i) i

set_option maxHeartbeats 4000000 in
set_option maxRecDepth 100000 in
theorem c_X4_findExchangeable (l : Launch) (k : KT) (a : Nat → Nat) (S : SeaT) (T : TalT) (dr : Int64) (tr : Int64) (C : ChoT) (F : (Nat → Int32)) (G : GoT)  (n : Nat) (hn : n ≤ 24) (hc : S_cells S = nI n) : MW l yX4_findExchangeable cX4_findExchangeable 6 (some .int) (rz 4 94) k [.ref (a 0)] (xW k a S T dr tr C F G) (some (.int ((fe S n (w_X3_price S (bgT S T n (C_cells C) n)) (bgT S T n (C_cells C) n) n).2))) (xW k a S (fe S n (w_X3_price S (bgT S T n (C_cells C) n)) (bgT S T n (C_cells C) n) n).1 dr tr C F G) := by
  intro sz
  refine Met.ofW (cc := cX4_findExchangeable) (maxL := 6) (ret := (some .int)) (by decide) rfl ?_
  intro p e s m args below meth c s₁ B hml hv
  obtain ⟨rfl, hsz, hP, hK, hD0⟩ := hv
  have hx := B.exec
  have hb := B.bytes
  have hr := B.returns
  have hU : ∀ w ∈ wsL_law, w.before [.ref (a 0)].toArray s = true := fun w h => atoms_spec (ws := Cond.code yX4_findExchangeable cX4_findExchangeable 6 (some .int) :: wsL_law) B.pre w (List.mem_cons_of_mem _ h)
  have hown : s.vm.findClass RX4 = some m.cls := findClass_of_methodNamed B.named
  have hlocks := B.notSynchronized
  have hF : CF p m c cX4_findExchangeable 6 s [.ref (a 0)].toArray RX4 := ⟨hx, hb, hml, hown, hU⟩
  subst hsz
  have hD := hD0.self (sz := s.heap.size)
  generalize hAe : va_A (xW k a S T dr tr C F G) s.heap.size = A at hD ⊢
  have hA : ∀ q : Nat, s.heap.size ≤ q → A q := fun q h => by rw [← hAe]; exact Or.inr h
  have hS : va_S A s.heap s.heap [] := va_S.rf
  have hl := lv_entry ([.ref (a 0)] : List Value) (n := 6) (Nat.le_of_ble_eq_true rfl)
  rw [lg_entry_eq]
  generalize (lg_sl ([.ref (a 0)] : List Value) ++ List.replicate (6 - (lg_sl ([.ref (a 0)] : List Value)).length) Slot.unset).toArray = ls at hl ⊢
  have hl : lv_has ls 6 [(0, .ref (a 0))] := hl
  refine lv_aload_n hx hb dX4_findExchangeable_0 rfl (lv_at hl 0 rfl) ?_
  refine va_get (D := k.1) (ci := 4) (v := .ref (a 1)) (C := RX4) (T := TX4) (N := 10) hx hb hU inlX4 hown hK.1 hP 0 rfl rfl 0 (by decide) (hU _ uF_X4_10) (fun _ h9 => h9) rfl dX4_findExchangeable_1 ?_
  refine rcVN (n := 0) (As := []) (rest := []) hF (c_X2_freeSet l k a S T dr tr C F G  ) (hP) hK 1 (ci := 2) rfl rfl rfl uC_X2_freeSet uN_X2 nM_X4_139 uI_X2_freeSet uE_X2_freeSet (by decide +kernel) rfl ⟨Nat.le_of_ble_eq_true rfl, Nat.le_of_ble_eq_true rfl⟩ ⟨Nat.zero_le _, Nat.zero_le _⟩ hl.1 rfl (Nat.le_of_ble_eq_true rfl) dX4_findExchangeable_4 ?_
  refine lv_istore_n (lv' := [(1, .int (w_X2_freeSet S)), (0, .ref (a 0))]) hx hb dX4_findExchangeable_7 rfl hl (by decide) rfl (fun ls hl => ?_)
  refine lv_iconst (v := 0) hx hb dX4_findExchangeable_8 (by decide) ?_
  refine lv_istore_n (lv' := [(2, .int 0), (1, .int (w_X2_freeSet S)), (0, .ref (a 0))]) hx hb dX4_findExchangeable_9 rfl hl (by decide) rfl (fun ls hl => ?_)
  refine lv_aload_n hx hb dX4_findExchangeable_10 rfl (lv_at hl 2 rfl) ?_
  refine va_get (D := k.1) (ci := 4) (v := .ref (a 11)) (C := RX4) (T := TX4) (N := 10) hx hb hU inlX4 hown hK.1 hP 0 rfl rfl 1 (by decide) (hU _ uF_X4_21) (fun _ h9 => h9) rfl dX4_findExchangeable_11 ?_
  refine lv_aload_n hx hb dX4_findExchangeable_14 rfl (lv_at hl 2 rfl) ?_
  refine va_get (D := k.1) (ci := 4) (v := .ref (a 16)) (C := RX4) (T := TX4) (N := 10) hx hb hU inlX4 hown hK.1 hP 0 rfl rfl 4 (by decide) (hU _ uF_X4_42) (fun _ h9 => h9) rfl dX4_findExchangeable_15 ?_
  refine va_getN (D := k.1) (ci := 0) (v := .int (C_cells C)) (C := RX0) (T := TX0) (N := 3) hx hb hU inlX0 hown hK.1 hP 16 rfl rfl 1 (by decide) (hK.nf nF_X4_119) (fun _ h9 => h9) rfl dX4_findExchangeable_18 ?_
  refine wcVN (n := 1) (As := [.int (C_cells C)]) (rest := []) hF (c_X3_begin l k a S T dr tr C F G (C_cells C) n hn hc) hP hD hS hA hK 11 (ci := 3) rfl rfl rfl uC_X3_begin uN_X3 nM_X4_160 uI_X3_begin uE_X3_begin (by decide +kernel) rfl ⟨Nat.le_of_ble_eq_true rfl, Nat.le_of_ble_eq_true rfl⟩ ⟨Nat.zero_le _, Nat.zero_le _⟩ hl.1 rfl (Nat.le_of_ble_eq_true rfl) dX4_findExchangeable_21 (fun H locs hP hD hS => ?_)
  have hP : va_P k.1 vwCl (xW k a S (bgT S T n (C_cells C) n) dr tr C F G) H := hP
  have hD : va_D A (xW k a S (bgT S T n (C_cells C) n) dr tr C F G) := hD
  refine lv_aload_n hx hb dX4_findExchangeable_24 rfl (lv_at hl 2 rfl) ?_
  refine va_get (D := k.1) (ci := 4) (v := .ref (a 11)) (C := RX4) (T := TX4) (N := 10) hx hb hU inlX4 hown hK.1 hP 0 rfl rfl 1 (by decide) (hU _ uF_X4_21) (fun _ h9 => h9) rfl dX4_findExchangeable_25 ?_
  refine rcVN (n := 0) (As := []) (rest := []) hF (c_X3_price l k a S (bgT S T n (C_cells C) n) dr tr C F G  ) (hP) hK 11 (ci := 3) rfl rfl rfl uC_X3_price uN_X3 nM_X4_181 uI_X3_price uE_X3_price (by decide +kernel) rfl ⟨Nat.le_of_ble_eq_true rfl, Nat.le_of_ble_eq_true rfl⟩ ⟨Nat.zero_le _, Nat.zero_le _⟩ hl.1 rfl (Nat.le_of_ble_eq_true rfl) dX4_findExchangeable_28 ?_
  refine lv_lstore_n (lv' := [(3, .long (w_X3_price S (bgT S T n (C_cells C) n))), (2, .int 0), (1, .int (w_X2_freeSet S)), (0, .ref (a 0))]) hx hb dX4_findExchangeable_31 rfl hl (by decide) rfl (fun ls hl => ?_)
  refine lv_iconst (v := 0) hx hb dX4_findExchangeable_32 (by decide) ?_
  refine lv_istore (lv' := [(5, .int 0), (3, .long (w_X3_price S (bgT S T n (C_cells C) n))), (2, .int 0), (1, .int (w_X2_freeSet S)), (0, .ref (a 0))]) hx hb dX4_findExchangeable_33 hl (by decide) rfl (fun ls hl => ?_)
  have loop_i : ∀ (ri i : Nat), i + ri * 1 = n → ∀ (ls : Array Slot) (H : Heap) (locs : List Loc) , lv_has ls 6 [(5, .int (nI i)), (3, .long (w_X3_price S (bgT S T n (C_cells C) n))), (2, .int ((fe S n (w_X3_price S (bgT S T n (C_cells C) n)) (bgT S T n (C_cells C) n) i).2)), (1, .int (w_X2_freeSet S)), (0, .ref (a 0))] → va_P k.1 vwCl (xW k a S (fe S n (w_X3_price S (bgT S T n (C_cells C) n)) (bgT S T n (C_cells C) n) i).1 dr tr C F G) H → va_D A (xW k a S (fe S n (w_X3_price S (bgT S T n (C_cells C) n)) (bgT S T n (C_cells C) n) i).1 dr tr C F G) → va_S A s.heap H locs → WW p l e s m below meth c yX4_findExchangeable cX4_findExchangeable 6 (some .int) (rz 4 94) [.ref (a 0)] (some (.int ((fe S n (w_X3_price S (bgT S T n (C_cells C) n)) (bgT S T n (C_cells C) n) n).2))) k (xW k a S (fe S n (w_X3_price S (bgT S T n (C_cells C) n)) (bgT S T n (C_cells C) n) n).1 dr tr C F G) A H locs (F0 m 35 ls []) := by
    intro ri
    induction ri with
    | zero =>
      intro i hi_i ls H locs hl hP hD hS
      have he_i : n = i := by omega
      subst he_i
      refine lv_iload hx hb dX4_findExchangeable_35 (lv_at hl 0 rfl) ?_
      refine lv_aload_n hx hb dX4_findExchangeable_37 rfl (lv_at hl 4 rfl) ?_
      refine va_get (D := k.1) (ci := 4) (v := .ref (a 1)) (C := RX4) (T := TX4) (N := 10) hx hb hU inlX4 hown hK.1 hP 0 rfl rfl 0 (by decide) (hU _ uF_X4_10) (fun _ h9 => h9) rfl dX4_findExchangeable_38 ?_
      refine va_getN (D := k.1) (ci := 2) (v := .int (S_cells S)) (C := RX2) (T := TX2) (N := 16) hx hb hU inlX2 hown hK.1 hP 1 rfl rfl 12 (by decide) (hK.nf nF_X4_60) (fun _ h9 => h9) rfl dX4_findExchangeable_41 ?_
      refine xb_ge (tgt := 109) hx hb dX4_findExchangeable_44 (by decide) (fun c_1 => ?_) (fun c9 => absurd c9 (by rw [hc]; exact nI_nlt (a := n) (b := n) (Nat.le_refl _) (by omega)))
      refine lv_iload_n hx hb dX4_findExchangeable_109 rfl (lv_at hl 2 rfl) ?_
      have hP9 : va_P k.1 vwCl (xW k a S (fe S n (w_X3_price S (bgT S T n (C_cells C) n)) (bgT S T n (C_cells C) n) n).1 dr tr C F G) H := hP
      have hD9 : va_D A (xW k a S (fe S n (w_X3_price S (bgT S T n (C_cells C) n)) (bgT S T n (C_cells C) n) n).1 dr tr C F G) := hD
      exact W.iret (v := ((fe S n (w_X3_price S (bgT S T n (C_cells C) n)) (bgT S T n (C_cells C) n) n).2)) hx hb hr (fun t ht hW => ⟨⟨rfl, by rw [ht]; exact hP9, hD9⟩, hS.F ht⟩) hS.2.2 dX4_findExchangeable_110
    | succ ri ih_i =>
      intro i hi_i ls H locs hl hP hD hS
      have ht_i : i < n := by omega
      refine lv_iload hx hb dX4_findExchangeable_35 (lv_at hl 0 rfl) ?_
      refine lv_aload_n hx hb dX4_findExchangeable_37 rfl (lv_at hl 4 rfl) ?_
      refine va_get (D := k.1) (ci := 4) (v := .ref (a 1)) (C := RX4) (T := TX4) (N := 10) hx hb hU inlX4 hown hK.1 hP 0 rfl rfl 0 (by decide) (hU _ uF_X4_10) (fun _ h9 => h9) rfl dX4_findExchangeable_38 ?_
      refine va_getN (D := k.1) (ci := 2) (v := .int (S_cells S)) (C := RX2) (T := TX2) (N := 16) hx hb hU inlX2 hown hK.1 hP 1 rfl rfl 12 (by decide) (hK.nf nF_X4_60) (fun _ h9 => h9) rfl dX4_findExchangeable_41 ?_
      refine xb_ge (tgt := 109) hx hb dX4_findExchangeable_44 (by decide) (fun c9 => absurd (by rw [hc]; exact nI_lt (a := i) (b := n) (by omega) (by omega)) c9) (fun c_2 => ?_)
      refine lv_iload_n hx hb dX4_findExchangeable_47 rfl (lv_at hl 3 rfl) ?_
      refine lv_iload hx hb dX4_findExchangeable_48 (lv_at hl 0 rfl) ?_
      refine rcS (n := 2) (As := [.int (w_X2_freeSet S), .int (nI i)]) (rest := []) hF (c_X4_hasBit l k (w_X2_freeSet S) (nI i)) (hP.sub (ws' := []) [] rfl) hK uC_X4_hasBit uN_X4 uM_X4_120 uS_X4_hasBit (by decide +kernel) rfl ⟨Nat.le_of_ble_eq_true rfl, Nat.le_of_ble_eq_true rfl⟩ ⟨Nat.zero_le _, Nat.zero_le _⟩ hl.1 rfl (Nat.le_of_ble_eq_true rfl) dX4_findExchangeable_50 ?_
      refine lv_if_eq (tgt := 103) hx hb dX4_findExchangeable_53 (by decide) (fun c_3 => ?_) (fun c_3 => ?_)
      · refine lv_iinc (v := nI (i + 1)) (lv' := [(5, .int (nI (i + 1))), (3, .long (w_X3_price S (bgT S T n (C_cells C) n))), (2, .int ((fe S n (w_X3_price S (bgT S T n (C_cells C) n)) (bgT S T n (C_cells C) n) i).2)), (1, .int (w_X2_freeSet S)), (0, .ref (a 0))]) hx hb dX4_findExchangeable_103 hl (k := 0) rfl (nI_add i 1) (by decide) rfl (fun ls hl => ?_)
        refine lv_goto (tgt := 35) hx hb dX4_findExchangeable_106 (by decide) ?_
        have eb : bt (w_X2_freeSet S) i = false := (hb0 (w_X2_freeSet S) (by omega)).mp c_3
        have hq2 : (fe S n (w_X3_price S (bgT S T n (C_cells C) n)) (bgT S T n (C_cells C) n) i).2 = (fe S n (w_X3_price S (bgT S T n (C_cells C) n)) (bgT S T n (C_cells C) n) (i + 1)).2 := by rw [fe, fes, if_neg (by rw [eb]; decide)]
        rw [hq2] at hl
        have hq1 : (fe S n (w_X3_price S (bgT S T n (C_cells C) n)) (bgT S T n (C_cells C) n) i).1 = (fe S n (w_X3_price S (bgT S T n (C_cells C) n)) (bgT S T n (C_cells C) n) (i + 1)).1 := by rw [fe, fes, if_neg (by rw [eb]; decide)]
        rw [hq1] at hP hD
        exact ih_i (i + 1) (by omega) ls _ _ (lv_sub hl [0, 1, 2, 3, 4] rfl) hP hD hS
      · refine lv_aload_n hx hb dX4_findExchangeable_56 rfl (lv_at hl 4 rfl) ?_
        refine va_get (D := k.1) (ci := 4) (v := .ref (a 11)) (C := RX4) (T := TX4) (N := 10) hx hb hU inlX4 hown hK.1 hP 0 rfl rfl 1 (by decide) (hU _ uF_X4_21) (fun _ h9 => h9) rfl dX4_findExchangeable_57 ?_
        refine lv_iload hx hb dX4_findExchangeable_60 (lv_at hl 0 rfl) ?_
        refine wcVN (n := 1) (As := [.int (nI i)]) (rest := []) hF (c_X3_exchange l k a S (fe S n (w_X3_price S (bgT S T n (C_cells C) n)) (bgT S T n (C_cells C) n) i).1 dr tr C F G i n hn hc (by omega)) hP hD hS hA hK 11 (ci := 3) rfl rfl rfl uC_X3_exchange uN_X3 nM_X4_241 uI_X3_exchange uE_X3_exchange (by decide +kernel) rfl ⟨Nat.le_of_ble_eq_true rfl, Nat.le_of_ble_eq_true rfl⟩ ⟨Nat.zero_le _, Nat.zero_le _⟩ hl.1 rfl (Nat.le_of_ble_eq_true rfl) dX4_findExchangeable_62 (fun H locs hP hD hS => ?_)
        have hP : va_P k.1 vwCl (xW k a S (ex_T S (fe S n (w_X3_price S (bgT S T n (C_cells C) n)) (bgT S T n (C_cells C) n) i).1 n i) dr tr C F G) H := hP
        have hD : va_D A (xW k a S (ex_T S (fe S n (w_X3_price S (bgT S T n (C_cells C) n)) (bgT S T n (C_cells C) n) i).1 n i) dr tr C F G) := hD
        refine lv_aload_n hx hb dX4_findExchangeable_65 rfl (lv_at hl 4 rfl) ?_
        refine va_get (D := k.1) (ci := 4) (v := .ref (a 11)) (C := RX4) (T := TX4) (N := 10) hx hb hU inlX4 hown hK.1 hP 0 rfl rfl 1 (by decide) (hU _ uF_X4_21) (fun _ h9 => h9) rfl dX4_findExchangeable_66 ?_
        refine rcVN (n := 0) (As := []) (rest := []) hF (c_X3_price l k a S (ex_T S (fe S n (w_X3_price S (bgT S T n (C_cells C) n)) (bgT S T n (C_cells C) n) i).1 n i) dr tr C F G  ) (hP) hK 11 (ci := 3) rfl rfl rfl uC_X3_price uN_X3 nM_X4_181 uI_X3_price uE_X3_price (by decide +kernel) rfl ⟨Nat.le_of_ble_eq_true rfl, Nat.le_of_ble_eq_true rfl⟩ ⟨Nat.zero_le _, Nat.zero_le _⟩ hl.1 rfl (Nat.le_of_ble_eq_true rfl) dX4_findExchangeable_69 ?_
        refine lv_lload_n hx hb dX4_findExchangeable_72 rfl (lv_at hl 1 rfl) ?_
        refine xl_ne (tgt := 94) hx hb dX4_findExchangeable_73 dX4_findExchangeable_74 (by decide) (fun c_4 => ?_) (fun c_4 => ?_)
        · refine lv_aload_n hx hb dX4_findExchangeable_94 rfl (lv_at hl 4 rfl) ?_
          refine va_get (D := k.1) (ci := 4) (v := .ref (a 11)) (C := RX4) (T := TX4) (N := 10) hx hb hU inlX4 hown hK.1 hP 0 rfl rfl 1 (by decide) (hU _ uF_X4_21) (fun _ h9 => h9) rfl dX4_findExchangeable_95 ?_
          refine lv_iload hx hb dX4_findExchangeable_98 (lv_at hl 0 rfl) ?_
          refine wcVN (n := 1) (As := [.int (nI i)]) (rest := []) hF (c_X3_exchange l k a S (ex_T S (fe S n (w_X3_price S (bgT S T n (C_cells C) n)) (bgT S T n (C_cells C) n) i).1 n i) dr tr C F G i n hn hc (by omega)) hP hD hS hA hK 11 (ci := 3) rfl rfl rfl uC_X3_exchange uN_X3 nM_X4_241 uI_X3_exchange uE_X3_exchange (by decide +kernel) rfl ⟨Nat.le_of_ble_eq_true rfl, Nat.le_of_ble_eq_true rfl⟩ ⟨Nat.zero_le _, Nat.zero_le _⟩ hl.1 rfl (Nat.le_of_ble_eq_true rfl) dX4_findExchangeable_100 (fun H locs hP hD hS => ?_)
          have hP : va_P k.1 vwCl (xW k a S (ex_T S (ex_T S (fe S n (w_X3_price S (bgT S T n (C_cells C) n)) (bgT S T n (C_cells C) n) i).1 n i) n i) dr tr C F G) H := hP
          have hD : va_D A (xW k a S (ex_T S (ex_T S (fe S n (w_X3_price S (bgT S T n (C_cells C) n)) (bgT S T n (C_cells C) n) i).1 n i) n i) dr tr C F G) := hD
          refine lv_iinc (v := nI (i + 1)) (lv' := [(5, .int (nI (i + 1))), (3, .long (w_X3_price S (bgT S T n (C_cells C) n))), (2, .int ((fe S n (w_X3_price S (bgT S T n (C_cells C) n)) (bgT S T n (C_cells C) n) i).2)), (1, .int (w_X2_freeSet S)), (0, .ref (a 0))]) hx hb dX4_findExchangeable_103 hl (k := 0) rfl (nI_add i 1) (by decide) rfl (fun ls hl => ?_)
          refine lv_goto (tgt := 35) hx hb dX4_findExchangeable_106 (by decide) ?_
          have eb : bt (w_X2_freeSet S) i = true := (hb1 (w_X2_freeSet S) (by omega)).mp c_3
          have hq2 : (fe S n (w_X3_price S (bgT S T n (C_cells C) n)) (bgT S T n (C_cells C) n) i).2 = (fe S n (w_X3_price S (bgT S T n (C_cells C) n)) (bgT S T n (C_cells C) n) (i + 1)).2 := by rw [fe, fes, if_pos eb, if_neg c_4]
          rw [hq2] at hl
          have hq1 : (ex_T S (ex_T S (fe S n (w_X3_price S (bgT S T n (C_cells C) n)) (bgT S T n (C_cells C) n) i).1 n i) n i) = (fe S n (w_X3_price S (bgT S T n (C_cells C) n)) (bgT S T n (C_cells C) n) (i + 1)).1 := by rw [fe, fes, if_pos eb, if_neg c_4]
          rw [hq1] at hP hD
          exact ih_i (i + 1) (by omega) ls _ _ (lv_sub hl [0, 1, 2, 3, 4] rfl) hP hD hS
        · refine lv_aload_n hx hb dX4_findExchangeable_77 rfl (lv_at hl 4 rfl) ?_
          refine va_get (D := k.1) (ci := 4) (v := .ref (a 11)) (C := RX4) (T := TX4) (N := 10) hx hb hU inlX4 hown hK.1 hP 0 rfl rfl 1 (by decide) (hU _ uF_X4_21) (fun _ h9 => h9) rfl dX4_findExchangeable_78 ?_
          refine rcVN (n := 0) (As := []) (rest := []) hF (c_X3_stands l k a S (ex_T S (fe S n (w_X3_price S (bgT S T n (C_cells C) n)) (bgT S T n (C_cells C) n) i).1 n i) dr tr C F G  ) (hP) hK 11 (ci := 3) rfl rfl rfl uC_X3_stands uN_X3 nM_X4_248 uI_X3_stands uE_X3_stands (by decide +kernel) rfl ⟨Nat.le_of_ble_eq_true rfl, Nat.le_of_ble_eq_true rfl⟩ ⟨Nat.zero_le _, Nat.zero_le _⟩ hl.1 rfl (Nat.le_of_ble_eq_true rfl) dX4_findExchangeable_81 ?_
          refine lv_if_eq (tgt := 94) hx hb dX4_findExchangeable_84 (by decide) (fun c_5 => ?_) (fun c_5 => ?_)
          · refine lv_aload_n hx hb dX4_findExchangeable_94 rfl (lv_at hl 4 rfl) ?_
            refine va_get (D := k.1) (ci := 4) (v := .ref (a 11)) (C := RX4) (T := TX4) (N := 10) hx hb hU inlX4 hown hK.1 hP 0 rfl rfl 1 (by decide) (hU _ uF_X4_21) (fun _ h9 => h9) rfl dX4_findExchangeable_95 ?_
            refine lv_iload hx hb dX4_findExchangeable_98 (lv_at hl 0 rfl) ?_
            refine wcVN (n := 1) (As := [.int (nI i)]) (rest := []) hF (c_X3_exchange l k a S (ex_T S (fe S n (w_X3_price S (bgT S T n (C_cells C) n)) (bgT S T n (C_cells C) n) i).1 n i) dr tr C F G i n hn hc (by omega)) hP hD hS hA hK 11 (ci := 3) rfl rfl rfl uC_X3_exchange uN_X3 nM_X4_241 uI_X3_exchange uE_X3_exchange (by decide +kernel) rfl ⟨Nat.le_of_ble_eq_true rfl, Nat.le_of_ble_eq_true rfl⟩ ⟨Nat.zero_le _, Nat.zero_le _⟩ hl.1 rfl (Nat.le_of_ble_eq_true rfl) dX4_findExchangeable_100 (fun H locs hP hD hS => ?_)
            have hP : va_P k.1 vwCl (xW k a S (ex_T S (ex_T S (fe S n (w_X3_price S (bgT S T n (C_cells C) n)) (bgT S T n (C_cells C) n) i).1 n i) n i) dr tr C F G) H := hP
            have hD : va_D A (xW k a S (ex_T S (ex_T S (fe S n (w_X3_price S (bgT S T n (C_cells C) n)) (bgT S T n (C_cells C) n) i).1 n i) n i) dr tr C F G) := hD
            refine lv_iinc (v := nI (i + 1)) (lv' := [(5, .int (nI (i + 1))), (3, .long (w_X3_price S (bgT S T n (C_cells C) n))), (2, .int ((fe S n (w_X3_price S (bgT S T n (C_cells C) n)) (bgT S T n (C_cells C) n) i).2)), (1, .int (w_X2_freeSet S)), (0, .ref (a 0))]) hx hb dX4_findExchangeable_103 hl (k := 0) rfl (nI_add i 1) (by decide) rfl (fun ls hl => ?_)
            refine lv_goto (tgt := 35) hx hb dX4_findExchangeable_106 (by decide) ?_
            have eb : bt (w_X2_freeSet S) i = true := (hb1 (w_X2_freeSet S) (by omega)).mp c_3
            have hq2 : (fe S n (w_X3_price S (bgT S T n (C_cells C) n)) (bgT S T n (C_cells C) n) i).2 = (fe S n (w_X3_price S (bgT S T n (C_cells C) n)) (bgT S T n (C_cells C) n) (i + 1)).2 := by rw [fe, fes, if_pos eb, if_pos c_4, if_pos c_5]
            rw [hq2] at hl
            have hq1 : (ex_T S (ex_T S (fe S n (w_X3_price S (bgT S T n (C_cells C) n)) (bgT S T n (C_cells C) n) i).1 n i) n i) = (fe S n (w_X3_price S (bgT S T n (C_cells C) n)) (bgT S T n (C_cells C) n) (i + 1)).1 := by rw [fe, fes, if_pos eb, if_pos c_4, if_pos c_5]
            rw [hq1] at hP hD
            exact ih_i (i + 1) (by omega) ls _ _ (lv_sub hl [0, 1, 2, 3, 4] rfl) hP hD hS
          · refine lv_iload_n hx hb dX4_findExchangeable_87 rfl (lv_at hl 2 rfl) ?_
            refine lv_iconst (v := 1) hx hb dX4_findExchangeable_88 (by decide) ?_
            refine lv_iload hx hb dX4_findExchangeable_89 (lv_at hl 0 rfl) ?_
            refine lv_ishl hx hb dX4_findExchangeable_91 ?_
            refine lv_ior hx hb dX4_findExchangeable_92 ?_
            refine lv_istore_n (lv' := [(2, .int (((fe S n (w_X3_price S (bgT S T n (C_cells C) n)) (bgT S T n (C_cells C) n) i).2) ||| (1 <<< ((nI i) &&& 31)))), (5, .int (nI i)), (3, .long (w_X3_price S (bgT S T n (C_cells C) n))), (1, .int (w_X2_freeSet S)), (0, .ref (a 0))]) hx hb dX4_findExchangeable_93 rfl hl (by decide) rfl (fun ls hl => ?_)
            refine lv_aload_n hx hb dX4_findExchangeable_94 rfl (lv_at hl 4 rfl) ?_
            refine va_get (D := k.1) (ci := 4) (v := .ref (a 11)) (C := RX4) (T := TX4) (N := 10) hx hb hU inlX4 hown hK.1 hP 0 rfl rfl 1 (by decide) (hU _ uF_X4_21) (fun _ h9 => h9) rfl dX4_findExchangeable_95 ?_
            refine lv_iload hx hb dX4_findExchangeable_98 (lv_at hl 1 rfl) ?_
            refine wcVN (n := 1) (As := [.int (nI i)]) (rest := []) hF (c_X3_exchange l k a S (ex_T S (fe S n (w_X3_price S (bgT S T n (C_cells C) n)) (bgT S T n (C_cells C) n) i).1 n i) dr tr C F G i n hn hc (by omega)) hP hD hS hA hK 11 (ci := 3) rfl rfl rfl uC_X3_exchange uN_X3 nM_X4_241 uI_X3_exchange uE_X3_exchange (by decide +kernel) rfl ⟨Nat.le_of_ble_eq_true rfl, Nat.le_of_ble_eq_true rfl⟩ ⟨Nat.zero_le _, Nat.zero_le _⟩ hl.1 rfl (Nat.le_of_ble_eq_true rfl) dX4_findExchangeable_100 (fun H locs hP hD hS => ?_)
            have hP : va_P k.1 vwCl (xW k a S (ex_T S (ex_T S (fe S n (w_X3_price S (bgT S T n (C_cells C) n)) (bgT S T n (C_cells C) n) i).1 n i) n i) dr tr C F G) H := hP
            have hD : va_D A (xW k a S (ex_T S (ex_T S (fe S n (w_X3_price S (bgT S T n (C_cells C) n)) (bgT S T n (C_cells C) n) i).1 n i) n i) dr tr C F G) := hD
            refine lv_iinc (v := nI (i + 1)) (lv' := [(5, .int (nI (i + 1))), (2, .int (((fe S n (w_X3_price S (bgT S T n (C_cells C) n)) (bgT S T n (C_cells C) n) i).2) ||| (1 <<< ((nI i) &&& 31)))), (3, .long (w_X3_price S (bgT S T n (C_cells C) n))), (1, .int (w_X2_freeSet S)), (0, .ref (a 0))]) hx hb dX4_findExchangeable_103 hl (k := 1) rfl (nI_add i 1) (by decide) rfl (fun ls hl => ?_)
            refine lv_goto (tgt := 35) hx hb dX4_findExchangeable_106 (by decide) ?_
            have eb : bt (w_X2_freeSet S) i = true := (hb1 (w_X2_freeSet S) (by omega)).mp c_3
            have hq2 : (((fe S n (w_X3_price S (bgT S T n (C_cells C) n)) (bgT S T n (C_cells C) n) i).2) ||| (1 <<< ((nI i) &&& 31))) = (fe S n (w_X3_price S (bgT S T n (C_cells C) n)) (bgT S T n (C_cells C) n) (i + 1)).2 := by rw [fe, fes, if_pos eb, if_pos c_4, if_neg c_5]
            rw [hq2] at hl
            have hq1 : (ex_T S (ex_T S (fe S n (w_X3_price S (bgT S T n (C_cells C) n)) (bgT S T n (C_cells C) n) i).1 n i) n i) = (fe S n (w_X3_price S (bgT S T n (C_cells C) n)) (bgT S T n (C_cells C) n) (i + 1)).1 := by rw [fe, fes, if_pos eb, if_pos c_4, if_neg c_5]
            rw [hq1] at hP hD
            exact ih_i (i + 1) (by omega) ls _ _ (lv_sub hl [0, 2, 1, 3, 4] rfl) hP hD hS
  exact loop_i n 0 (by omega) ls _ _ (lv_sub hl [0, 1, 2, 3, 4] rfl) hP hD hS
