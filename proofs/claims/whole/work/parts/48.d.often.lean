/-! often and tie on both sides -/
theorem seed_nz : ∀ i, i < 21 → 1 ≤ i → ¬ Int32.toInt64 (nI i) = 0 := by decide +kernel
section RL
variable {S : SeaT} {C : ChoT} {G : GoT} {dr : Int64} {M : ModT} {n : Nat}
theorem hb_mb (x : Int32) {ce : Int32} {j : Nat} (hj : j < 32) (e : ce = nI j) : w_hasBit x ce = w_X5_has x ce := by
  rw [e, hb_val x hj, mb_val x hj]
theorem sp_same (n : Nat) (x : Int64 × ModT) (i : Nat) : Same x.2 (sp n x i).2 := by
  induction i with
  | zero => exact Same_refl _
  | succ i ih =>
    rw [sp]
    refine Same_trans ih ?_
    unfold sps
    split
    · split
      · exact Same_refl _
      · exact Same_trans (Same_trans (Same_tried _ _) (Same_triedCost _ _)) (Same_kept _ _)
    · exact Same_refl _
/-- what the two sides of often have in common -/
def Ofr (S : SeaT) (C : ChoT) (G : GoT) (dr : Int64) (M : ModT) (n : Nat) (y : OfT) (z : ModT × Int64) : Prop :=
  y.2.2.2 = false ∧ y.2.2.1 = z.2 ∧ Rl S C G dr z.1 n ∧ Same M z.1
theorem Ofr_step {y : OfT} {z : ModT × Int64} {ce : Int32} {j i : Nat} (h0 : 0 < n) (hcx : S_cells S = nI n) (hn : n ≤ 24) (hj : j < n) (ej : ce = nI j) (hi : 1 ≤ i) (hi2 : i < 21) (hst : ¬ w_X5_stands M (opn M n) n = 0) (h : Ofr S C G dr M n y z) : Ofr S C G dr M n (ofs S n ce y i) (oms n ce z i) := by
  obtain ⟨h1, h2, h3, h4⟩ := h
  have hx : w_X1_start_dr (Int32.toInt64 (nI i)) = Int32.toInt64 (nI i) := by
    unfold w_X1_start_dr; rw [if_neg (seed_nz i hi2 hi)]
  unfold ofs oms
  rw [if_neg (by rw [h1]; decide), hx]
  generalize Int32.toInt64 (nI i) = x
  have hS0 : ¬ S_cells S = 0 := by
    intro q; have := (cells0 h3).1.mp q; omega
  have s0 := st_open h3 y.1
  rw [same_st h4, same_opn h4] at s0
  have s1 : ¬ w_X3_stands S (bgT S y.1 n (w_X2_openSet S) n) = 0 := by rw [s0]; exact hst
  have r1 : w_dm_tr S y.1 x n 40 = nI (dm S n (dm0 S y.1 n x) 40).2.2.1 := by unfold w_dm_tr; rw [if_neg hS0, if_neg s1]
  have r3 : w_dmT_tr S y.1 x n 40 = (dm S n (dm0 S y.1 n x) 40).1 := by unfold w_dmT_tr; rw [if_neg hS0, if_neg s1]
  have hk := dm_kept S n (dm0 S y.1 n x) 40
  have hk0 : (dm0 S y.1 n x).2.2.1 = 0 := rfl
  have r4 : ¬ w_dm_tr S y.1 x n 40 = -1 := by rw [r1]; exact nI_ne_m1 (by omega)
  have hD := Dm_all h0 (Dm_0 h3 y.1 x) 40
  have hs : Same z.1 (sp n (sp0 z.1 n x) 40).2 := Same_trans (Same_trans (Same_trans (Same_tried _ _) (Same_triedCost _ _)) (Same_kept _ _)) (sp_same n (sp0 z.1 n x) 40)
  rw [if_neg r4, r3]
  generalize w_dmx_tr S y.1 x n 40 = u
  generalize dm S n (dm0 S y.1 n x) 40 = y' at hD
  generalize sp n (sp0 z.1 n x) 40 = z' at hD hs
  obtain ⟨d1, d2, d3, d4, d5, d6, d7⟩ := hD
  rw [hb_mb _ (by omega) ej, d2]
  by_cases c : w_X5_has (M_tried z'.2) ce = 0
  · rw [if_pos c, if_pos c]
    exact ⟨rfl, by show y.2.2.1 = z.2 + 0; rw [h2, Int64.add_zero], d6, Same_trans h4 hs⟩
  · rw [if_neg c, if_neg c]
    exact ⟨rfl, by show y.2.2.1 + 1 = z.2 + 1; rw [h2], d6, Same_trans h4 hs⟩
theorem rl_often (h : Rl S C G dr M n) (T : TalT) (tr : Int64) (F : Nat → Int32) (z0 : Int32) (z1 : Int32) : w_X4_often S T tr n z0 z1 = (omE M n z0 z1).2 ∧ ∃ n2, Rl S C G dr ((omE M n z0 z1).1) n2 := by
  unfold w_X4_often ofE omE
  rw [ic_eq h]
  by_cases h1 : w_hasCell (S_cells S) z0 = 0
  · simp only [if_pos h1]; exact ⟨if_pos trivial, n, h⟩
  · by_cases h2 : z1 < 1
    · simp only [if_neg h1, if_pos h2]; exact ⟨if_pos trivial, n, h⟩
    · by_cases h3 : 20 < z1
      · simp only [if_neg h1, if_neg h2, if_pos h3]; exact ⟨if_pos trivial, n, h⟩
      · simp only [if_neg h1, if_neg h2, if_neg h3]
        obtain ⟨hj, ej⟩ := hcJ h.1 h.2.1 h1
        obtain ⟨hN, eN_, hN1⟩ := rgJ (x := z1) (m := 20) (by omega) h2 h3
        generalize tn z1 = N at hN hN1
        have h0 : 0 < n := by omega
        by_cases h4 : w_X5_stands M (opn M n) n = 0
        · have hso := st_open h T
          have hS0 : ¬ S_cells S = 0 := by
            intro q; have := (cells0 h).1.mp q; omega
          have e1 : (of_ S n z0 (T, tr, 0, false) 2).2.2.2 = true := by
            rw [of_, if_neg (by omega), of_, if_pos rfl]
            unfold ofs
            rw [if_neg (fun q => Bool.noConfusion q), if_pos]
            unfold w_dm_tr
            rw [if_neg hS0, if_pos]
            rw [hso]; exact h4
          rw [of_stop (by omega) e1 (show 2 ≤ N + 1 by omega), if_pos e1]
          simp only [if_pos h4]
          exact ⟨trivial, n, h⟩
        · have key : ∀ i, i ≤ N → Ofr S C G dr M n (of_ S n z0 (T, tr, 0, false) (i + 1)) (om n z0 (M, 0) (i + 1)) := by
            intro i
            induction i with
            | zero =>
              intro _
              rw [of_, om, if_pos rfl, if_pos rfl]
              exact ⟨rfl, rfl, h, Same_refl M⟩
            | succ i ih =>
              intro hi
              rw [of_, om, if_neg (by omega), if_neg (by omega)]
              exact Ofr_step h0 h.2.1 h.1 hj ej (by omega) (by omega) h4 (ih (by omega))
          obtain ⟨k1, k2, k3, k4⟩ := key N (Nat.le_refl N)
          rw [if_neg (by rw [k1]; decide)]
          simp only [if_neg h4]
          exact ⟨k2, n, k3⟩
theorem fe_inv (h : Rl S C G dr M n) (T : TalT) (hch : C_cells C = M_choice M) (i : Nat) (hi : i ≤ n) : Tal S n (fe S n (w_X3_price S (bgT S T n (C_cells C) n)) (bgT S T n (C_cells C) n) i).1 ∧ T_cells (fe S n (w_X3_price S (bgT S T n (C_cells C) n)) (bgT S T n (C_cells C) n) i).1 = M_choice M ∧ ∀ c, c < 32 → bt (fe S n (w_X3_price S (bgT S T n (C_cells C) n)) (bgT S T n (C_cells C) n) i).2 c = (decide (c < i) && q_tie M n c) := by
  have hT := (bgT_Tal (rl_sym h) h.1 T (C_cells C) n (Nat.le_refl n)).1
  have hc := bgT_set (rl_sym h) h.1 T (set := C_cells C) (cc_hi h)
  have hp := price_eq h hT
  rw [hc, hch] at hp
  rw [hch] at hc
  rw [hch] at hT
  rw [hch]
  have hn := h.1
  rw [hp]
  generalize bgT S T n (M_choice M) n = T0 at hT hc
  induction i with
  | zero => exact ⟨hT, hc, fun c _ => by rw [fe, b_0]; simp⟩
  | succ i ih =>
    obtain ⟨i1, i2, i3⟩ := ih (by omega)
    rw [fe]
    generalize fe S n (w_X5_costOf M (M_choice M) n) T0 i = y at i1 i2 i3
    have t1 := ex_Tal (rl_sym h) h.1 (show i < n by omega) i1
    have t2 := ex_Tal (rl_sym h) h.1 (show i < n by omega) t1
    have e1 : T_cells (ex_T S y.1 n i) = M_choice M ^^^ (1 <<< (nI i &&& 31)) := by rw [ex_cells, i2]
    have e2 : T_cells (ex_T S (ex_T S y.1 n i) n i) = M_choice M := by rw [ex_cells, e1, flip2]
    have p1 := price_eq h t1
    have p2 := stands_eq h t1
    rw [e1] at p1 p2
    have base : ∀ c, ¬ c = i → decide (c < i + 1) = decide (c < i) := by
      intro c h1
      by_cases h2 : c < i
      · rw [decide_eq_true h2, decide_eq_true (by omega)]
      · rw [decide_eq_false h2, decide_eq_false (by omega)]
    have noset : q_tie M n i = false → ∀ c, c < 32 → bt y.2 c = (decide (c < i + 1) && q_tie M n c) := by
      intro hq c hc9
      rw [i3 c hc9]
      by_cases h1 : c = i
      · subst h1; rw [hq, Bool.and_false, Bool.and_false]
      · rw [base c h1]
    have hq : q_tie M n i = (decide (M_states M i = 0) && decide (w_X5_costOf M (M_choice M ^^^ (1 <<< (nI i &&& 31))) n = w_X5_costOf M (M_choice M) n) && decide (¬ w_X5_stands M (M_choice M ^^^ (1 <<< (nI i &&& 31))) n = 0)) := rfl
    unfold fes
    rw [fr_st h (show i < n by omega), p1, p2]
    by_cases c1 : M_states M i = 0
    · rw [decide_eq_true c1, if_pos rfl]
      by_cases c2 : w_X5_costOf M (M_choice M ^^^ (1 <<< (nI i &&& 31))) n = w_X5_costOf M (M_choice M) n
      · rw [if_pos c2]
        by_cases c3 : w_X5_stands M (M_choice M ^^^ (1 <<< (nI i &&& 31))) n = 0
        · rw [if_pos c3]
          exact ⟨t2, e2, noset (by rw [hq, decide_eq_false (p := ¬ w_X5_stands M (M_choice M ^^^ (1 <<< (nI i &&& 31))) n = 0) (fun q => q c3), Bool.and_false])⟩
        · rw [if_neg c3]
          refine ⟨t2, e2, fun c hc9 => ?_⟩
          show bt (y.2 ||| (1 <<< (nI i &&& 31))) c = _
          rw [b_set _ (by omega) hc9, i3 c hc9]
          by_cases h1 : c = i
          · subst h1
            rw [hq, decide_eq_true c1, decide_eq_true c2, decide_eq_true c3, decide_eq_true (show c < c + 1 by omega), decide_eq_true (show c = c from rfl), Bool.or_true]
            rfl
          · rw [base c h1, decide_eq_false h1, Bool.or_false]
      · rw [if_neg c2]
        exact ⟨t2, e2, noset (by rw [hq, decide_eq_false c2, Bool.and_false, Bool.false_and])⟩
    · rw [decide_eq_false c1, if_neg (by decide)]
      exact ⟨i1, i2, noset (by rw [hq, decide_eq_false c1, Bool.false_and, Bool.false_and])⟩
theorem rl_tie (h : Rl S C G dr M n) (T : TalT) (tr : Int64) (F : Nat → Int32) (z0 : Int32) : w_X4_tie S T C z0 n = w_X5_tie M z0 n ∧ ∃ n2, Rl S C G dr M n2 := by
  refine ⟨?_, n, h⟩
  unfold w_X4_tie w_X5_tie
  have hn := h.1
  rcases ch_cases h with ⟨c1, c2, c3, c4⟩ | ⟨c1, c2, c3, c4⟩
  · rw [if_pos c1, if_pos c2]
  · rw [if_neg (by rw [c1]; decide), if_neg (by rw [c2]; decide)]
    have hB := (fe_inv h T c3 n (Nat.le_refl n)).2.2
    generalize (fe S n (w_X3_price S (bgT S T n (C_cells C) n)) (bgT S T n (C_cells C) n) n).2 = mk at hB
    unfold w_X4_placeOfBit
    by_cases h1 : z0 < 0
    · rw [if_pos h1]
      refine fnd_none (fun j hj => ?_)
      have h2 : ¬ nI (cn mk j) = z0 := by
        intro q
        rw [← q] at h1
        have := cn_le mk j
        exact absurd h1 (nI_pos (by omega))
      simp [q_pob, h2]
    · rw [if_neg h1]
      rw [fnd_cut (n := n) (m := 24) hn (fun j h2 h3 => by
        unfold q_pob
        rw [hB j (by omega), decide_eq_false (by omega), Bool.false_and, Bool.false_and])]
      refine fnd_congr (fun j hj => ?_)
      have e1 : cn mk j = cq (q_tie M n) j := by
        rw [cn_cq]
        refine cq_congr (fun c hc => ?_)
        rw [hB c (by omega), decide_eq_true (by omega), Bool.true_and]
      unfold q_pob q_tik
      rw [hB j (by omega), decide_eq_true hj, Bool.true_and, e1]
end RL
