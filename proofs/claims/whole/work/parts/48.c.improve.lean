/-! improving on both sides: improve, often; tie -/
theorem next_eq (x : Int64) : w_X1_next_dr x = w_X5_next x := rfl
theorem dj_eq (n : Nat) (x : Int64) : djN n x = djM n (w_X5_next x) := rfl
theorem flip2 (x : Int32) {j : Nat} : (x ^^^ (1 <<< (nI j &&& 31))) ^^^ (1 <<< (nI j &&& 31)) = x := by
  refine b_ext (fun c hc => ?_)
  rw [b_xor, b_xor]
  cases bt x c <;> cases bt ((1 : Int32) <<< (nI j &&& 31)) c <;> rfl
section RL
variable {S : SeaT} {C : ChoT} {G : GoT} {dr : Int64} {M : ModT} {n : Nat}
theorem Rl_sd (h : Rl S C G dr M n) {M' : ModT} (hs : Same M M') (hd : M_draw M' = M_draw M) (h1 : M_hasChoice M' = M_hasChoice M) (h2 : M_choice M' = M_choice M) (h3 : M_earlier M' = M_earlier M) (h4 : M_cost M' = M_cost M) (h5 : M_hasRun M' = M_hasRun M) (h6 : M_answer M' = M_answer M) (h7 : M_bound M' = M_bound M) (h8 : M_clashes M' = M_clashes M) : Rl S C G dr M' n := by
  obtain ⟨a1, a2, a3, a4, a5, a6, a7⟩ := Rl_dy h
  refine Rl_of h hs a1 a2 ?_ ?_ ?_ ?_ ?_
  · rw [hd]; exact a3
  · rw [h1, h2, h4]; exact a4
  · rw [h3]; exact a5
  · rw [h5, h6, h7, h8]; exact a6
  · rw [h8]; exact a7
theorem Rl_tried (h : Rl S C G dr M n) (v : Int32) : Rl S C G dr (sM_tried M v) n := Rl_sd h (Same_tried M v) (d_draw_tried M v) (d_hasChoice_tried M v) (d_choice_tried M v) (d_earlier_tried M v) (d_cost_tried M v) (d_hasRun_tried M v) (d_answer_tried M v) (d_bound_tried M v) (d_clashes_tried M v)
theorem Rl_triedCost (h : Rl S C G dr M n) (v : Int64) : Rl S C G dr (sM_triedCost M v) n := Rl_sd h (Same_triedCost M v) (d_draw_triedCost M v) (d_hasChoice_triedCost M v) (d_choice_triedCost M v) (d_earlier_triedCost M v) (d_cost_triedCost M v) (d_hasRun_triedCost M v) (d_answer_triedCost M v) (d_bound_triedCost M v) (d_clashes_triedCost M v)
theorem Rl_kept (h : Rl S C G dr M n) (v : Int32) : Rl S C G dr (sM_kept M v) n := Rl_sd h (Same_kept M v) (d_draw_kept M v) (d_hasChoice_kept M v) (d_choice_kept M v) (d_earlier_kept M v) (d_cost_kept M v) (d_hasRun_kept M v) (d_answer_kept M v) (d_bound_kept M v) (d_clashes_kept M v)
theorem co_tried (M : ModT) (v : Int32) (X : Int32) (n : Nat) : w_X5_costOf (sM_tried M v) X n = w_X5_costOf M X n := same_co (Same_tried M v) X n
theorem opn_bt (M : ModT) {i : Nat} (hi : i ≤ 24) {c : Nat} (hc : c < 32) : bt (opn M i) c = (decide (c < i) && !decide (M_states M c = 2)) := by
  induction i with
  | zero => rw [opn, b_0]; simp
  | succ i ih =>
    rw [opn]
    by_cases h2 : M_states M i = 2
    · rw [if_pos h2, ih (by omega)]
      by_cases h3 : c = i
      · subst h3; simp [h2]
      · congr 1
        by_cases h4 : c < i
        · rw [decide_eq_true h4, decide_eq_true (show c < i + 1 by omega)]
        · rw [decide_eq_false h4, decide_eq_false (show ¬ c < i + 1 by omega)]
    · rw [if_neg h2, b_set _ (by omega) hc, ih (by omega)]
      by_cases h3 : c = i
      · subst h3; simp [h2]
      · by_cases h4 : c < i
        · rw [decide_eq_true h4, decide_eq_true (show c < i + 1 by omega), decide_eq_false h3]; simp
        · rw [decide_eq_false h4, decide_eq_false (show ¬ c < i + 1 by omega), decide_eq_false h3]; simp
theorem open_eq (h : Rl S C G dr M n) : w_X2_openSet S = opn M n := by
  refine b_ext (fun c hc => ?_)
  rw [opn_bt M h.1 hc]
  by_cases h1 : c < n
  · rw [op_st h h1, decide_eq_true h1]; rfl
  · rw [op_hi h.1 h.2.1 (by omega), decide_eq_false h1]; rfl
/-- what the two sides of improving have in common -/
def Dm (S : SeaT) (C : ChoT) (G : GoT) (dr : Int64) (n : Nat) (y : DmT) (z : Int64 × ModT) : Prop :=
  Tal S n y.1 ∧ T_cells y.1 = M_tried z.2 ∧ y.2.2.2 = M_triedCost z.2 ∧ y.2.1 = z.1 ∧ M_kept z.2 = nI y.2.2.1 ∧ Rl S C G dr z.2 n ∧ y.2.2.2 = w_X3_price S y.1
theorem Dm_step {y : DmT} {z : Int64 × ModT} (h0 : 0 < n) (h : Dm S C G dr n y z) : Dm S C G dr n (dms S n y) (sps n z) := by
  obtain ⟨h1, h2, h3, h4, h5, h6, h7⟩ := h
  have hj := (dj_spec h0 h6.1 y.2.1).2
  have hs := rl_sym h6
  have t1 := ex_Tal hs h6.1 hj h1
  have t2 := ex_Tal hs h6.1 hj t1
  have e1 : T_cells (ex_T S y.1 n (djN n y.2.1)) = spX n z := by
    rw [ex_cells, h2, dj_eq, h4]; rfl
  have e2 : T_cells (ex_T S (ex_T S y.1 n (djN n y.2.1)) n (djN n y.2.1)) = M_tried z.2 := by
    rw [ex_cells, ex_cells, flip2, h2]
  have e3 := price_eq h6 t1
  have e4 := stands_eq h6 t1
  rw [e1] at e3 e4
  have ex : w_X1_next_dr y.2.1 = w_X5_next z.1 := by rw [h4]; rfl
  have e6 : y.2.2.2 = w_X3_price S (ex_T S (ex_T S y.1 n (djN n y.2.1)) n (djN n y.2.1)) := by
    rw [h7, price_eq h6 h1, price_eq h6 t2, e2, h2]
  unfold dms sps
  rw [e3, e4, h3]
  by_cases c1 : w_X5_costOf z.2 (spX n z) n < M_triedCost z.2
  · rw [if_pos c1, if_pos c1]
    by_cases c2 : w_X5_stands z.2 (spX n z) n = 0
    · rw [if_pos c2, if_pos c2]
      exact ⟨t2, e2, rfl, ex, h5, h6, by rw [← h3]; exact e6⟩
    · rw [if_neg c2, if_neg c2]
      refine ⟨t1, e1, ?_, ex, ?_, Rl_kept (Rl_triedCost (Rl_tried h6 _) _) _, e3.symm⟩
      · show w_X5_costOf z.2 (spX n z) n = w_X5_costOf (sM_tried z.2 (spX n z)) (spX n z) n
        rw [co_tried]
      · show M_kept z.2 + 1 = nI (y.2.2.1 + 1)
        rw [h5]; exact nI_1 _
  · rw [if_neg c1, if_neg c1]
    exact ⟨t2, e2, rfl, ex, h5, h6, by rw [← h3]; exact e6⟩
theorem Dm_all {y : DmT} {z : Int64 × ModT} (h0 : 0 < n) (h : Dm S C G dr n y z) (i : Nat) : Dm S C G dr n (dm S n y i) (sp n z i) := by
  induction i with
  | zero => exact h
  | succ i ih => rw [dm, sp]; exact Dm_step h0 ih
theorem Dm_0 (h : Rl S C G dr M n) (T : TalT) (x : Int64) : Dm S C G dr n (dm0 S T n x) (sp0 M n x) := by
  have hT := (bgT_Tal (rl_sym h) h.1 T (w_X2_openSet S) n (Nat.le_refl n)).1
  have hc := bgT_set (rl_sym h) h.1 T (set := w_X2_openSet S) (fun c hc => op_hi h.1 h.2.1 hc)
  have hp := price_eq h hT
  have ho := open_eq h
  refine ⟨hT, ?_, ?_, rfl, rfl, Rl_kept (Rl_triedCost (Rl_tried h _) _) _, rfl⟩
  · show T_cells (bgT S T n (w_X2_openSet S) n) = opn M n
    exact hc.trans ho
  · show w_X3_price S (bgT S T n (w_X2_openSet S) n) = w_X5_costOf (sM_tried M (opn M n)) (opn M n) n
    rw [hp, co_tried, hc.trans ho]
theorem dm_kept (S : SeaT) (n : Nat) (y : DmT) (i : Nat) : (dm S n y i).2.2.1 ≤ y.2.2.1 + i := by
  induction i with
  | zero => exact Nat.le_refl _
  | succ i ih =>
    have h1 : (dms S n (dm S n y i)).2.2.1 ≤ (dm S n y i).2.2.1 + 1 := by
      unfold dms
      split
      · split
        · show (dm S n y i).2.2.1 ≤ _; omega
        · show (dm S n y i).2.2.1 + 1 ≤ _; omega
      · show (dm S n y i).2.2.1 ≤ _; omega
    rw [dm]
    omega
theorem st_open (h : Rl S C G dr M n) (T : TalT) : w_X3_stands S (bgT S T n (w_X2_openSet S) n) = w_X5_stands M (opn M n) n := by
  have hT := (bgT_Tal (rl_sym h) h.1 T (w_X2_openSet S) n (Nat.le_refl n)).1
  rw [stands_eq h hT, bgT_set (rl_sym h) h.1 T (fun c hc => op_hi h.1 h.2.1 hc), open_eq h]
theorem Rl_draw (h : Rl S C G dr M n) (x : Int64) : Rl S C G x (sM_draw M x) n := by
  obtain ⟨a1, a2, a3, a4, a5, a6, a7⟩ := Rl_dy h
  refine Rl_of h (Same_draw M x) a1 a2 (d_draw_draw M x).symm ?_ ?_ ?_ ?_
  · rw [d_hasChoice_draw, d_choice_draw, d_cost_draw]; exact a4
  · rw [d_earlier_draw]; exact a5
  · rw [d_hasRun_draw, d_answer_draw, d_bound_draw, d_clashes_draw]; exact a6
  · rw [d_clashes_draw]; exact a7
theorem ear_eq (h : Rl S C G dr M n) : (if M_hasChoice M = 0 then 0 else M_choice M) = C_cells C := by
  rcases ch_cases h with ⟨c1, c2, c3, c4⟩ | ⟨c1, c2, c3, c4⟩
  · rw [if_pos c2, c3]
  · rw [if_neg (by rw [c2]; decide), c3]
def bec (M : ModT) (is_ : Int32) (set : Int32) (cv : Int64) (e : Int32) : ModT := sM_cost (sM_choice (sM_hasChoice (sM_earlier M e) is_) set) cv
theorem bec_eq (h : Rl S C G dr M n) (is_ : Int32) (set : Int32) (cv : Int64) : w_X5_become_M M is_ set cv = bec M is_ set cv (C_cells C) := by
  rw [← ear_eq h]
  unfold w_X5_become_M bec
  by_cases h1 : M_hasChoice M = 0
  · rw [if_pos h1, if_pos h1]
  · rw [if_neg h1, if_neg h1]
theorem Same_bec (M : ModT) (i_ X : Int32) (cv : Int64) (e : Int32) : Same M (bec M i_ X cv e) := Same_trans (Same_trans (Same_trans (Same_earlier M e) (Same_hasChoice _ i_)) (Same_choice _ X)) (Same_cost _ cv)
theorem bec_g (M : ModT) (i_ X : Int32) (cv : Int64) (e : Int32) : M_draw (bec M i_ X cv e) = M_draw M ∧ M_hasChoice (bec M i_ X cv e) = i_ ∧ M_choice (bec M i_ X cv e) = X ∧ M_earlier (bec M i_ X cv e) = e ∧ M_cost (bec M i_ X cv e) = cv ∧ M_hasRun (bec M i_ X cv e) = M_hasRun M ∧ M_answer (bec M i_ X cv e) = M_answer M ∧ M_bound (bec M i_ X cv e) = M_bound M ∧ M_clashes (bec M i_ X cv e) = M_clashes M ∧ M_kept (bec M i_ X cv e) = M_kept M := by
  unfold bec
  refine ⟨?_, ?_, ?_, ?_, ?_, ?_, ?_, ?_, ?_, ?_⟩
  · rw [d_draw_cost, d_draw_choice, d_draw_hasChoice, d_draw_earlier]
  · rw [d_hasChoice_cost, d_hasChoice_choice, d_hasChoice_hasChoice]
  · rw [d_choice_cost, d_choice_choice]
  · rw [d_earlier_cost, d_earlier_choice, d_earlier_hasChoice, d_earlier_earlier]
  · rw [d_cost_cost]
  · rw [d_hasRun_cost, d_hasRun_choice, d_hasRun_hasChoice, d_hasRun_earlier]
  · rw [d_answer_cost, d_answer_choice, d_answer_hasChoice, d_answer_earlier]
  · rw [d_bound_cost, d_bound_choice, d_bound_hasChoice, d_bound_earlier]
  · rw [d_clashes_cost, d_clashes_choice, d_clashes_hasChoice, d_clashes_earlier]
  · rw [d_kept_cost, d_kept_choice, d_kept_hasChoice, d_kept_earlier]
theorem gB_g (G : GoT) (e : Int32) : G_cellsBefore (sG_cellsBefore G e) = e ∧ G_runAnswer (sG_cellsBefore G e) = G_runAnswer G ∧ G_toldBound (sG_cellsBefore G e) = G_toldBound G ∧ G_clashingKinds (sG_cellsBefore G e) = G_clashingKinds G := ⟨rfl, rfl, rfl, rfl⟩
theorem Rl_bec1 (h : Rl S C G dr M n) {C' : ChoT} {X : Int32} {cv : Int64} (h1 : C_there C' = 1) (h2 : C_cells C' = X) (h3 : C_price C' = cv) (hX : ∀ c, n ≤ c → bt X c = false) : Rl S C' (sG_cellsBefore G (C_cells C)) dr (bec M 1 X cv (C_cells C)) n := by
  obtain ⟨a1, a2, a3, a4, a5, a6, a7⟩ := Rl_dy h
  obtain ⟨g1, g2, g3, g4, g5, g6, g7, g8, g9, g10⟩ := bec_g M 1 X cv (C_cells C)
  obtain ⟨e1, e2, e3, e4⟩ := gB_g G (C_cells C)
  refine Rl_of h (Same_bec M 1 X cv (C_cells C)) (by rw [h2]; exact hX) (by rw [e1]; exact a1) (by rw [g1]; exact a3) (Or.inr ⟨h1, g2, by rw [g3]; exact h2, by rw [g5]; exact h3⟩) (by rw [e1, g4]) (by rw [g6, g7, g8, g9, e2, e3, e4]; exact a6) (by rw [g9]; exact a7)
theorem Rl_bec0 (h : Rl S C G dr M n) {C' : ChoT} {X : Int32} {cv : Int64} (h1 : C_there C' = 0) (h2 : C_cells C' = 0) (h3 : C_price C' = -1) : Rl S C' (sG_cellsBefore G (C_cells C)) dr (bec M 0 X cv (C_cells C)) n := by
  obtain ⟨a1, a2, a3, a4, a5, a6, a7⟩ := Rl_dy h
  obtain ⟨g1, g2, g3, g4, g5, g6, g7, g8, g9, g10⟩ := bec_g M 0 X cv (C_cells C)
  obtain ⟨e1, e2, e3, e4⟩ := gB_g G (C_cells C)
  refine Rl_of h (Same_bec M 0 X cv (C_cells C)) (by rw [h2]; exact fun c _ => b_0 c) (by rw [e1]; exact a1) (by rw [g1]; exact a3) (Or.inl ⟨h1, g2, h2, h3⟩) (by rw [e1, g4]) (by rw [g6, g7, g8, g9, e2, e3, e4]; exact a6) (by rw [g9]; exact a7)
theorem cells0 (h : Rl S C G dr M n) : (S_cells S = 0 ↔ n = 0) ∧ (M_cells M = 0 ↔ n = 0) := by
  obtain ⟨hn, hcx, hcm, hrest⟩ := h
  rw [hcx, hcm]
  have : nI n = 0 ↔ n = 0 := nI_eq (a := n) (b := 0) (by omega) (by omega)
  exact ⟨this, this⟩
theorem rl_improve (h : Rl S C G dr M n) (T : TalT) (tr : Int64) (F : Nat → Int32) (z0 : Int32) : w_X4_improve S T dr z0 n = w_X5_improve M z0 n ∧ ∃ n2, Rl S (w_X4_improve_C S T dr C z0 n) (w_X4_improve_G S T dr C G z0 n) (w_X4_improve_dr S T dr z0 n) (w_X5_improve_M M z0 n) n2 := by
  unfold w_X4_improve w_X4_improve_C w_X4_improve_G w_X4_improve_dr w_X5_improve w_X5_improve_M
  by_cases h1 : z0 < 1
  · simp only [if_pos h1]; exact ⟨trivial, n, h⟩
  · by_cases h2 : 1000 < z0
    · simp only [if_neg h1, if_pos h2]; exact ⟨trivial, n, h⟩
    · by_cases h3 : n = 0
      · have e1 := (cells0 h).1.mpr h3
        have e2 := (cells0 h).2.mpr h3
        simp only [if_neg h1, if_neg h2, if_pos e1, if_pos e2]; exact ⟨trivial, n, h⟩
      · have e1 : ¬ S_cells S = 0 := fun q => h3 ((cells0 h).1.mp q)
        have e2 : ¬ M_cells M = 0 := fun q => h3 ((cells0 h).2.mp q)
        simp only [if_neg h1, if_neg h2, if_neg e1, if_neg e2]
        obtain ⟨hN, eN_, hN1⟩ := rgJ (x := z0) (m := 1000) (by omega) h1 h2
        generalize tn z0 = N at hN hN1
        have hso := st_open h T
        have hd : dr = M_draw M := by
          obtain ⟨hn, hcx, hcm, hco, ham, hho, hbo, hfa, hkt, hpt, hgo, hfr, hwt, hle, hst, hsz, hbz, hdr, hrest⟩ := h
          exact hdr
        by_cases h4 : w_X5_stands M (opn M n) n = 0
        · have r1 : w_dm_dr S T dr n N = -1 := by unfold w_dm_dr; rw [if_neg e1, if_pos (by rw [hso]; exact h4)]
          have r2 : w_dmx_dr S T dr n N = dr := by unfold w_dmx_dr; rw [if_neg e1, if_pos (by rw [hso]; exact h4)]
          rw [r1, r2]
          simp only [if_pos h4, if_true]
          refine ⟨trivial, n, ?_⟩
          rw [bec_eq h]
          exact Rl_bec0 h rfl rfl rfl
        · have s1 : ¬ w_X3_stands S (bgT S T n (w_X2_openSet S) n) = 0 := by rw [hso]; exact h4
          have r1 : w_dm_dr S T dr n N = nI (dm S n (dm0 S T n dr) N).2.2.1 := by unfold w_dm_dr; rw [if_neg e1, if_neg s1]
          have r2 : w_dmx_dr S T dr n N = (dm S n (dm0 S T n dr) N).2.1 := by unfold w_dmx_dr; rw [if_neg e1, if_neg s1]
          have r3 : w_dmT_dr S T dr n N = (dm S n (dm0 S T n dr) N).1 := by unfold w_dmT_dr; rw [if_neg e1, if_neg s1]
          have hk := dm_kept S n (dm0 S T n dr) N
          have hk0 : (dm0 S T n dr).2.2.1 = 0 := rfl
          have r4 : ¬ w_dm_dr S T dr n N = -1 := by rw [r1]; exact nI_ne_m1 (by omega)
          simp only [if_neg h4, if_neg r4]
          have hD := Dm_all (by omega) (Dm_0 h T dr) N
          rw [← hd]
          rw [r1, r2, r3]
          generalize dm S n (dm0 S T n dr) N = y at hD
          generalize sp n (sp0 M n dr) N = z at hD
          obtain ⟨d1, d2, d3, d4, d5, d6, d7⟩ := hD
          have hR := Rl_draw d6 z.1
          refine ⟨?_, n, ?_⟩
          · rw [bec_eq hR, (bec_g _ _ _ _ _).2.2.2.2.2.2.2.2.2, d_kept_draw]
            exact d5.symm
          · rw [bec_eq hR, d4]
            exact Rl_bec1 hR rfl d2 (by rw [← d3, d7]; rfl) (fun c hc => by rw [← d2]; exact d1.2.2.2.2.2 c hc)
end RL
