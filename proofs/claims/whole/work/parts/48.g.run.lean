/-! run on both sides -/
theorem xlow (X Y : Int32) : ((X ^^^ Y) &&& (-(X ^^^ Y))) &&& X = (X &&& (X ^^^ Y)) &&& (-(X ^^^ Y)) := by
  refine b_ext (fun c hc => ?_)
  rw [b_and, b_and, b_and, b_and]
  cases bt X c <;> cases bt (X ^^^ Y) c <;> cases bt (-(X ^^^ Y)) c <;> rfl
theorem beat_iff {n : Nat} (hn : n ≤ 24) (C : ChoT) (X : Int32) (cv : Int64) (h0 : ¬ C_there C = 0) (hX : ∀ c, n ≤ c → bt X c = false) (hC : ∀ c, n ≤ c → bt (C_cells C) c = false) : ¬ w_X0_isBeatenBy C X cv = 0 ↔ (cv < C_price C ∨ (cv = C_price C ∧ Bf X (C_cells C) n)) := by
  have ha := cn_le X n
  have hb := cn_le (C_cells C) n
  obtain ⟨q1, q2, q3, q4⟩ := nI_c (cn X n) (by omega) (cn (C_cells C) n) (by omega)
  have hl := lx_iff X (C_cells C)
  unfold w_X0_isBeatenBy Bf
  rw [if_neg h0, bc_n (by omega) hX, bc_n (by omega) hC, xlow]
  by_cases h1 : cv = C_price C
  · rw [if_pos h1]
    have hlt : ¬ cv < C_price C := by rw [h1]; exact Int64.lt_irrefl
    by_cases h2 : cn X n = cn (C_cells C) n
    · rw [if_pos (q3.mpr h2)]
      by_cases h3 : ((X &&& (X ^^^ C_cells C)) &&& (-(X ^^^ C_cells C))) = 0
      · rw [if_pos h3]
        constructor
        · intro q; exact absurd rfl q
        · rintro (q | ⟨_, q | ⟨_, q⟩⟩)
          · exact absurd q hlt
          · omega
          · exact absurd h3 (hl.mpr q)
      · rw [if_neg h3]
        exact ⟨fun _ => Or.inr ⟨h1, Or.inr ⟨h2, hl.mp h3⟩⟩, fun _ => by decide⟩
    · rw [if_neg (fun q => h2 (q3.mp q))]
      by_cases h3 : cn X n < cn (C_cells C) n
      · rw [if_pos (q4.mpr h3)]
        exact ⟨fun _ => Or.inr ⟨h1, Or.inl h3⟩, fun _ => by decide⟩
      · rw [if_neg (fun q => h3 (q4.mp q))]
        constructor
        · intro q; exact absurd rfl q
        · rintro (q | ⟨_, q | ⟨q, _⟩⟩)
          · exact absurd q hlt
          · exact absurd q h3
          · exact absurd q h2
  · rw [if_neg h1]
    by_cases h2 : cv < C_price C
    · rw [if_pos h2]
      exact ⟨fun _ => Or.inl h2, fun _ => by decide⟩
    · rw [if_neg h2]
      constructor
      · intro q; exact absurd rfl q
      · rintro (q | ⟨q, _⟩)
        · exact absurd q h2
        · exact absurd q h1
def yC (C : ChoT) : RcT := (C_there C, C_cells C, C_price C)
section RL
variable {S : SeaT} {C : ChoT} {G : GoT} {dr : Int64} {M : ModT} {n : Nat}
def fM (M : ModT) (n : Nat) : Int32 → Int64 := fun X => w_X5_costOf M X n
def pM (M : ModT) (n : Nat) : Int32 → Prop := fun X => ¬ w_X5_stands M X n = 0
theorem con_Bst (h : Rl S C G dr M n) {T : TalT} {C' : ChoT} {s : Nat → Int32} {i : Nat} (hT : Tal S n T) (hs : T_cells T = s i) (hb : ∀ t c, n ≤ c → bt (s t) c = false) (hB : Bst (fM M n) (pM M n) n s i (yC C')) (hC : C_there C' = 0 → C_cells C' = 0 ∧ C_price C' = -1) : Bst (fM M n) (pM M n) n s (i + 1) (yC (w_X4_considerTally_C S T C')) ∧ (C_there (w_X4_considerTally_C S T C') = 0 → C_cells (w_X4_considerTally_C S T C') = 0 ∧ C_price (w_X4_considerTally_C S T C') = -1) := by
  have hp := price_eq h hT
  have hq := stands_eq h hT
  rw [hs] at hp hq
  have ht : yC (w_X0_take_C C' (s i) (w_X5_costOf M (s i) n)) = (1, s i, fM M n (s i)) := rfl
  have ht1 : ¬ C_there (w_X0_take_C C' (s i) (w_X5_costOf M (s i) n)) = 0 := by
    show ¬ (1 : Int32) = 0; decide
  unfold w_X4_considerTally_C
  rw [hp, hq, hs]
  by_cases h0 : C_there C' = 0
  · have e : ¬ w_X0_isBeatenBy C' (s i) (w_X5_costOf M (s i) n) = 0 := by
      unfold w_X0_isBeatenBy; rw [if_pos h0]; decide
    rw [if_neg e]
    by_cases h1 : w_X5_stands M (s i) n = 0
    · rw [if_pos h1]
      exact ⟨Bst_keep hB (Or.inl (fun q => q h1)), hC⟩
    · rw [if_neg h1, ht]
      exact ⟨Bst_take hB h1 (Or.inl h0), fun q => absurd q ht1⟩
  · have hB2 := hB
    rcases hB2 with ⟨b1, _⟩ | ⟨b1, b2, ⟨t, b3, b3'⟩, b4, b5⟩
    · exact absurd b1 h0
    · have b2' : C_price C' = fM M n (C_cells C') := b2
      have b3'' : C_cells C' = s t := b3'
      have e := beat_iff h.1 C' (s i) (w_X5_costOf M (s i) n) h0 (hb i) (by rw [b3'']; exact hb t)
      have e2 : (w_X5_costOf M (s i) n < C_price C' ∨ (w_X5_costOf M (s i) n = C_price C' ∧ Bf (s i) (C_cells C') n)) ↔ LtC (fM M n) n (s i) (C_cells C') := by
        rw [b2']; exact Iff.rfl
      by_cases h2 : w_X0_isBeatenBy C' (s i) (w_X5_costOf M (s i) n) = 0
      · rw [if_pos h2]
        exact ⟨Bst_keep hB (Or.inr ⟨h0, fun q => e.mpr (e2.mpr q) h2⟩), hC⟩
      · rw [if_neg h2]
        by_cases h1 : w_X5_stands M (s i) n = 0
        · rw [if_pos h1]
          exact ⟨Bst_keep hB (Or.inl (fun q => q h1)), hC⟩
        · rw [if_neg h1, ht]
          exact ⟨Bst_take hB h1 (Or.inr (e2.mp (e.mp h2))), fun q => absurd q ht1⟩
theorem rC_Bst (hn : n ≤ 24) (M : ModT) (i : Nat) : Bst (fM M n) (pM M n) n (fun v => rS M n v n) i (rC M n i) := by
  induction i with
  | zero => exact Or.inl ⟨rfl, fun t ht => absurd ht (Nat.not_lt_zero t)⟩
  | succ i ih =>
    have hb := bf_iff hn (rS M n i n) (rC M n i).2.1
    rw [rC]
    unfold rCs
    by_cases h0 : (rC M n i).1 = 0
    · rw [if_pos h0]
      by_cases h1 : w_X5_stands M (rS M n i n) n = 0
      · rw [if_pos h1]; exact Bst_keep ih (Or.inl (fun q => q h1))
      · rw [if_neg h1]; exact Bst_take ih h1 (Or.inl h0)
    · rw [if_neg h0]
      have hB2 := ih
      rcases hB2 with ⟨b1, _⟩ | ⟨b1, b2, _, b4, b5⟩
      · exact absurd b1 h0
      · rw [b2]
        show Bst (fM M n) (pM M n) n (fun v => rS M n v n) (i + 1) (if fM M n (rS M n i n) < fM M n (rC M n i).2.1 then _ else if fM M n (rS M n i n) = fM M n (rC M n i).2.1 then _ else _)
        by_cases h2 : fM M n (rS M n i n) < fM M n (rC M n i).2.1
        · rw [if_pos h2]
          by_cases h1 : w_X5_stands M (rS M n i n) n = 0
          · rw [if_pos h1]; exact Bst_keep ih (Or.inl (fun q => q h1))
          · rw [if_neg h1]; exact Bst_take ih h1 (Or.inr (Or.inl h2))
        · rw [if_neg h2]
          by_cases h3 : fM M n (rS M n i n) = fM M n (rC M n i).2.1
          · rw [if_pos h3]
            by_cases h4 : w_X5_isBefore (rS M n i n) (rC M n i).2.1 n = 0
            · rw [if_pos h4]
              refine Bst_keep ih (Or.inr ⟨h0, ?_⟩)
              rintro (q | ⟨_, q⟩)
              · exact h2 q
              · exact hb.mpr q h4
            · rw [if_neg h4]
              by_cases h1 : w_X5_stands M (rS M n i n) n = 0
              · rw [if_pos h1]; exact Bst_keep ih (Or.inl (fun q => q h1))
              · rw [if_neg h1]; exact Bst_take ih h1 (Or.inr (Or.inr ⟨h3, hb.mp h4⟩))
          · rw [if_neg h3]
            refine Bst_keep ih (Or.inr ⟨h0, ?_⟩)
            rintro (q | ⟨q, _⟩)
            · exact h2 q
            · exact h3 q
theorem sr_inv (h : Rl S C G dr M n) (T : TalT) (C0 : ChoT) (hc1 : C_there C0 = 0) (hc2 : C_cells C0 = 0) (hc3 : C_price C0 = -1) (hm : cn (w_X2_freeSet S) n ≤ 12) (i : Nat) (hi : i < 2 ^ cn (w_X2_freeSet S) n) :
    Tal S n (sr S n (sr0 S T C0 n) (i + 1)).1 ∧ T_cells (sr S n (sr0 S T C0 n) (i + 1)).1 = rS M n (gr i) n ∧ Bst (fM M n) (pM M n) n (fun t => rS M n (gr t) n) (i + 1) (yC (sr S n (sr0 S T C0 n) (i + 1)).2) ∧ (C_there (sr S n (sr0 S T C0 n) (i + 1)).2 = 0 → C_cells (sr S n (sr0 S T C0 n) (i + 1)).2 = 0 ∧ C_price (sr S n (sr0 S T C0 n) (i + 1)).2 = -1) := by
  have hn := h.1
  have h12 := m2_pos hm
  induction i with
  | zero =>
    rw [sr, if_pos rfl]
    have hT := (bgT_Tal (rl_sym h) h.1 T (S_needed S) n (Nat.le_refl n)).1
    have hc := bgT_set (rl_sym h) h.1 T (set := S_needed S) (ne_hi h)
    have e0 : T_cells (bgT S T n (S_needed S) n) = rS M n (gr 0) n := by
      rw [hc]; exact (rS_0 h).symm
    have hB : Bst (fM M n) (pM M n) n (fun t => rS M n (gr t) n) 0 (yC C0) := Or.inl ⟨hc1, fun t ht => absurd ht (Nat.not_lt_zero t)⟩
    obtain ⟨k1, k2⟩ := con_Bst h (s := fun t => rS M n (gr t) n) hT e0 (fun t => rS_hi hn (gr t)) hB (fun _ => ⟨hc2, hc3⟩)
    exact ⟨hT, e0, k1, k2⟩
  | succ i ih =>
    obtain ⟨i1, i2, i3, i4⟩ := ih (by omega)
    rw [sr, if_neg (by omega)]
    generalize sr S n (sr0 S T C0 n) (i + 1) = y at i1 i2 i3 i4
    obtain ⟨g1, g2⟩ := gr_step (i := i + 1) (by omega) (by omega)
    have hp : plN (i + 1) < cn (w_X2_freeSet S) n := (Nat.pow_lt_pow_iff_right (a := 2) (by omega)).mp (by omega)
    unfold srs
    rw [if_pos hp]
    have hT := ex_Tal (rl_sym h) hn (fcN_lt _ hp) i1
    have e0 : T_cells (ex_T S y.1 n (fcN (w_X2_freeSet S) n (plN (i + 1)))) = rS M n (gr (i + 1)) n := by
      rw [ex_cells, i2, g1, rS_flip h _ hp]; rfl
    obtain ⟨k1, k2⟩ := con_Bst h (s := fun t => rS M n (gr t) n) hT e0 (fun t => rS_hi hn (gr t)) i3 i4
    exact ⟨hT, e0, k1, k2⟩
theorem best_eq (h : Rl S C G dr M n) (T : TalT) (C0 : ChoT) (hc1 : C_there C0 = 0) (hc2 : C_cells C0 = 0) (hc3 : C_price C0 = -1) (hm : cn (w_X2_freeSet S) n ≤ 12) {R : ChoT} (hR : R = (sr S n (sr0 S T C0 n) (2 ^ cn (w_X2_freeSet S) n)).2) {Q : RcT} (hQ : Q = rC M n (2 ^ cn (w_X2_freeSet S) n)) :
    (C_there R = 0 ∧ Q.1 = 0 ∧ C_cells R = 0 ∧ C_price R = -1) ∨ (C_there R = 1 ∧ Q.1 = 1 ∧ C_cells R = Q.2.1 ∧ C_price R = Q.2.2 ∧ ∀ c, n ≤ c → bt (C_cells R) c = false) := by
  have hn := h.1
  have h12 := m2_pos hm
  have hpos : 0 < 2 ^ cn (w_X2_freeSet S) n := Nat.pow_pos (by omega)
  obtain ⟨_, _, k3, k4⟩ := sr_inv h T C0 hc1 hc2 hc3 hm (2 ^ cn (w_X2_freeSet S) n - 1) (by omega)
  rw [show 2 ^ cn (w_X2_freeSet S) n - 1 + 1 = 2 ^ cn (w_X2_freeSet S) n by omega, ← hR] at k3 k4
  have l3 := rC_Bst hn M (2 ^ cn (w_X2_freeSet S) n)
  rw [← hQ] at l3
  have hu := Bst_uniq k3 l3 (fun t ht => ⟨gr t, gr_lt ht, rfl⟩) (fun t ht => ⟨ig t, ig_lt ht, by rw [ig_ok (by omega)]⟩)
  rcases hu with ⟨u1, u2⟩ | ⟨u1, u2, u3, u4⟩
  · exact Or.inl ⟨u1, u2, (k4 u1).1, (k4 u1).2⟩
  · refine Or.inr ⟨u1, u2, u3, u4, ?_⟩
    rcases k3 with ⟨b1, _⟩ | ⟨_, _, ⟨t, _, b3⟩, _, _⟩
    · exfalso
      have : C_there R = 1 := u1
      have b1' : C_there R = 0 := b1
      rw [this] at b1'
      exact absurd b1' (by decide)
    · have b3' : C_cells R = rS M n (gr t) n := b3
      rw [b3']
      exact rS_hi hn (gr t)
/-- the reference's state after the clashes -/
theorem rA_same (M : ModT) (n i : Nat) : Same M (rA M n i) ∧ M_hasRun (rA M n i) = 1 ∧ M_draw (rA M n i) = M_draw M ∧ M_hasChoice (rA M n i) = M_hasChoice M ∧ M_choice (rA M n i) = M_choice M := by
  induction i with
  | zero =>
    rw [rA]
    refine ⟨Same_trans (Same_hasRun M 1) (Same_clashes _ 0), ?_, ?_, ?_, ?_⟩
    · rw [d_hasRun_clashes, d_hasRun_hasRun]
    · rw [d_draw_clashes, d_draw_hasRun]
    · rw [d_hasChoice_clashes, d_hasChoice_hasRun]
    · rw [d_choice_clashes, d_choice_hasRun]
  | succ i ih =>
    obtain ⟨h1, h2, h3, h4, h5⟩ := ih
    have key : ∀ v, Same M (sM_clashes (rA M n i) v) ∧ M_hasRun (sM_clashes (rA M n i) v) = 1 ∧ M_draw (sM_clashes (rA M n i) v) = M_draw M ∧ M_hasChoice (sM_clashes (rA M n i) v) = M_hasChoice M ∧ M_choice (sM_clashes (rA M n i) v) = M_choice M := by
      intro v
      rw [d_hasRun_clashes, d_draw_clashes, d_hasChoice_clashes, d_choice_clashes]
      exact ⟨Same_trans h1 (Same_clashes _ v), h2, h3, h4, h5⟩
    rw [rA]
    split
    · exact key _
    · exact key _
theorem rA_cl (h : Rl S C G dr M n) (T : TalT) (i : Nat) (hi : i ≤ 8) : M_clashes (rA M n i) = fcl S (bgT S T n (w_X2_openSet S) n) i := by
  have hT := (bgT_Tal (rl_sym h) h.1 T (w_X2_openSet S) n (Nat.le_refl n)).1
  have hc := bgT_set (rl_sym h) h.1 T (set := w_X2_openSet S) (fun c hc => op_hi h.1 h.2.1 hc)
  have ho := open_eq h
  generalize bgT S T n (w_X2_openSet S) n = T1 at hT hc
  induction i with
  | zero => rw [rA, fcl, d_clashes_clashes]
  | succ i ih =>
    have hs := (rA_same M n i).1
    rw [rA, fcl, same_me hs, same_opn hs, ← ho, ← hc, ← meets_eq h hT (show i < 8 by omega), ih (by omega)]
    split
    · rw [d_clashes_clashes]
    · rw [d_clashes_clashes]
theorem fcl_hi (S : SeaT) (T : TalT) (i : Nat) (hi : i ≤ 8) : ∀ c, i ≤ c → bt (fcl S T i) c = false := by
  induction i with
  | zero => intro c _; rw [fcl]; exact b_0 c
  | succ i ih =>
    intro c hc
    rcases Nat.lt_or_ge c 32 with q | q
    · rw [fcl]
      split
      · rw [b_set _ (by omega) q, ih (by omega) c (by omega), decide_eq_false (by omega)]; rfl
      · exact ih (by omega) c (by omega)
    · exact b_big q
theorem ways_c : ∀ m, m < 25 → (4096 < lN (2 ^ m) ↔ 12 < nI m) ∧ (12 < nI m ↔ 12 < m) := by decide +kernel
theorem f_cm_eq (h : Rl S C G dr M n) {M' : ModT} (hs : Same M M') : sm (f_costsOf S (S_needed S)) n = sm (f_cm M') n := by
  have hn := h.1
  refine sm_congr (fun c hc => ?_)
  unfold f_costsOf f_cm
  rw [hs.2.1, hs.2.2.1, st_ne h hc, (h.2.2.2.1 c (by omega)).1]
  by_cases q : M_states M c = 1
  · rw [decide_eq_true q, if_pos rfl, if_pos q]
  · rw [decide_eq_false q, if_neg (by decide), if_neg q]
/-- the last stores of run -/
theorem Rl_end (h : Rl S C G dr M n) (T : TalT) {is_ X : Int32} {cv bv : Int64} {av : Int32} {C' : ChoT} (hav : av = 0 ∨ av = 1 ∨ av = 2)
    (hC : ∀ c, n ≤ c → bt (C_cells C') c = false) (hch : (C_there C' = 0 ∧ is_ = 0 ∧ C_cells C' = 0 ∧ C_price C' = -1) ∨ (C_there C' = 1 ∧ is_ = 1 ∧ C_cells C' = X ∧ C_price C' = cv)) :
    Rl S C' (sG_toldBound (sG_runAnswer (sG_cellsBefore (sG_clashingKinds G (fcl S (bgT S T n (w_X2_openSet S) n) 8)) (C_cells C)) av) bv) dr (sM_answer (sM_bound (w_X5_become_M (rA M n 8) is_ X cv) bv) av) n := by
  obtain ⟨a1, a2, a3, a4, a5, a6, a7⟩ := Rl_dy h
  obtain ⟨r1, r2, r3, r4, r5⟩ := rA_same M n 8
  have r6 := rA_cl h T 8 (Nat.le_refl 8)
  have hf := fcl_hi S (bgT S T n (w_X2_openSet S) n) 8 (Nat.le_refl 8)
  generalize fcl S (bgT S T n (w_X2_openSet S) n) 8 = cl at r6 hf
  generalize rA M n 8 = M1 at r1 r2 r3 r4 r5 r6
  have eb : w_X5_become_M M1 is_ X cv = bec M1 is_ X cv (C_cells C) := by
    rw [← ear_eq h, ← r4, ← r5]
    unfold w_X5_become_M bec
    by_cases q : M_hasChoice M1 = 0
    · rw [if_pos q, if_pos q]
    · rw [if_neg q, if_neg q]
  rw [eb]
  obtain ⟨g1, g2, g3, g4, g5, g6, g7, g8, g9, g10⟩ := bec_g M1 is_ X cv (C_cells C)
  have hs := Same_trans r1 (Same_bec M1 is_ X cv (C_cells C))
  generalize bec M1 is_ X cv (C_cells C) = M2 at g1 g2 g3 g4 g5 g6 g7 g8 g9 hs
  refine Rl_of h (Same_trans (Same_trans hs (Same_bound M2 bv)) (Same_answer _ av)) hC ?_ ?_ ?_ ?_ ?_ ?_
  · exact a1
  · rw [d_draw_answer, d_draw_bound, g1, r3]; exact a3
  · rw [d_hasChoice_answer, d_hasChoice_bound, d_choice_answer, d_choice_bound, d_cost_answer, d_cost_bound, g2, g3, g5]; exact hch
  · rw [d_earlier_answer, d_earlier_bound, g4]; rfl
  · refine Or.inr ⟨?_, ?_, ?_, ?_, ?_⟩
    · rw [d_hasRun_answer, d_hasRun_bound, g6, r2]; decide
    · rw [d_answer_answer]; rfl
    · rw [d_answer_answer]; exact hav
    · rw [d_bound_answer, d_bound_bound]; rfl
    · rw [d_clashes_answer, d_clashes_bound, g9, r6]; rfl
  · rw [d_clashes_answer, d_clashes_bound, g9, r6]; exact hf
theorem rl_run (h : Rl S C G dr M n) (T : TalT) (tr : Int64) (F : Nat → Int32) (z0 : Int64) : w_X4_run S T C z0 n = w_X5_run M n z0 ∧ ∃ n2, Rl S (w_X4_run_C S T C z0 n) (w_X4_run_G S T C G z0 n) dr (w_X5_run_M M n z0) n2 := by
  have hn := h.1
  have hs := (rA_same M n 8).1
  have hle := cn_le (w_X2_freeSet S) n
  have e1 : fr_n (rA M n 8) n = cn (w_X2_freeSet S) n := by
    unfold fr_n; rw [same_qfr hs]; exact cq_cn h (Nat.le_refl n)
  have e2 := fr_bc h
  obtain ⟨w1, w2⟩ := ways_c (cn (w_X2_freeSet S) n) (by omega)
  have e3 := lh_nI (cn (w_X2_freeSet S) n) (by omega)
  unfold w_X4_run w_X4_run_C w_X4_run_G w_X5_run w_X5_run_M
  rw [e1, e2, same_rC hs]
  have two : ∀ X Y : Int32, Rl S (w_X0_clear_C C) (sG_toldBound (sG_runAnswer (sG_cellsBefore (sG_clashingKinds G (fcl S (bgT S T n (w_X2_openSet S) n) 8)) (C_cells C)) 2) (sm (f_costsOf S (S_needed S)) n)) dr (w_X5_run_2 M n) n := by
    intro X Y
    rw [f_cm_eq h hs]
    exact Rl_end h T (Or.inr (Or.inr rfl)) (fun c _ => b_0 c) (Or.inl ⟨rfl, rfl, rfl, rfl⟩)
  by_cases c1 : z0 < lh 1 (nI (cn (w_X2_freeSet S) n))
  · by_cases c2 : 12 < nI (cn (w_X2_freeSet S) n)
    · simp only [if_pos c1, if_pos c2]; exact ⟨trivial, n, two 0 0⟩
    · simp only [if_pos c1, if_neg c2]; exact ⟨trivial, n, two 0 0⟩
  · by_cases c2 : 12 < nI (cn (w_X2_freeSet S) n)
    · have c3 : 4096 < lh 1 (nI (cn (w_X2_freeSet S) n)) := by rw [e3]; exact w1.mpr c2
      simp only [if_neg c1, if_pos c2, if_pos c3]; exact ⟨trivial, n, two 0 0⟩
    · have c3 : ¬ 4096 < lh 1 (nI (cn (w_X2_freeSet S) n)) := by rw [e3]; exact fun q => c2 (w1.mp q)
      simp only [if_neg c1, if_neg c2, if_neg c3]
      have hm : cn (w_X2_freeSet S) n ≤ 12 := by
        rcases Nat.lt_or_ge 12 (cn (w_X2_freeSet S) n) with q | q
        · exact absurd (w2.mpr q) c2
        · exact q
      have hB := best_eq h (bgT S T n (w_X2_openSet S) n) (w_X0_clear_C C) rfl rfl rfl hm rfl rfl
      generalize (sr S n (sr0 S (bgT S T n (w_X2_openSet S) n) (w_X0_clear_C C) n) (2 ^ cn (w_X2_freeSet S) n)).2 = R at hB
      generalize rC M n (2 ^ cn (w_X2_freeSet S) n) = Q at hB
      rcases hB with ⟨b1, b2, b3, b4⟩ | ⟨b1, b2, b3, b4, b5⟩
      · simp only [if_pos b1, if_pos b2]
        refine ⟨trivial, n, ?_⟩
        rw [b4]
        exact Rl_end h T (Or.inr (Or.inl rfl)) (by rw [b3]; exact fun c _ => b_0 c) (Or.inl ⟨b1, b2, b3, b4⟩)
      · have n1 : ¬ C_there R = 0 := by rw [b1]; decide
        have n2 : ¬ Q.1 = 0 := by rw [b2]; decide
        simp only [if_neg n1, if_neg n2]
        refine ⟨trivial, n, ?_⟩
        rw [b4]
        exact Rl_end h T (Or.inl rfl) b5 (Or.inr ⟨b1, b2, b3, b4⟩)
end RL
