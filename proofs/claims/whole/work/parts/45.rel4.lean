/-! the sets of cells; zone, year, unlike -/
theorem b_mask : ∀ n, n < 31 → ∀ c, c < 32 → bt (((1 : Int32) <<< (nI n &&& 31)) - 1) c = decide (c < n) := by decide +kernel
theorem lh_nI : ∀ m, m < 31 → lh 1 (nI m) = lN (2 ^ m) := by decide +kernel
theorem cq_congr {q r : Nat → Bool} {n : Nat} (h : ∀ c, c < n → q c = r c) : cq q n = cq r n := by
  induction n with
  | zero => rfl
  | succ n ih => rw [cq, cq, ih (fun c hc => h c (by omega)), h n (by omega)]
theorem cn_cq (x : Int32) (n : Nat) : cn x n = cq (bt x) n := by
  induction n with
  | zero => rfl
  | succ n ih => rw [cn, cq, ih]
theorem hb_val (x : Int32) {c : Nat} (hc : c < 32) : w_hasBit x (nI c) = if bt x c then 1 else 0 := by
  cases e : bt x c with
  | false => rw [(hb0 x hc).mpr e]; rfl
  | true =>
    have h := (hb1 x hc).mpr e
    unfold w_hasBit at h ⊢
    by_cases h1 : (iu x (nI c) &&& 1) = 0
    · rw [if_pos h1] at h; exact absurd rfl h
    · rw [if_neg h1]; rfl
theorem mb_val (x : Int32) {c : Nat} (hc : c < 32) : w_X5_has x (nI c) = if bt x c then 1 else 0 := by
  cases e : bt x c with
  | false => rw [(mb0 x hc).mpr e]; rfl
  | true =>
    have h := (mb1 x hc).mpr e
    unfold w_X5_has at h ⊢
    by_cases h1 : ((x >>> (nI c &&& 31)) &&& 1) = 1
    · rw [if_pos h1]; rfl
    · rw [if_neg h1] at h; exact absurd rfl h
section RL
variable {S : SeaT} {C : ChoT} {G : GoT} {dr : Int64} {M : ModT} {n : Nat}
theorem op_bt (hn : n ≤ 24) (hcx : S_cells S = nI n) {c : Nat} (hc : c < 32) : bt (w_X2_openSet S) c = (decide (c < n) && !bt (S_barred S) c) := by
  unfold w_X2_openSet
  rw [hcx, b_and, b_mask n (by omega) c hc, b_not _ hc]
theorem fr_bt (hn : n ≤ 24) (hcx : S_cells S = nI n) {c : Nat} (hc : c < 32) : bt (w_X2_freeSet S) c = (decide (c < n) && !bt (S_barred S) c && !bt (S_needed S) c) := by
  unfold w_X2_freeSet
  rw [b_and, op_bt hn hcx hc, b_not _ hc]
theorem op_hi (hn : n ≤ 24) (hcx : S_cells S = nI n) {c : Nat} (hc : n ≤ c) : bt (w_X2_openSet S) c = false := by
  rcases Nat.lt_or_ge c 32 with h | h
  · rw [op_bt hn hcx h, decide_eq_false (by omega)]; rfl
  · exact b_big h
theorem fr_hi (hn : n ≤ 24) (hcx : S_cells S = nI n) {c : Nat} (hc : n ≤ c) : bt (w_X2_freeSet S) c = false := by
  rcases Nat.lt_or_ge c 32 with h | h
  · rw [fr_bt hn hcx h, decide_eq_false (by omega)]; rfl
  · exact b_big h
theorem fr_st (h : Rl S C G dr M n) {c : Nat} (hc : c < n) : bt (w_X2_freeSet S) c = decide (M_states M c = 0) := by
  obtain ⟨hn, hcx, hcm, hco, ham, hho, hbo, hfa, hkt, hpt, hgo, hfr, hwt, hle, hst, hrest⟩ := h
  rw [fr_bt hn hcx (by omega), (hst c hc).1, (hst c hc).2.1, decide_eq_true hc]
  rcases (hst c hc).2.2 with h1 | h1 | h1 <;> rw [h1] <;> rfl
theorem op_st (h : Rl S C G dr M n) {c : Nat} (hc : c < n) : bt (w_X2_openSet S) c = !decide (M_states M c = 2) := by
  obtain ⟨hn, hcx, hcm, hco, ham, hho, hbo, hfa, hkt, hpt, hgo, hfr, hwt, hle, hst, hrest⟩ := h
  rw [op_bt hn hcx (by omega), (hst c hc).2.1, decide_eq_true hc]
  rfl
theorem fr_bc (h : Rl S C G dr M n) : w_bitCount (w_X2_freeSet S) = nI (cn (w_X2_freeSet S) n) := bc_n (by have := h.1; omega) (fun _ hc => fr_hi h.1 h.2.1 hc)
theorem rl_hbc (h : Rl S C G dr M n) : ¬ 4096 < lh 1 (w_bitCount (w_X2_freeSet S)) → cn (w_X2_freeSet S) n ≤ 12 := by
  intro h1
  have h2 := cn_le (w_X2_freeSet S) n
  have hn := h.1
  rw [fr_bc h, lh_nI _ (by omega)] at h1
  rcases Nat.lt_or_ge 12 (cn (w_X2_freeSet S) n) with h3 | h3
  · exfalso
    apply h1
    have h4 : 2 ^ 13 ≤ 2 ^ cn (w_X2_freeSet S) n := Nat.pow_le_pow_right (by omega) h3
    have h5 : 2 ^ cn (w_X2_freeSet S) n ≤ 2 ^ 24 := Nat.pow_le_pow_right (by omega) (by omega)
    exact (pk_lLT (a := 4096) (b := 2 ^ cn (w_X2_freeSet S) n) (by omega) (by omega)).mpr (by omega)
  · exact h3
theorem ch_cases (h : Rl S C G dr M n) : (C_there C = 0 ∧ M_hasChoice M = 0 ∧ C_cells C = 0 ∧ C_price C = -1) ∨ (C_there C = 1 ∧ M_hasChoice M = 1 ∧ C_cells C = M_choice M ∧ C_price C = M_cost M) := by
  obtain ⟨hn, hcx, hcm, hco, ham, hho, hbo, hfa, hkt, hpt, hgo, hfr, hwt, hle, hst, hsz, hbz, hdr, hch, hrest⟩ := h
  exact hch
theorem am_eq (h : Rl S C G dr M n) {c q : Nat} (hc : c < 24) (hq : q < 8) : S_amounts S (c * 8 + q) = M_amounts M (24 * q + c) := (h.2.2.2.2.1 c q hc hq).1
theorem rl_zone (h : Rl S C G dr M n) (T : TalT) (tr : Int64) (F : Nat → Int32) (z0 : Int32) (z1 : Int32) : w_X4_zone S C z0 z1 n = w_X5_zone M z0 z1 n ∧ ∃ n2, Rl S C G dr M n2 := by
  refine ⟨?_, n, h⟩
  unfold w_X4_zone w_X5_zone
  rw [show w_X5_isKind z1 = w_isKind z1 from rfl]
  by_cases h1 : z0 < 0
  · rw [if_pos h1, if_pos h1]
  · rw [if_neg h1, if_neg h1]
    by_cases h2 : z0 < 4
    · obtain ⟨hz, ez⟩ := tn_of (x := z0) (n := 4) (by omega) h1 (fun q => absurd h2 (Int32.not_lt.mpr q))
      have h3 : ¬ 3 < z0 := by
        rw [ez]
        exact nI_nlt (a := 3) (b := tn z0) (by omega) (by omega)
      rw [if_pos h2, if_neg h3]
      by_cases h4 : w_isKind z1 = 0
      · rw [if_pos h4, if_pos h4]
      · obtain ⟨hk, ek⟩ := kiJ h4
        rw [if_neg h4, if_neg h4]
        rcases ch_cases h with ⟨c1, c2, c3, c4⟩ | ⟨c1, c2, c3, c4⟩
        · rw [if_pos c1, if_pos c2]
        · rw [if_neg (by rw [c1]; decide), if_neg (by rw [c2]; decide)]
          congr 1
          refine cq_congr (fun c hc => ?_)
          have hn := h.1
          unfold q_zone q_zm
          rw [c3, am_eq h (by omega) hk]
          have e : decide (nI (c % 4) = z0) = decide (c % 4 = tn z0) := by
            rw [ez, tn_nI (by omega)]
            by_cases e1 : c % 4 = tn z0
            · rw [e1]; simp
            · rw [decide_eq_false e1, decide_eq_false (fun q => e1 ((nI_eq (by omega) (by omega)).mp q))]
          rw [e]
          cases decide (c % 4 = tn z0) <;> cases bt (M_choice M) c <;> rfl
    · have h3 : 3 < z0 := by
        rcases pk_ix z0 (n := 4) (by omega) with q | q | ⟨j, hj, rfl⟩
        · exact absurd q h1
        · exact Int32.lt_of_lt_of_le (by decide) q
        · exact absurd (nI_lt (a := j) (b := 4) hj (by omega)) h2
      rw [if_neg h2, if_pos h3]
theorem rl_year (h : Rl S C G dr M n) (T : TalT) (tr : Int64) (F : Nat → Int32) (z0 : Int32) : w_X4_year S C z0 n = w_X5_year M z0 n ∧ ∃ n2, Rl S C G dr M n2 := by
  refine ⟨?_, n, h⟩
  have hc := (rl_chosen h T tr F z0).1
  unfold w_X4_year w_X5_year
  rw [← hc]
  unfold w_X4_chosen
  by_cases h1 : w_hasCell (S_cells S) z0 = 0
  · rw [if_pos h1, if_pos h1]; rfl
  · rw [if_neg h1, if_neg h1]
    by_cases h2 : w_hasBit (C_cells C) z0 = 0
    · rw [if_pos h2, if_pos h2]; rfl
    · rw [if_neg h2, if_neg h2, if_neg (by decide)]
      obtain ⟨hj, ej⟩ := hcJ h.1 h.2.1 h1
      have hn := h.1
      have hch : C_cells C = M_choice M := by
        rcases ch_cases h with ⟨c1, c2, c3, c4⟩ | ⟨c1, c2, c3, c4⟩
        · exfalso
          apply h2
          rw [c3, ej]
          exact (hb0 0 (by omega)).mpr (b_0 _)
        · exact c3
      have hco := h.2.2.2.1
      have key : ∀ i, i ≤ n → yr S C z0 (tn z0) i = cq (q_yr M z0) i := by
        intro i
        induction i with
        | zero => intro _; rfl
        | succ i ih =>
          intro hi
          rw [yr, cq, ih (by omega)]
          unfold q_yr w_X2_comesBefore
          rw [hch, (hco i (by omega)).1, (hco (tn z0) (by omega)).1]
          cases bt (M_choice M) i with
          | false => rfl
          | true =>
            by_cases q1 : M_costs M i < M_costs M (tn z0)
            · simp [q1]
            · by_cases q2 : M_costs M i = M_costs M (tn z0)
              · by_cases q3 : nI i < z0
                · simp [q2, q3]
                · simp [q2, q3]
              · simp [q1, q2]
      rw [key n (Nat.le_refl n)]
theorem rl_unlike (h : Rl S C G dr M n) (T : TalT) (tr : Int64) (F : Nat → Int32) (z0 : Int32) : w_X4_unlike C G z0 = w_X5_unlike M z0 ∧ ∃ n2, Rl S C G dr M n2 := by
  refine ⟨?_, n, h⟩
  unfold w_X4_unlike w_X5_unlike
  by_cases h1 : z0 < 0
  · rw [if_pos h1, if_pos h1]
  · by_cases h2 : 24 < z0
    · rw [if_neg h1, if_neg h1, if_pos h2, if_pos h2]
    · rw [if_neg h1, if_neg h1, if_neg h2, if_neg h2]
      obtain ⟨hz, ez⟩ := tn_of (x := z0) (n := 25) (by omega) h1 (fun q => h2 (Int32.lt_of_lt_of_le (by decide) q))
      have hu : uA M = C_cells C := by
        unfold uA
        rcases ch_cases h with ⟨c1, c2, c3, c4⟩ | ⟨c1, c2, c3, c4⟩
        · rw [if_pos c2, c3]
        · rw [if_neg (by rw [c2]; decide), c3]
      have he : G_cellsBefore G = M_earlier M := by
        obtain ⟨hn, hcx, hcm, hco, ham, hho, hbo, hfa, hkt, hpt, hgo, hfr, hwt, hle, hst, hsz, hbz, hdr, hch, hea, hrest⟩ := h
        exact hea
      have hm : (((1 : Int32) <<< (z0 &&& 31)) - 1) = ((1 : Int32) <<< (nI (tn z0) &&& 31)) - 1 := by rw [← ez]
      rw [hm]
      generalize tn z0 = N at hz
      rw [bc_n (n := N) (by omega) (fun c hc => by
        rcases Nat.lt_or_ge c 32 with q | q
        · rw [b_and, b_mask N (by omega) c q, decide_eq_false (by omega), Bool.and_false]
        · exact b_big q), cn_cq]
      congr 1
      refine cq_congr (fun c hc => ?_)
      unfold q_un
      rw [b_and, b_mask N (by omega) c (by omega), decide_eq_true hc, Bool.and_true, b_xor, hu, ← he, mb_val _ (by omega), mb_val _ (by omega)]
      cases bt (C_cells C) c <;> cases bt (G_cellsBefore G) c <;> decide
end RL
