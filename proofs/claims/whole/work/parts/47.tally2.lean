/-! exchange and begin keep the tally true; what stands, and what it costs -/
theorem ex_cells (S : SeaT) (T : TalT) (n j : Nat) : T_cells (ex_T S T n j) = T_cells T ^^^ (1 <<< (nI j &&& 31)) := rfl
theorem oth_bt (T : TalT) {j c : Nat} (hj : j < 32) (hc : c < 32) : bt (othT T j) c = (bt (T_cells T) c && !decide (c = j)) := b_clr _ hj hc
theorem ex_Tal {S : SeaT} {T : TalT} {n j : Nat} (hs : Sym S) (hn : n ≤ 24) (hj : j < n) (h : Tal S n T) : Tal S n (ex_T S T n j) := by
  obtain ⟨h1, h2, h3, h4, ⟨m, h5, h6⟩, h7⟩ := h
  have hX' : ∀ c, c < n → bt (T_cells T ^^^ (1 <<< (nI j &&& 31))) c = (bt (T_cells T) c ^^ decide (c = j)) := fun c hc => b_flip _ (by omega) (by omega)
  have hoth : ∀ c, c < n → bt (othT T j) c = (bt (T_cells T) c && !decide (c = j)) := fun c hc => oth_bt T (by omega) (by omega)
  have hoj : bt (othT T j) j = false := by rw [hoth j hj]; simp
  have hbc : w_bitCount (S_tooFar S j &&& othT T j) = nI (far2 S (othT T j) j n) := by
    rw [bc_n (n := n) (by omega) (fun c hc => by
      rw [b_and]
      rcases Nat.lt_or_ge c 32 with q | q
      · rw [oth_bt T (by omega) q, h7 c hc]; simp
      · rw [b_big (x := othT T j) q]; simp), cn_cq]
    unfold far2
    congr 1
    exact cq_congr (fun c hc => by rw [b_and]; cases bt (S_tooFar S j) c <;> cases bt (othT T j) c <;> rfl)
  have hle : far2 S (othT T j) j n ≤ n := cq_le _ n
  refine ⟨?_, fun q hq => ?_, fun q hq => ?_, ?_, ?_, fun c hc => ?_⟩
  · show T_cellCosts T + (Int32.toInt64 (sgI T j) * S_costs S j) = sm (f_costsOf S (T_cells T ^^^ (1 <<< (nI j &&& 31)))) n
    unfold f_costsOf
    rw [sm_flip hj hX', sg_mul, h1]
    rfl
  · show exA S T j 8 q = sm (fun c => if bt (T_cells T ^^^ (1 <<< (nI j &&& 31))) c then S_amounts S (c * 8 + q) else 0) n
    rw [exA_at S T j hq, sm_flip (f := fun c => S_amounts S (c * 8 + q)) hj hX', sg_mul, h2 q hq]
  · show exH S T j 4 q = sm (fun c => if bt (T_cells T ^^^ (1 <<< (nI j &&& 31))) c then S_hours S (c * 4 + q) else 0) n
    rw [exH_at S T j hq, sm_flip (f := fun c => S_hours S (c * 4 + q)) hj hX', sg_mul, h3 q hq]
  · show T_borderLength T + (Int32.toInt64 (sgI T j) * sm (f_bg S j (othT T j)) n) = bl S (T_cells T ^^^ (1 <<< (nI j &&& 31))) n
    rw [sg_mul, h4]
    cases hb : bt (T_cells T) j with
    | false =>
      have e1 : bl S (T_cells T) n = bl S (othT T j) n := bl_congr (fun c hc => by
        rw [hoth c hc]
        by_cases q : c = j
        · subst q; rw [hb]; rfl
        · simp [q])
      rw [e1, bl_add (X := othT T j) (X' := T_cells T ^^^ (1 <<< (nI j &&& 31))) hs hn hj hoj (fun c hc => by
        rw [hX' c hc, hoth c hc]
        by_cases q : c = j
        · subst q; rw [hb]; simp
        · simp [q])]
      simp
    | true =>
      have e1 : bl S (T_cells T ^^^ (1 <<< (nI j &&& 31))) n = bl S (othT T j) n := bl_congr (fun c hc => by
        rw [hoth c hc, hX' c hc]
        by_cases q : c = j
        · subst q; rw [hb]; simp
        · simp [q])
      rw [e1, bl_add (X := othT T j) (X' := T_cells T) hs hn hj hoj (fun c hc => by
        rw [hoth c hc]
        by_cases q : c = j
        · subst q; rw [hb]; simp
        · simp [q])]
      simp
      grind
  · show ∃ m', T_farPairs T + (sgI T j * w_bitCount (S_tooFar S j &&& othT T j)) = nI m' ∧ 2 * m' = P2 S (T_cells T ^^^ (1 <<< (nI j &&& 31))) n
    rw [hbc, h5]
    cases hb : bt (T_cells T) j with
    | false =>
      have e1 : P2 S (T_cells T) n = P2 S (othT T j) n := P2_congr (fun c hc => by
        rw [hoth c hc]
        by_cases q : c = j
        · subst q; rw [hb]; rfl
        · simp [q])
      refine ⟨m + far2 S (othT T j) j n, ?_, ?_⟩
      · rw [sgI, hb]
        show nI m + 1 * nI _ = _
        rw [Int32.one_mul, nI_add]
      · rw [P2_add (X := othT T j) (X' := T_cells T ^^^ (1 <<< (nI j &&& 31))) hs hn hj hoj (fun c hc => by
          rw [hX' c hc, hoth c hc]
          by_cases q : c = j
          · subst q; rw [hb]; simp
          · simp [q]), ← e1]
        omega
    | true =>
      have e1 : P2 S (T_cells T ^^^ (1 <<< (nI j &&& 31))) n = P2 S (othT T j) n := P2_congr (fun c hc => by
        rw [hoth c hc, hX' c hc]
        by_cases q : c = j
        · subst q; rw [hb]; simp
        · simp [q])
      have e2 := P2_add (X := othT T j) (X' := T_cells T) hs hn hj hoj (fun c hc => by
        rw [hoth c hc]
        by_cases q : c = j
        · subst q; rw [hb]; simp
        · simp [q])
      refine ⟨m - far2 S (othT T j) j n, ?_, ?_⟩
      · rw [sgI, hb, ← pk_sub (by omega)]
        show nI m + (-1) * nI _ = _
        grind
      · rw [e1]; omega
  · show bt (T_cells T ^^^ (1 <<< (nI j &&& 31))) c = false
    rcases Nat.lt_or_ge c 32 with q | q
    · rw [b_flip _ (by omega) q, h7 c hc, decide_eq_false (by omega)]; rfl
    · exact b_big q
theorem bgA_at (T : TalT) (N : Nat) : ∀ q, bgA T N q = if q < N then 0 else T_amounts T q := by
  induction N with
  | zero => intro q; simp [bgA]
  | succ N ih =>
    intro q
    rw [bgA]
    unfold vp_updL
    by_cases h : q = N
    · rw [if_pos h, if_pos (by omega)]
    · rw [if_neg h, ih]
      by_cases h1 : q < N
      · rw [if_pos h1, if_pos (by omega)]
      · rw [if_neg h1, if_neg (by omega)]
theorem bgH_at (T : TalT) (N : Nat) : ∀ q, bgH T N q = if q < N then 0 else T_hours T q := by
  induction N with
  | zero => intro q; simp [bgH]
  | succ N ih =>
    intro q
    rw [bgH]
    unfold vp_updL
    by_cases h : q = N
    · rw [if_pos h, if_pos (by omega)]
    · rw [if_neg h, ih]
      by_cases h1 : q < N
      · rw [if_pos h1, if_pos (by omega)]
      · rw [if_neg h1, if_neg (by omega)]
theorem bgC_Tal (S : SeaT) (T : TalT) (n : Nat) : Tal S n (bgC T) := by
  refine ⟨?_, fun q hq => ?_, fun q hq => ?_, ?_, ⟨0, rfl, ?_⟩, fun c hc => b_0 c⟩
  · show (0 : Int64) = sm (f_costsOf S 0) n
    rw [sm_zero (fun c hc => by simp [f_costsOf, b_0])]
  · show bgA T 8 q = sm (fun c => if bt 0 c then S_amounts S (c * 8 + q) else 0) n
    rw [bgA_at, if_pos hq, sm_zero (fun c hc => by simp [b_0])]
  · show bgH T 4 q = sm (fun c => if bt 0 c then S_hours S (c * 4 + q) else 0) n
    rw [bgH_at, if_pos hq, sm_zero (fun c hc => by simp [b_0])]
  · show (0 : Int64) = bl S 0 n
    unfold bl
    rw [sm_zero (fun c hc => by simp [b_0])]
  · show 2 * 0 = P2 S 0 n
    unfold P2
    rw [sN_zero.mpr (fun c hc => by simp [b_0])]
theorem bgT_Tal {S : SeaT} {n : Nat} (hs : Sym S) (hn : n ≤ 24) (T : TalT) (set : Int32) (i : Nat) (hi : i ≤ n) : Tal S n (bgT S T n set i) ∧ ∀ c, bt (T_cells (bgT S T n set i)) c = (bt set c && decide (c < i)) := by
  induction i with
  | zero => exact ⟨bgC_Tal S T n, fun c => by show bt 0 c = _; rw [b_0]; simp⟩
  | succ i ih =>
    obtain ⟨h1, h2⟩ := ih (by omega)
    rw [bgT]
    by_cases hb : bt set i = true
    · rw [if_pos hb]
      refine ⟨ex_Tal hs hn (by omega) h1, fun c => ?_⟩
      rw [ex_cells]
      rcases Nat.lt_or_ge c 32 with q | q
      · rw [b_flip _ (by omega) q, h2 c]
        by_cases hc : c = i
        · subst hc; rw [hb]; simp
        · by_cases hc2 : c < i
          · rw [decide_eq_true hc2, decide_eq_true (show c < i + 1 by omega), decide_eq_false hc]; simp
          · rw [decide_eq_false hc2, decide_eq_false (show ¬ c < i + 1 by omega), decide_eq_false hc]; simp
      · rw [b_big q, b_big (x := set) q]; rfl
    · rw [if_neg hb]
      refine ⟨h1, fun c => ?_⟩
      rw [h2 c]
      by_cases hc : c = i
      · subst hc
        have : bt set c = false := by cases e : bt set c with | false => rfl | true => exact absurd e hb
        rw [this]; rfl
      · congr 1
        by_cases hc2 : c < i
        · rw [decide_eq_true hc2, decide_eq_true (show c < i + 1 by omega)]
        · rw [decide_eq_false hc2, decide_eq_false (show ¬ c < i + 1 by omega)]
/-- a tally of a set whose bits are all below n holds that set -/
theorem bgT_set {S : SeaT} {n : Nat} (hs : Sym S) (hn : n ≤ 24) (T : TalT) {set : Int32} (h : ∀ c, n ≤ c → bt set c = false) : T_cells (bgT S T n set n) = set := by
  refine b_ext (fun c hc => ?_)
  rw [(bgT_Tal hs hn T set n (Nat.le_refl n)).2 c]
  by_cases h1 : c < n
  · rw [decide_eq_true h1, Bool.and_true]
  · rw [h c (by omega)]; rfl
section RL
variable {S : SeaT} {C : ChoT} {G : GoT} {dr : Int64} {M : ModT} {n : Nat}
theorem rl_sym (h : Rl S C G dr M n) : Sym S := by
  obtain ⟨hn, hcx, hcm, hco, ham, hho, hbo, hfa, hrest⟩ := h
  exact ⟨fun c d hc hd => ⟨(hbo c d hc hd).2.1, (hbo c d hc hd).2.2⟩, fun c d hc hd => ⟨(hfa c d hc hd).2.1, (hfa c d hc hd).2.2⟩⟩
theorem bl_eq (h : Rl S C G dr M n) (X : Int32) : bl S X n = sm (f_bo M X n) n := by
  obtain ⟨hn, hcx, hcm, hco, ham, hho, hbo, hrest⟩ := h
  unfold bl
  refine sm_congr (fun c hc => ?_)
  unfold f_bo inn
  have : sm (fun d => if bt X d then 0 else S_borders S (c * 24 + d)) n = sm (g_bo M X c) n := sm_congr (fun d hd => by
    unfold g_bo
    rw [(hbo c d (by omega) (by omega)).1])
  rw [this]
theorem price_eq (h : Rl S C G dr M n) {T : TalT} (hT : Tal S n T) : w_X3_price S T = w_X5_costOf M (T_cells T) n := by
  unfold w_X3_price w_X5_costOf
  rw [hT.1, hT.2.2.2.1, bl_eq h]
  obtain ⟨hn, hcx, hcm, hco, ham, hho, hbo, hfa, hkt, hpt, hgo, hfr, hwt, hrest⟩ := h
  have : sm (f_costsOf S (T_cells T)) n = sm (f_co M (T_cells T)) n := sm_congr (fun c hc => by
    unfold f_costsOf f_co
    rw [(hco c (by omega)).1])
  rw [this, hwt, Int64.add_comm]
theorem am_sum (h : Rl S C G dr M n) (X : Int32) {q : Nat} (hq : q < 8) : sm (fun c => if bt X c then S_amounts S (c * 8 + q) else 0) n = sm (f_am M q X) n := by
  obtain ⟨hn, hcx, hcm, hco, ham, hrest⟩ := h
  exact sm_congr (fun c hc => by unfold f_am; rw [(ham c q (by omega) hq).1])
theorem ho_sum (h : Rl S C G dr M n) (X : Int32) {q : Nat} (hq : q < 4) : sm (fun c => if bt X c then S_hours S (c * 4 + q) else 0) n = sm (f_ho M q X) n := by
  obtain ⟨hn, hcx, hcm, hco, ham, hho, hrest⟩ := h
  exact sm_congr (fun c hc => by unfold f_ho; rw [(hho c q (by omega) hq).1])
theorem all_bt (h : Rl S C G dr M n) {c : Nat} (hc : c < n) : bt (w_X5_all M) c = true := by
  obtain ⟨hn, hcx, hcm, hrest⟩ := h
  unfold w_X5_all
  rw [hcm, b_mask n (by omega) c (by omega), decide_eq_true hc]
theorem kt_all (h : Rl S C G dr M n) {q : Nat} (hq : q < 8) : S_kindTotals S q = sm (f_am M q (w_X5_all M)) n := by
  rw [← am_sum h _ hq]
  have hb := fun c hc => all_bt h (c := c) hc
  obtain ⟨hn, hcx, hcm, hco, ham, hho, hbo, hfa, hkt, hrest⟩ := h
  rw [hkt q hq]
  exact sm_congr (fun c hc => by rw [hb c hc]; rfl)
theorem pt_all (h : Rl S C G dr M n) {q : Nat} (hq : q < 4) : S_portTotals S q = sm (f_ho M q (w_X5_all M)) n := by
  rw [← ho_sum h _ hq]
  have hb := fun c hc => all_bt h (c := c) hc
  obtain ⟨hn, hcx, hcm, hco, ham, hho, hbo, hfa, hkt, hpt, hrest⟩ := h
  rw [hpt q hq]
  exact sm_congr (fun c hc => by rw [hb c hc]; rfl)
end RL
