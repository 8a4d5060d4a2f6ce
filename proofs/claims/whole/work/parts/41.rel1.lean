/-! the calls that tell something, and the plain reads -/
theorem within0 (v m : Int64) : w_within v m = 0 ↔ (v < 0 ∨ m < v) := by
  unfold w_within
  by_cases h1 : v < 0
  · simp [h1]
  · by_cases h2 : m < v
    · simp [h1, h2]
    · simp [h1, h2]
theorem i64_add {a b : Int64} (h1 : -9223372036854775808 ≤ a.toInt + b.toInt) (h2 : a.toInt + b.toInt < 9223372036854775808) : (a + b).toInt = a.toInt + b.toInt := by
  rw [Int64.toInt_add]
  exact Int.bmod_eq_of_le_mul_two (by omega) (by omega)
theorem b_one : ∀ j, j < 32 → ∀ c, c < 32 → bt ((1 : Int32) <<< (nI j &&& 31)) c = decide (c = j) := by decide +kernel
theorem b_not (x : Int32) {c : Nat} (hc : c < 32) : bt (x ^^^ (-1)) c = !bt x c := by rw [b_xor, b_m1 c hc]; cases bt x c <;> rfl
theorem b_set (x : Int32) {j c : Nat} (hj : j < 32) (hc : c < 32) : bt (x ||| (1 <<< (nI j &&& 31))) c = (bt x c || decide (c = j)) := by rw [b_or, b_one j hj c hc]
theorem b_clr (x : Int32) {j c : Nat} (hj : j < 32) (hc : c < 32) : bt (x &&& ((1 <<< (nI j &&& 31)) ^^^ (-1))) c = (bt x c && !decide (c = j)) := by rw [b_and, b_not _ hc, b_one j hj c hc]
section RL
variable {S : SeaT} {C : ChoT} {G : GoT} {dr : Int64} {M : ModT} {n : Nat}
theorem ic_eq (h : Rl S C G dr M n) (ce : Int32) : w_X5_isCell M ce = w_hasCell (S_cells S) ce := by
  show w_hasCell (M_cells M) ce = _
  rw [h.2.1, h.2.2.1]
theorem rl_weight (h : Rl S C G dr M n) (T : TalT) (tr : Int64) (F : Nat → Int32) (z0 : Int64) : w_X4_weight z0 = w_X5_weight z0 ∧ ∃ n2, Rl (w_X4_weight_S S z0) C G dr (w_X5_weight_M M z0) n2 := by
  unfold w_X4_weight w_X4_weight_S w_X5_weight w_X5_weight_M
  by_cases h1 : z0 < 0
  · have h2 := (within0 z0 1000).mpr (Or.inl h1)
    simp only [h1, h2, if_true]
    exact ⟨trivial, n, h⟩
  · by_cases h3 : 1000 < z0
    · have h2 := (within0 z0 1000).mpr (Or.inr h3)
      simp only [h1, h2, h3, if_true, if_false]
      exact ⟨trivial, n, h⟩
    · have h2 : ¬ w_within z0 1000 = 0 := fun q => ((within0 z0 1000).mp q).elim h1 h3
      simp only [h1, h2, h3, if_false]
      obtain ⟨hn, hcx, hcm, hco, ham, hho, hbo, hfa, hkt, hpt, hgo, hfr, hwt, hle, hrest⟩ := h
      exact ⟨trivial, n, hn, hcx, hcm, hco, ham, hho, hbo, hfa, hkt, hpt, hgo, hfr, rfl, hle, hrest⟩
theorem rl_fair (h : Rl S C G dr M n) (T : TalT) (tr : Int64) (F : Nat → Int32) (z0 : Int64) (z1 : Int64) : w_X4_fair z0 z1 = w_X5_fair z0 z1 ∧ ∃ n2, Rl (w_X4_fair_S S z0 z1) C G dr (w_X5_fair_M M z0 z1) n2 := by
  unfold w_X4_fair w_X4_fair_S w_X5_fair w_X5_fair_M
  rw [show w_X5_isShare z0 z1 = w_isShare z0 z1 from rfl]
  by_cases h1 : w_isShare z0 z1 = 0
  · simp only [h1, if_true]
    exact ⟨trivial, n, h⟩
  · simp only [h1, if_false]
    obtain ⟨hn, hcx, hcm, hco, ham, hho, hbo, hfa, hkt, hpt, hgo, hfr, hrest⟩ := h
    exact ⟨trivial, n, hn, hcx, hcm, hco, ham, hho, hbo, hfa, hkt, hpt, hgo, Or.inr ⟨(by decide : ¬ (1 : Int32) = 0), rfl, rfl⟩, hrest⟩
theorem rl_size (h : Rl S C G dr M n) (T : TalT) (tr : Int64) (F : Nat → Int32) (z0 : Int32) : w_X4_size S z0 = w_X5_size M z0 ∧ ∃ n2, Rl (w_X4_size_S S z0) C G dr (w_X5_size_M M z0) n2 := by
  unfold w_X4_size w_X4_size_S w_X5_size w_X5_size_M
  rw [h.2.1, h.2.2.1]
  refine ⟨rfl, ?_⟩
  by_cases h1 : z0 < 0
  · simp only [h1, if_true]; exact ⟨n, h⟩
  · by_cases h2 : 24 < z0
    · simp only [h1, h2, if_true, if_false]; exact ⟨n, h⟩
    · simp only [h1, h2, if_false]
      obtain ⟨hn, hcx, hcm, hco, ham, hho, hbo, hfa, hkt, hpt, hgo, hfr, hwt, hle, hrest⟩ := h
      exact ⟨n, hn, hcx, hcm, hco, ham, hho, hbo, hfa, hkt, hpt, hgo, hfr, hwt, rfl, hrest⟩
theorem rl_goal (h : Rl S C G dr M n) (T : TalT) (tr : Int64) (F : Nat → Int32) (z0 : Int32) (z1 : Int64) (z2 : Int64) : w_X4_goal z0 z1 z2 = w_X5_goal z0 z1 z2 ∧ ∃ n2, Rl (w_X4_goal_S S z0 z1 z2) C G dr (w_X5_goal_M M z0 z1 z2) n2 := by
  unfold w_X4_goal w_X4_goal_S w_X5_goal w_X5_goal_M
  rw [show w_X5_isShare z1 z2 = w_isShare z1 z2 from rfl, show w_X5_isKind z0 = w_isKind z0 from rfl]
  by_cases h1 : w_isKind z0 = 0
  · simp only [h1, if_true]; exact ⟨trivial, n, h⟩
  · by_cases h2 : w_isShare z1 z2 = 0
    · simp only [h1, h2, if_true, if_false]; exact ⟨trivial, n, h⟩
    · simp only [h1, h2, if_false]
      obtain ⟨hn, hcx, hcm, hco, ham, hho, hbo, hfa, hkt, hpt, hgo, hrest⟩ := h
      refine ⟨trivial, n, hn, hcx, hcm, hco, ham, hho, hbo, hfa, hkt, hpt, fun q hq => ?_, hrest⟩
      show (upd (M_hasGoal M) (tn z0) 1 q = 0 ∧ vp_updL (S_goalAbove S) (tn z0) z1 q = 0 ∧ vp_updL (S_goalBelow S) (tn z0) z2 q = 1) ∨ (¬ upd (M_hasGoal M) (tn z0) 1 q = 0 ∧ vp_updL (S_goalAbove S) (tn z0) z1 q = vp_updL (M_goalAbove M) (tn z0) z1 q ∧ vp_updL (S_goalBelow S) (tn z0) z2 q = vp_updL (M_goalBelow M) (tn z0) z2 q)
      by_cases hq2 : q = tn z0
      · subst hq2
        refine Or.inr ⟨?_, ?_, ?_⟩
        · rw [pk_us]; decide
        · rw [pk_uLs, pk_uLs]
        · rw [pk_uLs, pk_uLs]
      · rw [pk_un hq2, pk_uLn hq2, pk_uLn hq2, pk_uLn hq2, pk_uLn hq2]
        exact hgo q hq
theorem rl_must (h : Rl S C G dr M n) (T : TalT) (tr : Int64) (F : Nat → Int32) (z0 : Int32) : w_X4_must S z0 = w_X5_must M z0 ∧ ∃ n2, Rl (w_X4_must_S S z0) C G dr (w_X5_must_M M z0) n2 := by
  unfold w_X4_must w_X4_must_S w_X5_must w_X5_must_M
  rw [ic_eq h]
  refine ⟨rfl, ?_⟩
  by_cases h1 : w_hasCell (S_cells S) z0 = 0
  · simp only [h1, if_true]; exact ⟨n, h⟩
  · simp only [h1, if_false]
    obtain ⟨hj, ej⟩ := hcJ h.1 h.2.1 h1
    obtain ⟨hn, hcx, hcm, hco, ham, hho, hbo, hfa, hkt, hpt, hgo, hfr, hwt, hle, hst, hsz, hbz, hrest⟩ := h
    generalize tn z0 = j at hj ej
    subst ej
    refine ⟨n, hn, hcx, hcm, hco, ham, hho, hbo, hfa, hkt, hpt, hgo, hfr, hwt, hle, fun c hc => ?_, fun c h2 h3 => ?_, fun c h2 => ?_, hrest⟩
    · show bt (S_needed S ||| (1 <<< (nI j &&& 31))) c = decide (upd (M_states M) j 1 c = 1) ∧ bt (S_barred S &&& ((1 <<< (nI j &&& 31)) ^^^ (-1))) c = decide (upd (M_states M) j 1 c = 2) ∧ (upd (M_states M) j 1 c = 0 ∨ upd (M_states M) j 1 c = 1 ∨ upd (M_states M) j 1 c = 2)
      rw [b_set _ (by omega) (by omega), b_clr _ (by omega) (by omega)]
      by_cases hcj : c = j
      · subst hcj
        rw [pk_us]; simp
      · rw [pk_un hcj, (hst c hc).1, (hst c hc).2.1]
        simp [hcj]
        exact (hst c hc).2.2
    · show upd (M_states M) j 1 c = 0
      rw [pk_un (by omega)]; exact hsz c h2 h3
    · refine ⟨?_, ?_, (hbz c h2).2.2⟩
      · show bt (S_needed S ||| (1 <<< (nI j &&& 31))) c = false
        rcases Nat.lt_or_ge c 32 with h3 | h3
        · rw [b_set _ (by omega) h3, (hbz c h2).1]; simp; omega
        · exact b_big h3
      · show bt (S_barred S &&& ((1 <<< (nI j &&& 31)) ^^^ (-1))) c = false
        rw [b_and, (hbz c h2).2.1]; rfl
theorem rl_bar (h : Rl S C G dr M n) (T : TalT) (tr : Int64) (F : Nat → Int32) (z0 : Int32) : w_X4_bar S z0 = w_X5_bar M z0 ∧ ∃ n2, Rl (w_X4_bar_S S z0) C G dr (w_X5_bar_M M z0) n2 := by
  unfold w_X4_bar w_X4_bar_S w_X5_bar w_X5_bar_M
  rw [ic_eq h]
  refine ⟨rfl, ?_⟩
  by_cases h1 : w_hasCell (S_cells S) z0 = 0
  · simp only [h1, if_true]; exact ⟨n, h⟩
  · simp only [h1, if_false]
    obtain ⟨hj, ej⟩ := hcJ h.1 h.2.1 h1
    obtain ⟨hn, hcx, hcm, hco, ham, hho, hbo, hfa, hkt, hpt, hgo, hfr, hwt, hle, hst, hsz, hbz, hrest⟩ := h
    generalize tn z0 = j at hj ej
    subst ej
    refine ⟨n, hn, hcx, hcm, hco, ham, hho, hbo, hfa, hkt, hpt, hgo, hfr, hwt, hle, fun c hc => ?_, fun c h2 h3 => ?_, fun c h2 => ?_, hrest⟩
    · show bt (S_needed S &&& ((1 <<< (nI j &&& 31)) ^^^ (-1))) c = decide (upd (M_states M) j 2 c = 1) ∧ bt (S_barred S ||| (1 <<< (nI j &&& 31))) c = decide (upd (M_states M) j 2 c = 2) ∧ (upd (M_states M) j 2 c = 0 ∨ upd (M_states M) j 2 c = 1 ∨ upd (M_states M) j 2 c = 2)
      rw [b_set _ (by omega) (by omega), b_clr _ (by omega) (by omega)]
      by_cases hcj : c = j
      · subst hcj
        rw [pk_us]; simp
      · rw [pk_un hcj, (hst c hc).1, (hst c hc).2.1]
        simp [hcj]
        exact (hst c hc).2.2
    · show upd (M_states M) j 2 c = 0
      rw [pk_un (by omega)]; exact hsz c h2 h3
    · refine ⟨?_, ?_, (hbz c h2).2.2⟩
      · show bt (S_needed S &&& ((1 <<< (nI j &&& 31)) ^^^ (-1))) c = false
        rw [b_and, (hbz c h2).1]; rfl
      · show bt (S_barred S ||| (1 <<< (nI j &&& 31))) c = false
        rcases Nat.lt_or_ge c 32 with h3 | h3
        · rw [b_set _ (by omega) h3, (hbz c h2).2.1]; simp; omega
        · exact b_big h3
theorem rl_cost (h : Rl S C G dr M n) (T : TalT) (tr : Int64) (F : Nat → Int32) : w_X4_cost C = w_X5_cost M ∧ ∃ n2, Rl S C G dr M n2 := by
  refine ⟨?_, n, h⟩
  obtain ⟨hn, hcx, hcm, hco, ham, hho, hbo, hfa, hkt, hpt, hgo, hfr, hwt, hle, hst, hsz, hbz, hdr, hch, hrest⟩ := h
  unfold w_X4_cost w_X5_cost
  rcases hch with ⟨h1, h2, h3, h4⟩ | ⟨h1, h2, h3, h4⟩
  · rw [if_pos h2, h4]
  · rw [if_neg (by rw [h2]; decide), h4]
theorem rl_bound (h : Rl S C G dr M n) (T : TalT) (tr : Int64) (F : Nat → Int32) : w_X4_bound G = w_X5_bound M ∧ ∃ n2, Rl S C G dr M n2 := by
  refine ⟨?_, n, h⟩
  obtain ⟨hn, hcx, hcm, hco, ham, hho, hbo, hfa, hkt, hpt, hgo, hfr, hwt, hle, hst, hsz, hbz, hdr, hch, hea, hru, hcl⟩ := h
  unfold w_X4_bound w_X5_bound
  rcases hru with ⟨h1, h2, h3, h4, h5⟩ | ⟨h1, h2, h3, h4, h5⟩
  · rw [if_pos h1, h3]
  · rw [if_neg h1, h4]
theorem rl_proved (h : Rl S C G dr M n) (T : TalT) (tr : Int64) (F : Nat → Int32) : w_X4_proved G = w_X5_proved M ∧ ∃ n2, Rl S C G dr M n2 := by
  refine ⟨?_, n, h⟩
  obtain ⟨hn, hcx, hcm, hco, ham, hho, hbo, hfa, hkt, hpt, hgo, hfr, hwt, hle, hst, hsz, hbz, hdr, hch, hea, hru, hcl⟩ := h
  unfold w_X4_proved w_X5_proved
  rcases hru with ⟨h1, h2, h3, h4, h5⟩ | ⟨h1, h2, h3, h4, h5⟩
  · rw [if_pos h1, h2]; rfl
  · rw [if_neg h1, h2]
    rcases h3 with h3 | h3 | h3 <;> rw [h3] <;> rfl
theorem rl_chosen (h : Rl S C G dr M n) (T : TalT) (tr : Int64) (F : Nat → Int32) (z0 : Int32) : w_X4_chosen S C z0 = w_X5_chosen M z0 ∧ ∃ n2, Rl S C G dr M n2 := by
  refine ⟨?_, n, h⟩
  unfold w_X4_chosen w_X5_chosen
  rw [ic_eq h]
  by_cases h0 : w_hasCell (S_cells S) z0 = 0
  · simp [h0]
  · obtain ⟨hj, ej⟩ := hcJ h.1 h.2.1 h0
    obtain ⟨hn, hcx, hcm, hco, ham, hho, hbo, hfa, hkt, hpt, hgo, hfr, hwt, hle, hst, hsz, hbz, hdr, hch, hrest⟩ := h
    rw [if_neg h0, if_neg h0]
    rcases hch with ⟨h1, h2, h3, h4⟩ | ⟨h1, h2, h3, h4⟩
    · rw [if_pos h2, h3]
      rw [if_pos]
      rw [ej]
      exact (hb0 0 (by omega)).mpr (b_0 _)
    · have h2' : ¬ M_hasChoice M = 0 := by rw [h2]; decide
      rw [h3, if_neg h2', ej]
      have e1 := hb0 (M_choice M) (n := tn z0) (by omega)
      have e2 := mb0 (M_choice M) (n := tn z0) (by omega)
      by_cases e : bt (M_choice M) (tn z0) = false
      · rw [if_pos (e1.mpr e), if_pos (e2.mpr e)]
      · rw [if_neg (fun q => e (e1.mp q)), if_neg (fun q => e (e2.mp q))]
theorem rl_clash (h : Rl S C G dr M n) (T : TalT) (tr : Int64) (F : Nat → Int32) (z0 : Int32) : w_X4_clash G z0 = w_X5_clash M z0 ∧ ∃ n2, Rl S C G dr M n2 := by
  refine ⟨?_, n, h⟩
  obtain ⟨hn, hcx, hcm, hco, ham, hho, hbo, hfa, hkt, hpt, hgo, hfr, hwt, hle, hst, hsz, hbz, hdr, hch, hea, hru, hcl⟩ := h
  have e : G_clashingKinds G = M_clashes M := by
    rcases hru with ⟨h1, h2, h3, h4, h5⟩ | ⟨h1, h2, h3, h4, h5⟩
    · rw [h4, h5]
    · exact h5
  unfold w_X4_clash w_X5_clash w_X4_placeOfBit
  rw [e]
  rw [fnd_cut (n := 8) (m := 24) (by omega) (fun j h1 h2 => by simp [q_pob, hcl j h1])]
  by_cases h1 : z0 < 0
  · rw [if_pos h1]
    refine fnd_none (fun j hj => ?_)
    have h2 : ¬ nI (cn (M_clashes M) j) = z0 := by
      intro q
      rw [← q] at h1
      have := cn_le (M_clashes M) j
      exact absurd h1 (nI_pos (by omega))
    simp [q_pob, h2]
  · rw [if_neg h1]
end RL
