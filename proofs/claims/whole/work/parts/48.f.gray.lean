/-! Gray's order goes through the same sets as the counting order -/
def gr (i : Nat) : Nat := i ^^^ (i / 2)
def ig (v : Nat) : Nat := v ^^^ (v / 2) ^^^ (v / 4) ^^^ (v / 8) ^^^ (v / 16) ^^^ (v / 32) ^^^ (v / 64) ^^^ (v / 128) ^^^ (v / 256) ^^^ (v / 512) ^^^ (v / 1024) ^^^ (v / 2048)
theorem gr_all : ∀ a, a < 64 → ∀ b, b < 64 → (a = 0 ∧ b = 0) ∨ (gr (a * 64 + b) = gr (a * 64 + b - 1) ^^^ 2 ^ plN (a * 64 + b) ∧ 2 ^ plN (a * 64 + b) ≤ a * 64 + b) := by decide +kernel
theorem ig_all : ∀ a, a < 64 → ∀ b, b < 64 → gr (ig (a * 64 + b)) = a * 64 + b := by decide +kernel
theorem gr_step {i : Nat} (h1 : 1 ≤ i) (h2 : i < 4096) : gr i = gr (i - 1) ^^^ 2 ^ plN i ∧ 2 ^ plN i ≤ i := by
  have e : i / 64 * 64 + i % 64 = i := by omega
  have h := gr_all (i / 64) (by omega) (i % 64) (by omega)
  rw [e] at h
  rcases h with h | h
  · omega
  · exact h
theorem ig_ok {v : Nat} (h : v < 4096) : gr (ig v) = v := by
  have e : v / 64 * 64 + v % 64 = v := by omega
  have h := ig_all (v / 64) (by omega) (v % 64) (by omega)
  rw [e] at h
  exact h
theorem gr_lt {m i : Nat} (h : i < 2 ^ m) : gr i < 2 ^ m := Nat.xor_lt_two_pow h (Nat.lt_of_le_of_lt (Nat.div_le_self _ _) h)
theorem ig_lt {m v : Nat} (h : v < 2 ^ m) : ig v < 2 ^ m := by
  have d : ∀ k, v / k < 2 ^ m := fun k => Nat.lt_of_le_of_lt (Nat.div_le_self _ _) h
  unfold ig
  exact Nat.xor_lt_two_pow (Nat.xor_lt_two_pow (Nat.xor_lt_two_pow (Nat.xor_lt_two_pow (Nat.xor_lt_two_pow (Nat.xor_lt_two_pow (Nat.xor_lt_two_pow (Nat.xor_lt_two_pow (Nat.xor_lt_two_pow (Nat.xor_lt_two_pow (Nat.xor_lt_two_pow h (d _)) (d _)) (d _)) (d _)) (d _)) (d _)) (d _)) (d _)) (d _)) (d _)) (d _)
theorem nI_bt (v : Nat) {p : Nat} (hp : p < 32) : bt (nI v) p = v.testBit p := by
  show (BitVec.ofNat 32 v).getLsbD p = v.testBit p
  rw [BitVec.getLsbD_ofNat, decide_eq_true hp, Bool.true_and]
theorem fcN_spec (x : Int32) {i m : Nat} (hm : m < cn x i) : bt x (fcN x i m) = true ∧ cn x (fcN x i m) = m := by
  induction i with
  | zero => exact absurd hm (Nat.not_lt_zero m)
  | succ i ih =>
    rw [fcN]
    rw [cn] at hm
    by_cases hb : bt x i = true
    · rw [if_pos hb] at hm ⊢
      by_cases he : m = cn x i
      · rw [if_pos he]; exact ⟨hb, he.symm⟩
      · rw [if_neg he]; exact ih (by omega)
    · rw [if_neg hb] at hm ⊢
      exact ih hm
theorem cn_inj {x : Int32} {c d : Nat} (hc : bt x c = true) (hd : bt x d = true) (h : cn x c = cn x d) : c = d := by
  rcases Nat.lt_trichotomy c d with q | q | q
  · have h1 := cn_mono x (show c + 1 ≤ d by omega)
    rw [cn, if_pos hc] at h1; omega
  · exact q
  · have h1 := cn_mono x (show d + 1 ≤ c by omega)
    rw [cn, if_pos hd] at h1; omega
theorem ltS {c i : Nat} (h : ¬ c = i) : decide (c < i + 1) = decide (c < i) := by
  by_cases h2 : c < i
  · rw [decide_eq_true h2, decide_eq_true (by omega)]
  · rw [decide_eq_false h2, decide_eq_false (by omega)]
theorem mst_bt (M : ModT) {i : Nat} (hi : i ≤ 24) {c : Nat} (hc : c < 32) : bt (mst M i) c = (decide (c < i) && decide (M_states M c = 1)) := by
  induction i with
  | zero => rw [mst, b_0]; simp
  | succ i ih =>
    rw [mst]
    by_cases h2 : M_states M i = 1
    · rw [if_pos h2, b_set _ (by omega) hc, ih (by omega)]
      by_cases h3 : c = i
      · subst h3; rw [decide_eq_true h2, decide_eq_true (show c < c + 1 by omega), decide_eq_true rfl, Bool.or_true]; rfl
      · rw [ltS h3, decide_eq_false h3, Bool.or_false]
    · rw [if_neg h2, ih (by omega)]
      by_cases h3 : c = i
      · subst h3; rw [decide_eq_false h2, Bool.and_false, Bool.and_false]
      · rw [ltS h3]
theorem rS_bt (M : ModT) {n : Nat} (v : Nat) {i : Nat} (hi : i ≤ 24) {c : Nat} (hc : c < 32) : bt (rS M n v i) c = (bt (mst M n) c || (decide (c < i) && (decide (M_states M c = 0) && v.testBit (cq (q_fr M) c)))) := by
  induction i with
  | zero => rw [rS]; simp
  | succ i ih =>
    have hq := cq_le (q_fr M) i
    have hb : (w_X5_has (nI v) (nI (cq (q_fr M) i)) = 0) ↔ v.testBit (cq (q_fr M) i) = false := by
      rw [mb_val _ (by omega), nI_bt v (by omega)]
      cases v.testBit (cq (q_fr M) i) <;> simp
    rw [rS]
    by_cases h2 : M_states M i = 0
    · rw [if_pos h2]
      by_cases h4 : v.testBit (cq (q_fr M) i) = false
      · rw [if_pos (hb.mpr h4), ih (by omega)]
        by_cases h3 : c = i
        · subst h3; rw [h4, Bool.and_false, Bool.and_false, Bool.and_false]
        · rw [ltS h3]
      · rw [if_neg (fun q => h4 (hb.mp q)), b_set _ (by omega) hc, ih (by omega)]
        by_cases h3 : c = i
        · subst h3
          rw [Bool.of_not_eq_false h4, decide_eq_true h2, decide_eq_true (show c < c + 1 by omega), decide_eq_true rfl]
          simp
        · rw [ltS h3, decide_eq_false h3, Bool.or_false]
    · rw [if_neg h2, ih (by omega)]
      by_cases h3 : c = i
      · subst h3; rw [decide_eq_false h2, Bool.false_and, Bool.and_false, Bool.and_false]
      · rw [ltS h3]
section RL
variable {S : SeaT} {C : ChoT} {G : GoT} {dr : Int64} {M : ModT} {n : Nat}
theorem st_ne (h : Rl S C G dr M n) {c : Nat} (hc : c < n) : bt (S_needed S) c = decide (M_states M c = 1) := by
  obtain ⟨hn, hcx, hcm, hco, ham, hho, hbo, hfa, hkt, hpt, hgo, hfr, hwt, hle, hst, hrest⟩ := h
  exact (hst c hc).1
theorem ne_hi (h : Rl S C G dr M n) : ∀ c, n ≤ c → bt (S_needed S) c = false := by
  obtain ⟨hn, hcx, hcm, hco, ham, hho, hbo, hfa, hkt, hpt, hgo, hfr, hwt, hle, hst, hsz, hbz, hrest⟩ := h
  exact fun c hc => (hbz c hc).1
theorem rS_hi (hn : n ≤ 24) (v : Nat) : ∀ c, n ≤ c → bt (rS M n v n) c = false := by
  intro c hc
  rcases Nat.lt_or_ge c 32 with q | q
  · rw [rS_bt M v hn q, mst_bt M hn q, decide_eq_false (by omega), Bool.false_and, Bool.false_and]; rfl
  · exact b_big q
theorem rS_0 (h : Rl S C G dr M n) : rS M n 0 n = S_needed S := by
  refine b_ext (fun c hc => ?_)
  rw [rS_bt M 0 h.1 hc, mst_bt M h.1 hc, Nat.zero_testBit, Bool.and_false, Bool.and_false, Bool.or_false]
  by_cases q : c < n
  · rw [st_ne h q, decide_eq_true q, Bool.true_and]
  · rw [ne_hi h c (by omega), decide_eq_false q, Bool.false_and]
theorem cq_cn (h : Rl S C G dr M n) {c : Nat} (hc : c ≤ n) : cq (q_fr M) c = cn (w_X2_freeSet S) c := by
  rw [cn_cq]
  refine cq_congr (fun d hd => ?_)
  rw [fr_st h (show d < n by omega)]; rfl
theorem rS_flip (h : Rl S C G dr M n) (v : Nat) {p : Nat} (hp : p < cn (w_X2_freeSet S) n) : rS M n (v ^^^ 2 ^ p) n = rS M n v n ^^^ (1 <<< (nI (fcN (w_X2_freeSet S) n p) &&& 31)) := by
  have hn := h.1
  have hl := fcN_lt _ hp
  obtain ⟨s1, s2⟩ := fcN_spec _ hp
  generalize fcN (w_X2_freeSet S) n p = d at hl s1 s2
  refine b_ext (fun c hc => ?_)
  rw [b_flip _ (by omega) hc, rS_bt M _ hn hc, rS_bt M _ hn hc]
  by_cases q : c < n
  · rw [decide_eq_true q, Bool.true_and, Bool.true_and, Nat.testBit_xor, Nat.testBit_two_pow]
    by_cases q2 : M_states M c = 0
    · have hm : bt (mst M n) c = false := by
        rw [mst_bt M hn hc, decide_eq_false (show ¬ M_states M c = 1 by rw [q2]; decide), Bool.and_false]
      have hf : bt (w_X2_freeSet S) c = true := by rw [fr_st h q, decide_eq_true q2]
      rw [hm, decide_eq_true q2, cq_cn h (by omega)]
      have e : decide (p = cn (w_X2_freeSet S) c) = decide (c = d) := by
        by_cases q3 : c = d
        · subst q3; rw [s2, decide_eq_true rfl, decide_eq_true rfl]
        · rw [decide_eq_false q3, decide_eq_false (fun q4 => q3 (cn_inj hf s1 (by rw [s2, ← q4])))]
      rw [e]
      simp only [Bool.true_and, Bool.false_or]
    · have q3 : ¬ c = d := by
        intro q4
        subst q4
        rw [fr_st h q, decide_eq_false q2] at s1
        exact absurd s1 (by decide)
      rw [decide_eq_false q2, decide_eq_false q3, Bool.false_and, Bool.false_and, Bool.xor_false]
  · rw [decide_eq_false q, Bool.false_and, Bool.false_and, decide_eq_false (show ¬ c = d by omega), Bool.xor_false]
theorem same_mst {M' : ModT} (hs : Same M M') (i : Nat) : mst M' i = mst M i := by
  induction i with
  | zero => rfl
  | succ i ih => rw [mst, mst, ih, hs.2.2.1]
theorem same_qfr {M' : ModT} (hs : Same M M') : q_fr M' = q_fr M := by
  unfold q_fr; rw [hs.2.2.1]
theorem same_rS {M' : ModT} (hs : Same M M') (n v i : Nat) : rS M' n v i = rS M n v i := by
  induction i with
  | zero => exact same_mst hs n
  | succ i ih => rw [rS, rS, ih, hs.2.2.1, same_qfr hs]
theorem same_rC {M' : ModT} (hs : Same M M') (n i : Nat) : rC M' n i = rC M n i := by
  induction i with
  | zero => rfl
  | succ i ih => rw [rC, rC, ih]; unfold rCs; rw [same_rS hs, same_st hs, same_co hs]
end RL
