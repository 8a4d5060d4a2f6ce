/-! Euclid's steps end: met, loss -/
def eN (x y : Nat) : Nat → Nat × Nat
  | 0 => (x, y)
  | i + 1 => if (eN x y i).2 = 0 then eN x y i else ((eN x y i).2, (eN x y i).1 % (eN x y i).2)
theorem eN_lt {x y : Nat} (hx : x < 2 ^ 40) (hy : y < 2 ^ 40) (i : Nat) : (eN x y i).1 < 2 ^ 40 ∧ (eN x y i).2 < 2 ^ 40 := by
  induction i with
  | zero => exact ⟨hx, hy⟩
  | succ i ih =>
    rw [eN]
    split
    · exact ih
    · rename_i h
      exact ⟨ih.2, Nat.lt_trans (Nat.mod_lt _ (by omega)) ih.2⟩
theorem eu_eN {x y : Nat} (hx : x < 2 ^ 40) (hy : y < 2 ^ 40) (i : Nat) : eu (lN x) (lN y) i = (lN (eN x y i).1, lN (eN x y i).2) := by
  induction i with
  | zero => rfl
  | succ i ih =>
    obtain ⟨h1, h2⟩ := eN_lt hx hy i
    rw [eu, eN, ih]
    by_cases h : (eN x y i).2 = 0
    · rw [if_pos (by show lN (eN x y i).2 = 0; rw [h]; rfl), if_pos h]
    · have h3 : ¬ lN (eN x y i).2 = 0 := fun q => h ((pk_lEQ (a := (eN x y i).2) (b := 0) (by omega) (by omega)).mp q)
      rw [if_neg h3, if_neg h]
      show (lN (eN x y i).2, lN (eN x y i).1 - lN (eN x y i).1 / lN (eN x y i).2 * lN (eN x y i).2) = _
      rw [pk_lRem (by omega) (by omega) (by omega)]
theorem eN_pos {x y : Nat} (hx : 0 < x) (i : Nat) : 0 < (eN x y i).1 := by
  induction i with
  | zero => exact hx
  | succ i ih =>
    rw [eN]
    split
    · exact ih
    · rename_i h
      show 0 < (eN x y i).2
      omega
theorem mod_half {q r : Nat} (hr : 0 < r) (hrq : r < q) : 2 * (q % r) ≤ q := by
  have h1 := Nat.mod_lt q hr
  have h2 := Nat.div_add_mod q r
  have h3 : 1 ≤ q / r := (Nat.le_div_iff_mul_le hr).mpr (by omega)
  have h4 : r * 1 ≤ r * (q / r) := Nat.mul_le_mul_left r h3
  omega
theorem eN_half (x y k : Nat) : (eN x y (2 * k)).2 * 2 ^ k ≤ y := by
  induction k with
  | zero => show y * 1 ≤ y; omega
  | succ k ih =>
    rw [show 2 * (k + 1) = 2 * k + 1 + 1 by omega]
    have hstep : 2 * (eN x y (2 * k + 1 + 1)).2 ≤ (eN x y (2 * k)).2 := by
      generalize hp : eN x y (2 * k) = p at *
      by_cases h1 : p.2 = 0
      · have e1 : eN x y (2 * k + 1) = p := by rw [eN, hp, if_pos h1]
        have e2 : eN x y (2 * k + 1 + 1) = p := by rw [eN, e1, if_pos h1]
        rw [e2, h1]; omega
      · have e1 : eN x y (2 * k + 1) = (p.2, p.1 % p.2) := by rw [eN, hp, if_neg h1]
        by_cases h2 : p.1 % p.2 = 0
        · have e2 : eN x y (2 * k + 1 + 1) = (p.2, p.1 % p.2) := by rw [eN, e1, if_pos h2]
          rw [e2]
          show 2 * (p.1 % p.2) ≤ p.2
          omega
        · have e2 : eN x y (2 * k + 1 + 1) = (p.1 % p.2, p.2 % (p.1 % p.2)) := by rw [eN, e1, if_neg h2]
          rw [e2]
          exact mod_half (by omega) (Nat.mod_lt _ (by omega))
    have e : (eN x y (2 * k + 1 + 1)).2 * 2 ^ (k + 1) = (2 * (eN x y (2 * k + 1 + 1)).2) * 2 ^ k := by
      rw [Nat.pow_succ]
      generalize 2 ^ k = w
      generalize (eN x y (2 * k + 1 + 1)).2 = v
      rw [Nat.mul_comm w 2, ← Nat.mul_assoc, Nat.mul_comm v 2]
    rw [e]
    exact Nat.le_trans (Nat.mul_le_mul_right _ hstep) ih
theorem eN_end {x y : Nat} (hy : y < 2 ^ 40) : (eN x y 100).2 = 0 := by
  have h := eN_half x y 50
  rw [show 2 * 50 = 100 from rfl] at h
  rcases Nat.eq_zero_or_pos (eN x y 100).2 with h1 | h1
  · exact h1
  · have h2 : 1 * 2 ^ 50 ≤ (eN x y 100).2 * 2 ^ 50 := Nat.mul_le_mul_right _ h1
    omega
theorem eu_end {a b : Int64} (ha : 0 ≤ a.toInt) (hab : a.toInt ≤ b.toInt) (hb : b.toInt ≤ 24000000000) (h0 : ¬ a = 0) : (eu a b 100).2 = 0 ∧ ¬ (eu a b 100).1 = 0 := by
  have n1 : ¬ a < 0 := l_notlt (by rw [show (0 : Int64).toInt = 0 by decide]; exact ha)
  have n2 : ¬ b < 0 := l_notlt (by rw [show (0 : Int64).toInt = 0 by decide]; omega)
  obtain ⟨x, hx, rfl⟩ := pk_lOf n1
  obtain ⟨y, hy, rfl⟩ := pk_lOf n2
  rw [pk_lT hx] at ha hab
  rw [pk_lT hy] at hab hb
  have hx0 : 0 < x := by
    rcases Nat.eq_zero_or_pos x with q | q
    · rw [q] at h0; exact absurd rfl h0
    · exact q
  rw [eu_eN (by omega) (by omega)]
  refine ⟨?_, ?_⟩
  · show lN (eN x y 100).2 = 0
    rw [eN_end (by omega)]; rfl
  · show ¬ lN (eN x y 100).1 = 0
    have h1 := eN_pos (y := y) hx0 100
    have h2 := (eN_lt (x := x) (y := y) (by omega) (by omega) 100).1
    intro q
    have := (pk_lEQ (a := (eN x y 100).1) (b := 0) (by omega) (by omega)).mp q
    omega
theorem part_eq {a b : Int64} (ha : 0 ≤ a.toInt) (hab : a.toInt ≤ b.toInt) (hb : b.toInt ≤ 24000000000) (part : Int32) : w_X4_partOf a b part = if part < 0 then -1 else if 1 < part then -1 else w_X5_part a b part := by
  have key : a ≠ 0 → b ≠ 0 := by
    intro h0 q
    rw [q, show (0 : Int64).toInt = 0 by decide] at hab
    apply h0
    apply Int64.toInt_inj.mp
    rw [show (0 : Int64).toInt = 0 by decide]
    omega
  have cd : a ≠ 0 → w_X4_commonDivisor a b = (eu a b 100).1 := by
    intro h0
    unfold w_X4_commonDivisor
    rw [if_neg (eu_end ha hab hb h0).2]
  unfold w_X4_partOf w_X5_part
  have m1 : ¬ (0 : Int32) < 0 := by decide
  have m2 : ¬ (1 : Int32) < 0 := by decide
  have m3 : ¬ (1 : Int32) < 1 := by decide
  by_cases h0 : part = 0
  · subst h0
    rw [if_pos rfl, if_neg m1, if_neg m2]
    by_cases ha0 : a = 0
    · rw [if_pos ha0, if_pos ha0]
    · rw [if_neg ha0, if_neg (key ha0), if_pos rfl, if_neg ha0, if_pos rfl, cd ha0]
  · by_cases h1 : part = 1
    · subst h1
      rw [if_neg h0, if_pos rfl, if_neg m2, if_neg m3]
      by_cases ha0 : a = 0
      · rw [if_pos ha0, if_pos ha0]
      · rw [if_neg ha0, if_neg (key ha0), if_neg h0, if_neg ha0, if_neg h0, cd ha0]
    · rw [if_neg h0, if_neg h1]
      by_cases h2 : part < 0
      · rw [if_pos h2]
      · rw [if_neg h2]
        rcases pk_ix part (n := 2) (by omega) with q | q | ⟨j, hj, rfl⟩
        · exact absurd q h2
        · rw [if_pos (Int32.lt_of_lt_of_le (by decide) q)]
        · have : j = 0 ∨ j = 1 := by omega
          rcases this with rfl | rfl
          · exact absurd rfl h0
          · exact absurd rfl h1
section RL
variable {S : SeaT} {C : ChoT} {G : GoT} {dr : Int64} {M : ModT} {n : Nat}
theorem rl_hE_met (h : Rl S C G dr M n) (ki : Int32) : ¬ w_X5_isKind ki = 0 → ¬ sm (f_am M (tn ki) (M_choice M)) n = 0 → (eu (sm (f_am M (tn ki) (M_choice M)) n) (sm (f_am M (tn ki) (w_X5_all M)) n) 100).2 = 0 ∧ ¬ (eu (sm (f_am M (tn ki) (M_choice M)) n) (sm (f_am M (tn ki) (w_X5_all M)) n) 100).1 = 0 := by
  intro h1 h2
  obtain ⟨a1, a2, a3⟩ := am_le h (M_choice M) (mkJ h1).1
  exact eu_end a1 a2 a3 h2
theorem rl_hE_loss (h : Rl S C G dr M n) (ki : Int32) : ¬ w_X5_isPort ki = 0 → ¬ sm (f_ho M (tn ki) (M_choice M)) n = 0 → (eu (sm (f_ho M (tn ki) (M_choice M)) n) (sm (f_ho M (tn ki) (w_X5_all M)) n) 100).2 = 0 ∧ ¬ (eu (sm (f_ho M (tn ki) (M_choice M)) n) (sm (f_ho M (tn ki) (w_X5_all M)) n) 100).1 = 0 := by
  intro h1 h2
  obtain ⟨a1, a2, a3⟩ := ho_le h (M_choice M) (mpJ h1).1
  exact eu_end a1 a2 a3 h2
theorem cc_hi (h : Rl S C G dr M n) : ∀ c, n ≤ c → bt (C_cells C) c = false := by
  obtain ⟨hn, hcx, hcm, hco, ham, hho, hbo, hfa, hkt, hpt, hgo, hfr, hwt, hle, hst, hsz, hbz, hrest⟩ := h
  exact fun c hc => (hbz c hc).2.2.1
theorem rl_met (h : Rl S C G dr M n) (T : TalT) (tr : Int64) (F : Nat → Int32) (z0 : Int32) (z1 : Int32) : w_X4_met S T C z0 z1 n = w_X5_met M z0 z1 n ∧ ∃ n2, Rl S C G dr M n2 := by
  refine ⟨?_, n, h⟩
  unfold w_X4_met w_X5_met
  rw [show w_X5_isKind z0 = w_isKind z0 from rfl]
  by_cases h1 : w_isKind z0 = 0
  · rw [if_pos h1, if_pos h1]
  · obtain ⟨hk, ek⟩ := kiJ h1
    rw [if_neg h1, if_neg h1]
    rcases ch_cases h with ⟨c1, c2, c3, c4⟩ | ⟨c1, c2, c3, c4⟩
    · rw [if_pos c1, if_pos c2]
    · rw [if_neg (by rw [c1]; decide), if_neg (by rw [c2]; decide)]
      have hT := (bgT_Tal (rl_sym h) h.1 T (C_cells C) n (Nat.le_refl n)).1
      have e1 := hT.2.1 (tn z0) hk
      rw [bgT_set (rl_sym h) h.1 T (cc_hi h), am_sum h _ hk, c3] at e1
      obtain ⟨a1, a2, a3⟩ := am_le h (M_choice M) hk
      have e2 := kt_all h hk
      rw [c3]
      rw [e1, e2, part_eq a1 a2 a3]
theorem rl_loss (h : Rl S C G dr M n) (T : TalT) (tr : Int64) (F : Nat → Int32) (z0 : Int32) (z1 : Int32) : w_X4_loss S T C z0 z1 n = w_X5_loss M z0 z1 n ∧ ∃ n2, Rl S C G dr M n2 := by
  refine ⟨?_, n, h⟩
  unfold w_X4_loss w_X5_loss
  rw [show w_X5_isPort z0 = w_isPort z0 from rfl]
  by_cases h1 : w_isPort z0 = 0
  · rw [if_pos h1, if_pos h1]
  · obtain ⟨hk, ek⟩ := poJ h1
    rw [if_neg h1, if_neg h1]
    rcases ch_cases h with ⟨c1, c2, c3, c4⟩ | ⟨c1, c2, c3, c4⟩
    · rw [if_pos c1, if_pos c2]
    · rw [if_neg (by rw [c1]; decide), if_neg (by rw [c2]; decide)]
      have hT := (bgT_Tal (rl_sym h) h.1 T (C_cells C) n (Nat.le_refl n)).1
      have e1 := hT.2.2.1 (tn z0) hk
      rw [bgT_set (rl_sym h) h.1 T (cc_hi h), ho_sum h _ hk, c3] at e1
      obtain ⟨a1, a2, a3⟩ := ho_le h (M_choice M) hk
      have e2 := pt_all h hk
      rw [c3]
      rw [e1, e2, part_eq a1 a2 a3]
end RL
