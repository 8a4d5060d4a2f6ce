/-! what stands, on both sides -/
theorem sm_in {f : Nat → Int64} {n : Nat} {m : Int} (hn : n ≤ 24) (hm : m ≤ 1000000000) (hm0 : 0 ≤ m) (h : ∀ c, c < n → in0 (f c) m) : 0 ≤ (sm f n).toInt ∧ (sm f n).toInt ≤ n * m := by
  induction n with
  | zero => exact ⟨by show (0 : Int) ≤ (0 : Int64).toInt; decide, by show (0 : Int64).toInt ≤ _; simp⟩
  | succ n ih =>
    obtain ⟨i1, i2⟩ := ih (by omega) (fun c hc => h c (by omega))
    obtain ⟨h1, h2⟩ := h n (by omega)
    have h3 : (n : Int) * m ≤ 24 * 1000000000 := by
      have a1 : (n : Int) * m ≤ 24 * m := Int.mul_le_mul_of_nonneg_right (by omega) hm0
      omega
    rw [sm, i64_add (by omega) (by omega)]
    refine ⟨by omega, ?_⟩
    have e : ((n + 1 : Nat) : Int) * m = n * m + m := by rw [Int.natCast_add, Int.add_mul]; simp
    rw [e]
    omega
theorem sm_le {f g : Nat → Int64} {n : Nat} {m : Int} (hn : n ≤ 24) (hm : m ≤ 1000000000) (hm0 : 0 ≤ m) (hf : ∀ c, c < n → in0 (f c) m) (hg : ∀ c, c < n → in0 (g c) m) (h : ∀ c, c < n → (f c).toInt ≤ (g c).toInt) : (sm f n).toInt ≤ (sm g n).toInt := by
  induction n with
  | zero => exact Int.le_refl _
  | succ n ih =>
    have i := ih (by omega) (fun c hc => hf c (by omega)) (fun c hc => hg c (by omega)) (fun c hc => h c (by omega))
    have a1 := sm_in (f := f) (n := n) (by omega) hm hm0 (fun c hc => hf c (by omega))
    have a2 := sm_in (f := g) (n := n) (by omega) hm hm0 (fun c hc => hg c (by omega))
    have b1 := hf n (by omega)
    have b2 := hg n (by omega)
    obtain ⟨b11, b12⟩ := b1
    obtain ⟨b21, b22⟩ := b2
    have h3 : (n : Int) * m ≤ 24 * 1000000000 := by
      have a1 : (n : Int) * m ≤ 24 * m := Int.mul_le_mul_of_nonneg_right (by omega) hm0
      omega
    have := h n (by omega)
    rw [sm, sm, i64_add (by omega) (by omega), i64_add (by omega) (by omega)]
    omega
theorem l_notlt {a b : Int64} (h : b.toInt ≤ a.toInt) : ¬ a < b := by
  rw [Int64.lt_iff_toInt_lt]
  omega
section RL
variable {S : SeaT} {C : ChoT} {G : GoT} {dr : Int64} {M : ModT} {n : Nat}
theorem f_am_in (h : Rl S C G dr M n) (X : Int32) {q : Nat} (hq : q < 8) : ∀ c, c < n → in0 (f_am M q X c) 720720000 := by
  obtain ⟨hn, hcx, hcm, hco, ham, hrest⟩ := h
  intro c hc
  unfold f_am
  cases bt X c with
  | false => exact in0_0 _ (by decide)
  | true =>
    have := ham c q (by omega) hq
    show in0 (M_amounts M (24 * q + c)) 720720000
    rw [← this.1]
    exact this.2.1
theorem f_ho_in (h : Rl S C G dr M n) (X : Int32) {q : Nat} (hq : q < 4) : ∀ c, c < n → in0 (f_ho M q X c) 1000000 := by
  obtain ⟨hn, hcx, hcm, hco, ham, hho, hrest⟩ := h
  intro c hc
  unfold f_ho
  cases bt X c with
  | false => exact in0_0 _ (by decide)
  | true =>
    have := hho c q (by omega) hq
    show in0 (M_hours M (24 * q + c)) 1000000
    rw [← this.1]
    exact this.2.1
theorem am_le (h : Rl S C G dr M n) (X : Int32) {q : Nat} (hq : q < 8) : 0 ≤ (sm (f_am M q X) n).toInt ∧ (sm (f_am M q X) n).toInt ≤ (sm (f_am M q (w_X5_all M)) n).toInt ∧ (sm (f_am M q (w_X5_all M)) n).toInt ≤ 24000000000 := by
  have a1 := sm_in h.1 (by decide) (by decide) (f_am_in h X hq)
  have a2 := sm_in h.1 (by decide) (by decide) (f_am_in h (w_X5_all M) hq)
  have hn := h.1
  refine ⟨a1.1, sm_le h.1 (by decide) (by decide) (f_am_in h X hq) (f_am_in h (w_X5_all M) hq) (fun c hc => ?_), by omega⟩
  have b := f_am_in h (w_X5_all M) hq c hc
  unfold f_am at b ⊢
  rw [all_bt h hc] at b ⊢
  obtain ⟨b1, b2⟩ := b
  cases bt X c with
  | false => exact b1
  | true => exact Int.le_refl _
theorem ho_le (h : Rl S C G dr M n) (X : Int32) {q : Nat} (hq : q < 4) : 0 ≤ (sm (f_ho M q X) n).toInt ∧ (sm (f_ho M q X) n).toInt ≤ (sm (f_ho M q (w_X5_all M)) n).toInt ∧ (sm (f_ho M q (w_X5_all M)) n).toInt ≤ 24000000000 := by
  have a1 := sm_in h.1 (by decide) (by decide) (f_ho_in h X hq)
  have a2 := sm_in h.1 (by decide) (by decide) (f_ho_in h (w_X5_all M) hq)
  have hn := h.1
  refine ⟨a1.1, sm_le h.1 (by decide) (by decide) (f_ho_in h X hq) (f_ho_in h (w_X5_all M) hq) (fun c hc => ?_), by omega⟩
  have b := f_ho_in h (w_X5_all M) hq c hc
  unfold f_ho at b ⊢
  rw [all_bt h hc] at b ⊢
  obtain ⟨b1, b2⟩ := b
  cases bt X c with
  | false => exact b1
  | true => exact Int.le_refl _
theorem meets_eq (h : Rl S C G dr M n) {T : TalT} (hT : Tal S n T) {q : Nat} (hq : q < 8) : w_X3_meetsGoal S T q = w_X5_meets M (T_cells T) n q := by
  unfold w_X3_meetsGoal w_X5_meets
  rw [hT.2.1 q hq, am_sum h _ hq, kt_all h hq]
  have hl := am_le h (T_cells T) hq
  obtain ⟨hn, hcx, hcm, hco, ham, hho, hbo, hfa, hkt, hpt, hgo, hrest⟩ := h
  rcases hgo q hq with ⟨g1, g2, g3⟩ | ⟨g1, g2, g3⟩
  · rw [if_pos g1, g2, g3, Int64.mul_one, Int64.mul_zero, if_neg (l_notlt (by rw [show (0 : Int64).toInt = 0 by decide]; exact hl.1))]
  · rw [if_neg g1, g2, g3]
theorem mG_eq (h : Rl S C G dr M n) {T : TalT} (hT : Tal S n T) : w_X3_meetsGoals S T = if al (okg M (T_cells T) n) 8 = true then 1 else 0 := by
  unfold w_X3_meetsGoals
  have : al (fun j => decide (¬ w_X3_meetsGoal S T j = 0)) 8 = al (okg M (T_cells T) n) 8 := by
    have key : ∀ i, i ≤ 8 → al (fun j => decide (¬ w_X3_meetsGoal S T j = 0)) i = al (okg M (T_cells T) n) i := by
      intro i
      induction i with
      | zero => intro _; rfl
      | succ i ih =>
        intro hi
        rw [al, al, ih (by omega)]
        unfold okg
        rw [meets_eq h hT (by omega)]
    exact key 8 (Nat.le_refl 8)
  rw [this]
def fr_x (S : SeaT) (T : TalT) : Nat → Bool := fun j => decide (¬ (S_portTotals S j * S_fairAbove S) < (T_hours T j * S_fairBelow S))
theorem fr_x1 (h : Rl S C G dr M n) {T : TalT} (hT : Tal S n T) (g2 : S_fairAbove S = 1) (g3 : S_fairBelow S = 1) {q : Nat} (hq : q < 4) : fr_x S T q = true := by
  unfold fr_x
  have e1 := pt_all h hq
  have e2 := hT.2.2.1 q hq
  rw [ho_sum h (T_cells T) hq] at e2
  rw [g2, g3, e1, e2, Int64.mul_one, Int64.mul_one]
  exact decide_eq_true (l_notlt (ho_le h (T_cells T) hq).2.1)
theorem fr_x2 (h : Rl S C G dr M n) {T : TalT} (hT : Tal S n T) (g2 : S_fairAbove S = M_fairAbove M) (g3 : S_fairBelow S = M_fairBelow M) {q : Nat} (hq : q < 4) : fr_x S T q = okf M (T_cells T) n q := by
  unfold fr_x okf
  have e1 := pt_all h hq
  have e2 := hT.2.2.1 q hq
  rw [ho_sum h (T_cells T) hq] at e2
  rw [g2, g3, e1, e2]
theorem al_congr {q r : Nat → Bool} {n : Nat} (h : ∀ j, j < n → q j = r j) : al q n = al r n := by
  induction n with
  | zero => rfl
  | succ n ih => rw [al, al, ih (fun j hj => h j (by omega)), h n (by omega)]
theorem fair_eq (h : Rl S C G dr M n) {T : TalT} (hT : Tal S n T) : w_X3_isFair S T = if M_isFair M = 0 then 1 else if al (okf M (T_cells T) n) 4 = true then 1 else 0 := by
  have hf : (M_isFair M = 0 ∧ S_fairAbove S = 1 ∧ S_fairBelow S = 1) ∨ (¬ M_isFair M = 0 ∧ S_fairAbove S = M_fairAbove M ∧ S_fairBelow S = M_fairBelow M) := by
    obtain ⟨hn, hcx, hcm, hco, ham, hho, hbo, hfa, hkt, hpt, hgo, hfr, hrest⟩ := h
    exact hfr
  have hd : w_X3_isFair S T = if al (fr_x S T) 4 = true then 1 else 0 := by
    unfold w_X3_isFair fr_x
    rfl
  rw [hd]
  rcases hf with ⟨g1, g2, g3⟩ | ⟨g1, g2, g3⟩
  · rw [if_pos g1, if_pos (al_iff.mpr (fun q hq => fr_x1 h hT g2 g3 hq))]
  · rw [if_neg g1, al_congr (fun q hq => fr_x2 h hT g2 g3 hq)]
theorem okc_eq (h : Rl S C G dr M n) {T : TalT} (hT : Tal S n T) : al (okc M (T_cells T)) n = true ↔ ((S_needed S &&& (T_cells T ^^^ (-1))) = 0 ∧ (S_barred S &&& T_cells T) = 0 ∧ T_farPairs T = 0) := by
  obtain ⟨t1, t2, t3, t4, ⟨m, t5, t6⟩, t7⟩ := hT
  have hP := P2_le S (T_cells T) h.1
  obtain ⟨hn, hcx, hcm, hco, ham, hho, hbo, hfa, hkt, hpt, hgo, hfr, hwt, hle, hst, hsz, hbz, hrest⟩ := h
  have hfar : T_farPairs T = 0 ↔ P2 S (T_cells T) n = 0 := by
    rw [t5]
    constructor
    · intro e
      have : m = 0 := (nI_eq (a := m) (b := 0) (by omega) (by omega)).mp e
      omega
    · intro e
      have : m = 0 := by omega
      rw [this]; rfl
  rw [hfar]
  unfold P2
  rw [sN_zero, al_iff]
  have hpair : ∀ c, c < n → bt (T_cells T) c = true → ((far2 S (T_cells T) c n = 0) ↔ ∀ d, d < n → (bt (T_cells T) d && bt (S_tooFar S c) d) = false) := by
    intro c hc _
    unfold far2
    rw [cq_sN, sN_zero]
    constructor
    · intro q d hd
      have := q d hd
      cases e : (bt (T_cells T) d && bt (S_tooFar S c) d) with
      | false => rfl
      | true => rw [e] at this; simp at this
    · intro q d hd
      rw [q d hd]; rfl
  constructor
  · intro hk
    have k1 : ∀ c, c < n → ¬ (M_states M c = 1 ∧ bt (T_cells T) c = false) := fun c hc q => by
      have := hk c hc; rw [okc_no1 q.1 q.2] at this; cases this
    have k2 : ∀ c, c < n → ¬ (M_states M c = 2 ∧ bt (T_cells T) c = true) := fun c hc q => by
      have := hk c hc; rw [okc_no2 q.1 q.2] at this; cases this
    have k3 : ∀ c, c < n → bt (T_cells T) c = true → okp M (T_cells T) c = true := fun c hc q => by
      cases e : okp M (T_cells T) c with
      | true => rfl
      | false => have := hk c hc; rw [okc_no3 e q] at this; cases this
    refine ⟨b_ext (fun c hc => ?_), b_ext (fun c hc => ?_), fun c hc => ?_⟩
    · rw [b_and, b_not _ hc, b_0]
      by_cases hcn : c < n
      · rw [(hst c hcn).1]
        cases e : bt (T_cells T) c with
        | true => simp
        | false =>
          have : ¬ M_states M c = 1 := fun q => k1 c hcn ⟨q, e⟩
          simp [this]
      · rw [(hbz c (by omega)).1]; rfl
    · rw [b_and, b_0]
      by_cases hcn : c < n
      · rw [(hst c hcn).2.1]
        cases e : bt (T_cells T) c with
        | false => simp
        | true =>
          have : ¬ M_states M c = 2 := fun q => k2 c hcn ⟨q, e⟩
          simp [this]
      · rw [(hbz c (by omega)).2.1]; rfl
    · cases e : bt (T_cells T) c with
      | false => rfl
      | true =>
        show far2 S (T_cells T) c n = 0
        rw [hpair c hc e]
        intro d hd
        cases e2 : bt (T_cells T) d with
        | false => rfl
        | true =>
          show (true && bt (S_tooFar S c) d) = false
          rw [Bool.true_and]
          rcases Nat.lt_trichotomy d c with q | q | q
          · have := al_iff.mp (k3 c hc e) d q
            rw [e2] at this
            rw [(hfa c d (by omega) (by omega)).1]
            simp at this
            simp [this]
          · rw [q]; exact (hfa c c (by omega) (by omega)).2.2
          · have := al_iff.mp (k3 d hd e2) c q
            rw [e] at this
            rw [(hfa c d (by omega) (by omega)).2.1, (hfa d c (by omega) (by omega)).1]
            simp at this
            simp [this]
  · rintro ⟨k1, k2, k3⟩ c hc
    refine okc_ok ?_ ?_ ?_
    · rintro ⟨q1, q2⟩
      have := congrArg (fun z => bt z c) k1
      simp only [b_and, b_not _ (show c < 32 by omega), b_0, (hst c hc).1, q1, q2] at this
      simp at this
    · rintro ⟨q1, q2⟩
      have := congrArg (fun z => bt z c) k2
      simp only [b_and, b_0, (hst c hc).2.1, q1, q2] at this
      simp at this
    · intro e
      have := k3 c hc
      rw [e] at this
      have h9 := (hpair c hc e).mp this
      refine al_iff.mpr (fun d hd => ?_)
      have h10 := h9 d (by omega)
      rw [(hfa c d (by omega) (by omega)).1] at h10
      rw [h10]; rfl
theorem stands_eq (h : Rl S C G dr M n) {T : TalT} (hT : Tal S n T) : w_X3_stands S T = w_X5_stands M (T_cells T) n := by
  have hk := okc_eq h hT
  unfold w_X3_stands w_X5_stands
  rw [bc_n (n := n) (by have := h.1; omega) hT.2.2.2.2.2, mG_eq h hT, fair_eq h hT]
  have hle : S_fewest S = M_least M := by
    obtain ⟨hn, hcx, hcm, hco, ham, hho, hbo, hfa, hkt, hpt, hgo, hfr, hwt, hle, hrest⟩ := h
    exact hle
  rw [hle]
  by_cases a1 : (S_needed S &&& (T_cells T ^^^ (-1))) = 0
  · by_cases a2 : (S_barred S &&& T_cells T) = 0
    · by_cases a3 : T_farPairs T = 0
      · rw [if_pos a1, if_pos a2, if_pos (hk.mpr ⟨a1, a2, a3⟩), if_pos a3]
        by_cases a4 : nI (cn (T_cells T) n) < M_least M
        · rw [if_pos a4, if_pos a4]
        · rw [if_neg a4, if_neg a4]
          by_cases a5 : al (okg M (T_cells T) n) 8 = true
          · rw [if_pos a5, if_pos a5, if_neg (by decide)]
            by_cases a6 : M_isFair M = 0
            · rw [if_pos a6, if_neg (by decide)]
            · rw [if_neg a6]
              by_cases a7 : al (okf M (T_cells T) n) 4 = true
              · rw [if_pos a7, if_neg (by decide)]
              · rw [if_neg a7, if_pos rfl]
          · rw [if_neg a5, if_neg a5, if_pos rfl]
      · rw [if_pos a1, if_pos a2, if_neg a3, if_neg (fun q => a3 (hk.mp q).2.2)]
        split <;> rfl
    · rw [if_pos a1, if_neg a2, if_neg (fun q => a2 (hk.mp q).2.1)]
  · rw [if_neg a1, if_neg (fun q => a1 (hk.mp q).1)]
theorem rl_border (h : Rl S C G dr M n) (T : TalT) (tr : Int64) (F : Nat → Int32) : w_X4_border S T C n = w_X5_border M n ∧ ∃ n2, Rl S C G dr M n2 := by
  refine ⟨?_, n, h⟩
  unfold w_X4_border w_X5_border
  have hbz : ∀ c, n ≤ c → bt (C_cells C) c = false := by
    obtain ⟨hn, hcx, hcm, hco, ham, hho, hbo, hfa, hkt, hpt, hgo, hfr, hwt, hle, hst, hsz, hbz, hrest⟩ := h
    exact fun c hc => (hbz c hc).2.2.1
  rcases ch_cases h with ⟨c1, c2, c3, c4⟩ | ⟨c1, c2, c3, c4⟩
  · rw [if_pos c1, if_pos c2]
  · rw [if_neg (by rw [c1]; decide), if_neg (by rw [c2]; decide)]
    have hT := (bgT_Tal (rl_sym h) h.1 T (C_cells C) n (Nat.le_refl n)).1
    rw [hT.2.2.2.1, bgT_set (rl_sym h) h.1 T hbz, bl_eq h, c3]
end RL
