/-! THE TALLY: its sums are those of its cells, and an exchange keeps that -/
theorem sm_add (f g : Nat → Int64) (n : Nat) : sm (fun c => f c + g c) n = sm f n + sm g n := by
  induction n with
  | zero => rfl
  | succ n ih => rw [sm, sm, sm, ih]; grind
theorem sm_zero {f : Nat → Int64} {n : Nat} (h : ∀ c, c < n → f c = 0) : sm f n = 0 := by
  induction n with
  | zero => rfl
  | succ n ih => rw [sm, ih (fun c hc => h c (by omega)), h n (by omega)]; rfl
theorem sm_one {f : Nat → Int64} {j n : Nat} (hj : j < n) (h : ∀ c, c < n → c ≠ j → f c = 0) : sm f n = f j := by
  rw [sm_upd (f := fun _ => 0) (g := f) hj h, sm_zero (fun _ _ => rfl)]
  grind
def inn (S : SeaT) (X : Int32) (c n : Nat) : Int64 := sm (fun d => if bt X d then 0 else S_borders S (c * 24 + d)) n
def bl (S : SeaT) (X : Int32) (n : Nat) : Int64 := sm (fun c => if bt X c then inn S X c n else 0) n
def Sym (S : SeaT) : Prop := (∀ c d, c < 24 → d < 24 → S_borders S (c * 24 + d) = S_borders S (d * 24 + c) ∧ S_borders S (c * 24 + c) = 0) ∧ (∀ c d, c < 24 → d < 24 → bt (S_tooFar S c) d = bt (S_tooFar S d) c ∧ bt (S_tooFar S c) c = false)
theorem bl_congr {S : SeaT} {X Y : Int32} {n : Nat} (h : ∀ c, c < n → bt X c = bt Y c) : bl S X n = bl S Y n := by
  unfold bl
  refine sm_congr (fun c hc => ?_)
  rw [h c hc]
  have : inn S X c n = inn S Y c n := by
    unfold inn
    exact sm_congr (fun d hd => by rw [h d hd])
  rw [this]
theorem bl_add {S : SeaT} {X X' : Int32} {n j : Nat} (hs : Sym S) (hn : n ≤ 24) (hj : j < n) (hX : bt X j = false) (hX' : ∀ c, c < n → bt X' c = (bt X c || decide (c = j))) : bl S X' n = bl S X n + sm (f_bg S j X) n := by
  have hin : ∀ c, c < n → inn S X' c n = inn S X c n - S_borders S (c * 24 + j) := by
    intro c hc
    unfold inn
    rw [sm_upd (f := fun d => if bt X d then 0 else S_borders S (c * 24 + d)) (g := fun d => if bt X' d then 0 else S_borders S (c * 24 + d)) hj (fun d hd hne => by simp [hX' d hd, hne])]
    simp only [hX' j hj, hX]
    simp
    grind
  have h1 : bl S X' n = sm (fun c => (if bt X c then inn S X c n else 0) + ((if bt X c then -(S_borders S (j * 24 + c)) else 0) + (if c = j then inn S X j n else 0))) n := by
    unfold bl
    refine sm_congr (fun c hc => ?_)
    rw [hX' c hc]
    by_cases hcj : c = j
    · subst hcj
      rw [hX]
      simp
      rw [hin c hc, (hs.1 c c (by omega) (by omega)).2]
      grind
    · cases hb : bt X c with
      | false => simp [hcj]
      | true =>
        simp [hcj]
        rw [hin c hc, (hs.1 c j (by omega) (by omega)).1]
        grind
  rw [h1, sm_add, sm_add]
  have h2 : sm (fun c => if c = j then inn S X j n else 0) n = inn S X j n := by
    rw [sm_one hj (fun c hc hne => by simp [hne])]
    simp
  have h3 : sm (f_bg S j X) n = sm (fun c => (if bt X c then -(S_borders S (j * 24 + c)) else 0) + (if bt X c then 0 else S_borders S (j * 24 + c))) n := by
    refine sm_congr (fun c hc => ?_)
    unfold f_bg
    cases bt X c with
    | false => simp
    | true => simp
  rw [h2, h3, sm_add]
  rfl
/-! the pairs that are too far, twice -/
def sN (f : Nat → Nat) : Nat → Nat
  | 0 => 0
  | n + 1 => sN f n + f n
theorem sN_congr {f g : Nat → Nat} {n : Nat} (h : ∀ c, c < n → f c = g c) : sN f n = sN g n := by
  induction n with
  | zero => rfl
  | succ n ih => rw [sN, sN, ih (fun c hc => h c (by omega)), h n (by omega)]
theorem sN_add (f g : Nat → Nat) (n : Nat) : sN (fun c => f c + g c) n = sN f n + sN g n := by
  induction n with
  | zero => rfl
  | succ n ih => rw [sN, sN, sN, ih]; omega
theorem sN_zero {f : Nat → Nat} {n : Nat} : sN f n = 0 ↔ ∀ c, c < n → f c = 0 := by
  induction n with
  | zero => exact ⟨fun _ c hc => absurd hc (Nat.not_lt_zero c), fun _ => rfl⟩
  | succ n ih =>
    rw [sN]
    constructor
    · intro h c hc
      rcases Nat.lt_or_ge c n with h1 | h1
      · exact ih.mp (by omega) c h1
      · rw [show c = n by omega]; omega
    · intro h
      rw [ih.mpr (fun c hc => h c (by omega)), h n (by omega)]
theorem sN_le {f : Nat → Nat} {n m : Nat} (h : ∀ c, c < n → f c ≤ m) : sN f n ≤ n * m := by
  induction n with
  | zero => exact Nat.zero_le _
  | succ n ih =>
    rw [sN, Nat.succ_mul]
    have := ih (fun c hc => h c (by omega))
    have := h n (by omega)
    omega
theorem sN_one {f : Nat → Nat} {j n : Nat} (hj : j < n) (h : ∀ c, c < n → c ≠ j → f c = 0) : sN f n = f j := by
  induction n with
  | zero => omega
  | succ n ih =>
    rw [sN]
    rcases Nat.lt_or_ge j n with h1 | h1
    · rw [ih h1 (fun c hc hne => h c (by omega) hne), h n (by omega) (by omega)]; rfl
    · have e : j = n := by omega
      subst e
      rw [sN_zero.mpr (fun c hc => h c (by omega) (by omega))]; omega
theorem cq_sN (q : Nat → Bool) (n : Nat) : cq q n = sN (fun c => if q c then 1 else 0) n := by
  induction n with
  | zero => rfl
  | succ n ih =>
    rw [cq, sN, ih]
    cases q n <;> simp
def far2 (S : SeaT) (X : Int32) (c n : Nat) : Nat := cq (fun d => bt X d && bt (S_tooFar S c) d) n
def P2 (S : SeaT) (X : Int32) (n : Nat) : Nat := sN (fun c => if bt X c then far2 S X c n else 0) n
theorem P2_congr {S : SeaT} {X Y : Int32} {n : Nat} (h : ∀ c, c < n → bt X c = bt Y c) : P2 S X n = P2 S Y n := by
  unfold P2
  refine sN_congr (fun c hc => ?_)
  rw [h c hc]
  have : far2 S X c n = far2 S Y c n := by
    unfold far2
    exact cq_congr (fun d hd => by rw [h d hd])
  rw [this]
theorem P2_le (S : SeaT) (X : Int32) {n : Nat} (hn : n ≤ 24) : P2 S X n ≤ 576 := by
  have h := sN_le (f := fun c => if bt X c then far2 S X c n else 0) (n := n) (m := n) (fun c hc => by
    have := cq_le (fun d => bt X d && bt (S_tooFar S c) d) n
    show (if bt X c then far2 S X c n else 0) ≤ n
    unfold far2
    split <;> omega)
  have h2 : n * n ≤ 24 * 24 := Nat.mul_le_mul hn hn
  unfold P2
  omega
theorem P2_add {S : SeaT} {X X' : Int32} {n j : Nat} (hs : Sym S) (hn : n ≤ 24) (hj : j < n) (hX : bt X j = false) (hX' : ∀ c, c < n → bt X' c = (bt X c || decide (c = j))) : P2 S X' n = P2 S X n + 2 * far2 S X j n := by
  have hin : ∀ c, c < n → far2 S X' c n = far2 S X c n + (if bt (S_tooFar S c) j then 1 else 0) := by
    intro c hc
    unfold far2
    rw [cq_sN, cq_sN, sN_congr (g := fun d => (if (bt X d && bt (S_tooFar S c) d) then 1 else 0) + (if d = j then (if bt (S_tooFar S c) j then 1 else 0) else 0)) (fun d hd => by
      rw [hX' d hd]
      by_cases h1 : d = j
      · subst h1
        rw [hX]
        cases bt (S_tooFar S c) d <;> simp
      · simp [h1])]
    rw [sN_add, sN_one (f := fun d => if d = j then (if bt (S_tooFar S c) j then 1 else 0) else 0) (j := j) hj (fun d hd hne => by simp [hne])]
    simp
  have h1 : P2 S X' n = sN (fun c => (if bt X c then far2 S X c n else 0) + ((if (bt X c && bt (S_tooFar S j) c) then 1 else 0) + (if c = j then far2 S X j n else 0))) n := by
    unfold P2
    refine sN_congr (fun c hc => ?_)
    rw [hX' c hc]
    by_cases hcj : c = j
    · subst hcj
      rw [hX]
      simp
      rw [hin c hc, (hs.2 c c (by omega) (by omega)).2]
      simp
    · cases hb : bt X c with
      | false => simp [hcj]
      | true =>
        simp [hcj]
        rw [hin c hc, (hs.2 c j (by omega) (by omega)).1]
  rw [h1, sN_add, sN_add, ← cq_sN]
  have h2 : sN (fun c => if c = j then far2 S X j n else 0) n = far2 S X j n := by
    rw [sN_one hj (fun c hc hne => by simp [hne])]
    simp
  rw [h2]
  show P2 S X n + (far2 S X j n + far2 S X j n) = _
  omega
/-- what the tally holds is what its cells say -/
def Tal (S : SeaT) (n : Nat) (T : TalT) : Prop :=
  T_cellCosts T = sm (f_costsOf S (T_cells T)) n ∧ (∀ q, q < 8 → T_amounts T q = sm (fun c => if bt (T_cells T) c then S_amounts S (c * 8 + q) else 0) n) ∧ (∀ q, q < 4 → T_hours T q = sm (fun c => if bt (T_cells T) c then S_hours S (c * 4 + q) else 0) n) ∧ T_borderLength T = bl S (T_cells T) n ∧ (∃ m, T_farPairs T = nI m ∧ 2 * m = P2 S (T_cells T) n) ∧ (∀ c, n ≤ c → bt (T_cells T) c = false)
theorem upto_upd {f : Nat → Int64} {g : Nat → Nat → Int64} {h : Nat → Int64} (h0 : g 0 = f) (hs : ∀ i, g (i + 1) = vp_updL (g i) i (g i i + h i)) (N : Nat) : ∀ q, g N q = if q < N then f q + h q else f q := by
  induction N with
  | zero => intro q; rw [h0]; simp
  | succ N ih =>
    intro q
    rw [hs]
    unfold vp_updL
    by_cases hq : q = N
    · subst hq
      rw [if_pos rfl, if_pos (by omega), ih, if_neg (by omega)]
    · rw [if_neg hq, ih]
      by_cases h1 : q < N
      · rw [if_pos h1, if_pos (by omega)]
      · rw [if_neg h1, if_neg (by omega)]
theorem exA_at (S : SeaT) (T : TalT) (j : Nat) {q : Nat} (hq : q < 8) : exA S T j 8 q = T_amounts T q + (Int32.toInt64 (sgI T j) * S_amounts S (j * 8 + q)) := by
  rw [upto_upd (f := T_amounts T) (g := exA S T j) (h := fun i => Int32.toInt64 (sgI T j) * S_amounts S (j * 8 + i)) rfl (fun _ => rfl) 8 q, if_pos hq]
theorem exH_at (S : SeaT) (T : TalT) (j : Nat) {q : Nat} (hq : q < 4) : exH S T j 4 q = T_hours T q + (Int32.toInt64 (sgI T j) * S_hours S (j * 4 + q)) := by
  rw [upto_upd (f := T_hours T) (g := exH S T j) (h := fun i => Int32.toInt64 (sgI T j) * S_hours S (j * 4 + i)) rfl (fun _ => rfl) 4 q, if_pos hq]
theorem b_flip (x : Int32) {j c : Nat} (hj : j < 32) (hc : c < 32) : bt (x ^^^ (1 <<< (nI j &&& 31))) c = (bt x c ^^ decide (c = j)) := by rw [b_xor, b_one j hj c hc]
theorem sm_flip {f : Nat → Int64} {X X' : Int32} {n j : Nat} (hj : j < n) (hX' : ∀ c, c < n → bt X' c = (bt X c ^^ decide (c = j))) : sm (fun c => if bt X' c then f c else 0) n = sm (fun c => if bt X c then f c else 0) n + (if bt X j then -(f j) else f j) := by
  rw [sm_upd (f := fun c => if bt X c then f c else 0) (g := fun c => if bt X' c then f c else 0) hj (fun c hc hne => by simp [hX' c hc, hne])]
  simp only [hX' j hj]
  cases bt X j with
  | false => simp
  | true => simp
theorem sg_mul (T : TalT) (j : Nat) (v : Int64) : Int32.toInt64 (sgI T j) * v = if bt (T_cells T) j then -v else v := by
  unfold sgI
  cases bt (T_cells T) j with
  | false =>
    simp
  | true =>
    simp
    grind
