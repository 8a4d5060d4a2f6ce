/-! counts of bits, the first place that a test finds, Euclid's steps, the free cells in a row -/
def cn (x : Int32) : Nat → Nat
  | 0 => 0
  | i + 1 => if bt x i then cn x i + 1 else cn x i
theorem cn_le (x : Int32) (i : Nat) : cn x i ≤ i := by
  induction i with
  | zero => exact Nat.le_refl 0
  | succ i ih =>
    rw [cn]
    split <;> omega
theorem cn_mono (x : Int32) {i j : Nat} (h : i ≤ j) : cn x i ≤ cn x j := by
  induction j with
  | zero => rw [show i = 0 by omega]; exact Nat.le_refl _
  | succ j ih =>
    rcases Nat.lt_or_ge i (j + 1) with h1 | h1
    · refine Nat.le_trans (ih (by omega)) ?_
      rw [cn]
      split <;> omega
    · rw [show i = j + 1 by omega]; exact Nat.le_refl _
def fnd (q : Nat → Bool) : Nat → Int32
  | 0 => -1
  | n + 1 => if fnd q n = -1 then (if q n then nI n else -1) else fnd q n
theorem nI_ne_m1 {n : Nat} (h : n < 2 ^ 31) : ¬ nI n = -1 := by
  intro e
  have h1 : (nI n).toInt = (-1 : Int32).toInt := by rw [e]
  rw [nI_toInt h] at h1
  have h2 : (-1 : Int32).toInt = -1 := by decide
  omega
theorem fnd_none {q : Nat → Bool} {n : Nat} (h : ∀ j, j < n → q j = false) : fnd q n = -1 := by
  induction n with
  | zero => rfl
  | succ n ih =>
    rw [fnd, if_pos (ih (fun j hj => h j (by omega))), h n (by omega)]
    rfl
theorem fnd_some {q : Nat → Bool} {n i : Nat} (hn : n < 2 ^ 31) (h : ∀ j, j < i → q j = false) (hi : i < n) (hq : q i = true) : fnd q n = nI i := by
  induction n with
  | zero => omega
  | succ n ih =>
    rw [fnd]
    rcases Nat.lt_or_ge i n with h1 | h1
    · rw [ih (by omega) h1, if_neg (nI_ne_m1 (by omega))]
    · have e : i = n := by omega
      subst e
      rw [if_pos (fnd_none h), if_pos hq]
theorem fnd_congr {q r : Nat → Bool} {n : Nat} (h : ∀ j, j < n → q j = r j) : fnd q n = fnd r n := by
  induction n with
  | zero => rfl
  | succ n ih => rw [fnd, fnd, ih (fun j hj => h j (by omega)), h n (by omega)]
theorem fnd_cut {q : Nat → Bool} {n m : Nat} (hnm : n ≤ m) (h : ∀ j, n ≤ j → j < m → q j = false) : fnd q m = fnd q n := by
  induction m with
  | zero => rw [show n = 0 by omega]
  | succ m ih =>
    rcases Nat.lt_or_ge n (m + 1) with h1 | h1
    · have e := ih (by omega) (fun j h2 h3 => h j h2 (by omega))
      rw [fnd, h m (by omega) (by omega)]
      split
      · rename_i h9
        rw [← e, h9]
        rfl
      · exact e
    · rw [show n = m + 1 by omega]
/-- Euclid's steps, in Java's own remainder -/
def eu (a b : Int64) : Nat → Int64 × Int64
  | 0 => (a, b)
  | i + 1 => if (eu a b i).2 = 0 then eu a b i else ((eu a b i).2, (eu a b i).1 - (eu a b i).1 / (eu a b i).2 * (eu a b i).2)
theorem eu_stop {a b : Int64} {i n : Nat} (h : (eu a b i).2 = 0) (hn : i ≤ n) : eu a b n = eu a b i := by
  induction n with
  | zero => rw [show i = 0 by omega]
  | succ n ih =>
    rcases Nat.lt_or_ge i (n + 1) with h1 | h1
    · have e := ih (by omega)
      rw [eu, e, if_pos h]
    · rw [show i = n + 1 by omega]
/-- the free cells, in a row: the m-th place of a bit -/
def fcN (x : Int32) : Nat → Nat → Nat
  | 0, _ => 0
  | i + 1, m => if bt x i then (if m = cn x i then i else fcN x i m) else fcN x i m
def lfF (x : Int32) (F : Nat → Int32) : Nat → Nat → Int32
  | 0 => F
  | i + 1 => if bt x i then upd (lfF x F i) (cn x i) (nI i) else lfF x F i
theorem lfF_at (x : Int32) (F : Nat → Int32) {i m : Nat} (hm : m < cn x i) : lfF x F i m = nI (fcN x i m) := by
  induction i with
  | zero => exact absurd hm (Nat.not_lt_zero m)
  | succ i ih =>
    rw [lfF, fcN]
    rw [cn] at hm
    by_cases hb : bt x i = true
    · rw [if_pos hb] at hm ⊢
      rw [if_pos hb]
      by_cases he : m = cn x i
      · rw [if_pos he, he]; exact pk_us
      · rw [if_neg he, pk_un he]; exact ih (by omega)
    · rw [if_neg hb] at hm ⊢
      rw [if_neg hb]
      exact ih hm
theorem fcN_lt (x : Int32) {i m : Nat} (hm : m < cn x i) : fcN x i m < i := by
  induction i with
  | zero => exact absurd hm (Nat.not_lt_zero m)
  | succ i ih =>
    rw [fcN]
    rw [cn] at hm
    by_cases hb : bt x i = true
    · rw [if_pos hb] at hm ⊢
      by_cases he : m = cn x i
      · rw [if_pos he]; omega
      · rw [if_neg he]; have := ih (by omega); omega
    · rw [if_neg hb] at hm ⊢
      have := ih hm; omega
theorem bc_nat (x : Int32) : ∃ j : Nat, j < 64 ∧ w_bitCount x = nI j := pk_andE _ 6 (by decide)
theorem m2_pos {k : Nat} (h : k ≤ 12) : 2 ^ k ≤ 4096 := Nat.pow_le_pow_right (by omega) h
theorem shl_nI : ∀ k, k < 31 → (1 : Int32) <<< (nI k &&& 31) = nI (2 ^ k) := by decide +kernel
theorem lrem_nI {v : Int64} {n : Nat} (h0 : 0 < n) (hn : n < 2 ^ 31) (hv : ¬ v < 0) : ∃ j : Nat, j < n ∧ Int64.toInt32 (v - v / Int32.toInt64 (nI n) * Int32.toInt64 (nI n)) = nI j := by
  obtain ⟨q, hq, rfl⟩ := pk_lOf hv
  rw [nI_l hn, pk_lRem hq h0 (by omega)]
  exact ⟨q % n, Nat.mod_lt _ h0, lN_i _⟩
theorem lu1_nonneg (x : Int64) : ¬ lu x 1 < 0 := by
  intro h
  have h1 : (lu x 1).toBitVec.msb = false := by
    show (x.toUInt64 >>> ((1 : Int32).toInt64.toUInt64 &&& Int64.toUInt64 63)).toBitVec.msb = false
    rw [UInt64.toBitVec_shiftRight]
    show (x.toUInt64.toBitVec >>> ((((1 : Int32).toInt64.toUInt64 &&& Int64.toUInt64 63).toBitVec % 64).toNat)).msb = false
    rw [show ((((1 : Int32).toInt64.toUInt64 &&& Int64.toUInt64 63).toBitVec % 64).toNat) = 1 by decide +kernel]
    rw [BitVec.msb_ushiftRight]
    rfl
  have h2 : (lu x 1).toInt < 0 := by simpa [Int64.lt_iff_toInt_lt] using h
  rw [← Int64.toInt_toBitVec] at h2
  have h3 := BitVec.msb_eq_toInt (x := (lu x 1).toBitVec)
  rw [h1, decide_eq_true h2] at h3
  cases h3
