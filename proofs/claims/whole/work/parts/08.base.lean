/-! ===== Int32 by its bits: bt x i (the family of kit/laws/BITS, as it stands there) ===== -/
def bt (x : Int32) (i : Nat) : Bool := x.toBitVec.getLsbD i
theorem b_ext {x y : Int32} (h : ∀ i, i < 32 → bt x i = bt y i) : x = y := Int32.toBitVec_inj.mp (BitVec.eq_of_getLsbD_eq (fun i hi => h i hi))
theorem b_or (x y : Int32) (i : Nat) : bt (x ||| y) i = (bt x i || bt y i) := by unfold bt; rw [Int32.toBitVec_or, BitVec.getLsbD_or]
theorem b_and (x y : Int32) (i : Nat) : bt (x &&& y) i = (bt x i && bt y i) := by unfold bt; rw [Int32.toBitVec_and, BitVec.getLsbD_and]
theorem b_xor (x y : Int32) (i : Nat) : bt (x ^^^ y) i = (bt x i ^^ bt y i) := by unfold bt; rw [Int32.toBitVec_xor, BitVec.getLsbD_xor]
theorem b_big {x : Int32} {i : Nat} (h : 32 ≤ i) : bt x i = false := BitVec.getLsbD_of_ge _ _ h
theorem b_255 (i : Nat) : bt 255 i = decide (i < 8) := by
  rcases Nat.lt_or_ge i 32 with h | h
  · exact (by decide +kernel : ∀ i, i < 32 → bt 255 i = decide (i < 8)) i h
  · rw [b_big h, decide_eq_false (by omega)]
theorem b_65535 (i : Nat) : bt 65535 i = decide (i < 16) := by
  rcases Nat.lt_or_ge i 32 with h | h
  · exact (by decide +kernel : ∀ i, i < 32 → bt 65535 i = decide (i < 16)) i h
  · rw [b_big h, decide_eq_false (by omega)]
theorem b_m1 : ∀ i, i < 32 → bt (-1) i = true := by decide +kernel
theorem b_0 (i : Nat) : bt 0 i = false := BitVec.getLsbD_zero
theorem s_l : ∀ n, n < 32 → ((nI n &&& 31).toBitVec.smod 32).toNat = n := by decide +kernel
theorem s_u : ∀ n, n < 32 → (((nI n).toUInt32 &&& Int32.toUInt32 31).toBitVec % 32).toNat = n := by decide +kernel
theorem b_shl (n : Nat) (hn : n < 32) (x : Int32) {i : Nat} (hi : i < 32) : bt (x <<< (nI n &&& 31)) i = (decide (n ≤ i) && bt x (i - n)) := by
  unfold bt
  rw [Int32.toBitVec_shiftLeft]
  show (x.toBitVec <<< ((nI n &&& 31).toBitVec.smod 32).toNat).getLsbD i = _
  rw [s_l n hn, BitVec.getLsbD_shiftLeft]
  rcases Nat.lt_or_ge i n with h | h
  · simp [h, Nat.not_le.mpr h]
  · simp [hi, h, Nat.not_lt.mpr h]
theorem b_ushr (n : Nat) (hn : n < 32) (x : Int32) (i : Nat) : bt ((x.toUInt32 >>> ((nI n).toUInt32 &&& Int32.toUInt32 31)).toInt32) i = bt x (n + i) := by
  show (x.toUInt32 >>> ((nI n).toUInt32 &&& Int32.toUInt32 31)).toBitVec.getLsbD i = x.toUInt32.toBitVec.getLsbD (n + i)
  rw [UInt32.toBitVec_shiftRight]
  show (x.toUInt32.toBitVec >>> (((nI n).toUInt32 &&& Int32.toUInt32 31).toBitVec % 32).toNat).getLsbD i = _
  rw [s_u n hn, BitVec.getLsbD_ushiftRight]
theorem b_sshr (n : Nat) (hn : n < 32) (x : Int32) {i : Nat} (hi : i < 32) : bt (x >>> (nI n &&& 31)) i = if n + i < 32 then bt x (n + i) else bt x 31 := by
  unfold bt
  rw [Int32.toBitVec_shiftRight]
  show (x.toBitVec.sshiftRight ((nI n &&& 31).toBitVec.smod 32).toNat).getLsbD i = _
  rw [s_l n hn, BitVec.getLsbD_sshiftRight, BitVec.msb_eq_getLsbD_last]
  simp [hi]
theorem b_shl8 (x : Int32) {i : Nat} (hi : i < 32) : bt (x <<< ((8 : Int32) &&& 31)) i = (decide (8 ≤ i) && bt x (i - 8)) := b_shl 8 (by omega) x hi
theorem b_shl16 (x : Int32) {i : Nat} (hi : i < 32) : bt (x <<< ((16 : Int32) &&& 31)) i = (decide (16 ≤ i) && bt x (i - 16)) := b_shl 16 (by omega) x hi
theorem b_shl24 (x : Int32) {i : Nat} (hi : i < 32) : bt (x <<< ((24 : Int32) &&& 31)) i = (decide (24 ≤ i) && bt x (i - 24)) := b_shl 24 (by omega) x hi
theorem b_sshr8 (x : Int32) {i : Nat} (hi : i < 32) : bt (x >>> ((8 : Int32) &&& 31)) i = if 8 + i < 32 then bt x (8 + i) else bt x 31 := b_sshr 8 (by omega) x hi
/-! ===== sums, all, and the class's own test of a bit ===== -/
def sm (f : Nat → Int64) : Nat → Int64
  | 0 => 0
  | n + 1 => sm f n + f n
def al (q : Nat → Bool) : Nat → Bool
  | 0 => true
  | n + 1 => al q n && q n
theorem al_iff {q : Nat → Bool} {n : Nat} : al q n = true ↔ ∀ j, j < n → q j = true := by
  induction n with
  | zero => exact ⟨fun _ j h => absurd h (Nat.not_lt_zero j), fun _ => rfl⟩
  | succ n ih =>
    rw [al, Bool.and_eq_true, ih]
    constructor
    · intro h j hj
      rcases Nat.lt_or_ge j n with h1 | h1
      · exact h.1 j h1
      · rw [show j = n by omega]; exact h.2
    · intro h
      exact ⟨fun j hj => h j (by omega), h n (by omega)⟩
theorem al_not {q : Nat → Bool} {n j : Nat} (hj : j < n) (h : q j = false) : al q n = false := by
  cases e : al q n with
  | false => rfl
  | true => rw [al_iff.mp e j hj] at h; cases h
theorem b_1 : ∀ i, i < 32 → bt 1 i = decide (i = 0) := by decide +kernel
theorem iu_bt (x : Int32) {n : Nat} (hn : n < 32) (i : Nat) : bt (iu x (nI n)) i = bt x (n + i) := b_ushr n hn x i
theorem hb0 (x : Int32) {n : Nat} (hn : n < 32) : w_hasBit x (nI n) = 0 ↔ bt x n = false := by
  have key : (iu x (nI n) &&& 1) = 0 ↔ bt x n = false := by
    constructor
    · intro h
      have h2 : bt (iu x (nI n) &&& 1) 0 = bt 0 0 := by rw [h]
      rw [b_and, iu_bt x hn, b_0, b_1 0 (by omega)] at h2
      simpa using h2
    · intro h
      refine b_ext (fun i hi => ?_)
      rw [b_and, iu_bt x hn, b_0, b_1 i hi]
      by_cases h0 : i = 0
      · subst h0; rw [Nat.add_zero, h]; rfl
      · simp [h0]
  unfold w_hasBit
  by_cases h : (iu x (nI n) &&& 1) = 0
  · rw [if_pos h]; exact ⟨fun _ => key.mp h, fun _ => rfl⟩
  · rw [if_neg h]; exact ⟨fun q => absurd q (by decide), fun q => absurd (key.mpr q) h⟩
theorem hb1 (x : Int32) {n : Nat} (hn : n < 32) : ¬ w_hasBit x (nI n) = 0 ↔ bt x n = true := by
  rw [hb0 x hn]; cases bt x n <;> simp
theorem nI_lit8 (i : Nat) : nI i * 8 = nI (i * 8) := pk_mul i 8
theorem ix8 (i j : Nat) : nI i * 8 + nI j = nI (i * 8 + j) := by rw [show (nI i * 8 : Int32) = nI (i * 8) from pk_mul i 8, nI_add]
theorem ix4 (i j : Nat) : nI i * 4 + nI j = nI (i * 4 + j) := by rw [show (nI i * 4 : Int32) = nI (i * 4) from pk_mul i 4, nI_add]
theorem ix24 (i j : Nat) : nI i * 24 + nI j = nI (i * 24 + j) := by rw [show (nI i * 24 : Int32) = nI (i * 24) from pk_mul i 24, nI_add]
theorem ix24r (i j : Nat) : 24 * nI i + nI j = nI (24 * i + j) := by rw [show (24 * nI i : Int32) = nI (24 * i) from pk_mul 24 i, nI_add]
