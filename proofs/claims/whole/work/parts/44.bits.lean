/-! bitCount is the number of bits -/
theorem and2 {a m b m' : Nat} (ha : a < 256) (hm : m < 256) : (a + 256 * b) &&& (m + 256 * m') = (a &&& m) + 256 * (b &&& m') := by
  have h1 : ((a + 256 * b) &&& (m + 256 * m')) % 256 = a &&& m := by
    rw [show (256 : Nat) = 2 ^ 8 from rfl, Nat.and_mod_two_pow, show (a + 2 ^ 8 * b) % 2 ^ 8 = a by omega, show (m + 2 ^ 8 * m') % 2 ^ 8 = m by omega]
  have h2 : ((a + 256 * b) &&& (m + 256 * m')) / 256 = b &&& m' := by
    rw [show (256 : Nat) = 2 ^ 8 from rfl, Nat.and_div_two_pow, show (a + 2 ^ 8 * b) / 2 ^ 8 = b by omega, show (m + 2 ^ 8 * m') / 2 ^ 8 = m' by omega]
  omega
theorem and4 {a b c d m : Nat} (ha : a < 256) (hb : b < 256) (hc : c < 256) (hm : m < 256) : (a + 256 * b + 65536 * c + 16777216 * d) &&& (m + 256 * m + 65536 * m + 16777216 * m) = (a &&& m) + 256 * (b &&& m) + 65536 * (c &&& m) + 16777216 * (d &&& m) := by
  rw [show a + 256 * b + 65536 * c + 16777216 * d = a + 256 * (b + 256 * (c + 256 * d)) by omega, show m + 256 * m + 65536 * m + 16777216 * m = m + 256 * (m + 256 * (m + 256 * m)) by omega, and2 ha hm, and2 hb hm, and2 hc hm]
  omega
def g1 (a : Nat) : Nat := a - ((a / 2) &&& 85)
def g2 (y : Nat) : Nat := (y &&& 51) + ((y / 4) &&& 51)
def g3 (z : Nat) : Nat := (z + z / 16) % 16
theorem t_1 : ∀ u, u < 128 → ∀ v, v < 2 → (u + 128 * v) &&& 85 = u &&& 85 := by decide +kernel
theorem t_2 : ∀ u, u < 64 → ∀ v, v < 4 → (u + 64 * v) &&& 51 = u &&& 51 := by decide +kernel
theorem t_3 : ∀ a, a < 256 → (a / 2) &&& 85 ≤ a ∧ g1 a < 256 ∧ g2 (g1 a) ≤ 68 ∧ g2 (g1 a) % 16 ≤ 4 := by decide +kernel
def kN (X : Nat) : Nat → Nat
  | 0 => 0
  | i + 1 => if X.testBit i then kN X i + 1 else kN X i
theorem t_4 : ∀ a, a < 256 → g3 (g2 (g1 a)) = kN a 8 := by decide +kernel
theorem kN_add (X i k : Nat) : kN X (i + k) = kN X i + kN (X / 2 ^ i) k := by
  induction k with
  | zero => rfl
  | succ k ih =>
    rw [← Nat.add_assoc, kN, kN, ih, Nat.testBit_div_two_pow, Nat.add_comm k i]
    split <;> omega
theorem kN_low {X Y n : Nat} (h : ∀ i, i < n → X.testBit i = Y.testBit i) : kN X n = kN Y n := by
  induction n with
  | zero => rfl
  | succ n ih => rw [kN, kN, ih (fun i hi => h i (by omega)), h n (by omega)]
theorem kN_8 (X : Nat) : kN X 8 = kN (X % 256) 8 := kN_low (fun i hi => by rw [show (256 : Nat) = 2 ^ 8 from rfl, Nat.testBit_mod_two_pow]; simp [hi])
theorem cn_kN (x : Int32) (i : Nat) : cn x i = kN x.toBitVec.toNat i := by
  induction i with
  | zero => rfl
  | succ i ih => rw [cn, kN, ih]; rfl
theorem kN_32 {X a b c d : Nat} (hX : X = a + 256 * b + 65536 * c + 16777216 * d) (ha : a < 256) (hb : b < 256) (hc : c < 256) (hd : d < 256) : kN X 32 = kN a 8 + kN b 8 + kN c 8 + kN d 8 := by
  rw [show (32 : Nat) = 8 + (8 + (8 + 8)) from rfl, kN_add, kN_add, kN_add, kN_8 X, kN_8 (X / 2 ^ 8), kN_8 (X / 2 ^ 8 / 2 ^ 8), kN_8 (X / 2 ^ 8 / 2 ^ 8 / 2 ^ 8)]
  rw [show X % 256 = a by omega, show X / 2 ^ 8 % 256 = b by omega, show X / 2 ^ 8 / 2 ^ 8 % 256 = c by omega, show X / 2 ^ 8 / 2 ^ 8 / 2 ^ 8 % 256 = d by omega]
  omega
theorem iu_nat (x : Int32) {s : Int32} (k : Nat) (hs : ((s.toUInt32 &&& Int32.toUInt32 31).toBitVec % 32).toNat = k) : (iu x s).toBitVec.toNat = x.toBitVec.toNat / 2 ^ k := pk_ushr x s k hs
theorem n_and (x y : Int32) : (x &&& y).toBitVec.toNat = x.toBitVec.toNat &&& y.toBitVec.toNat := by rw [Int32.toBitVec_and, BitVec.toNat_and]
theorem n_add (x y : Int32) : (x + y).toBitVec.toNat = (x.toBitVec.toNat + y.toBitVec.toNat) % 4294967296 := by rw [Int32.toBitVec_add, BitVec.toNat_add]
theorem n_sub (x y : Int32) : (x - y).toBitVec.toNat = (4294967296 - y.toBitVec.toNat + x.toBitVec.toNat) % 4294967296 := by rw [Int32.toBitVec_sub, BitVec.toNat_sub]
theorem st_1 {X a b c d : Nat} (hX : X = a + 256 * b + 65536 * c + 16777216 * d) (ha : a < 256) (hb : b < 256) (hc : c < 256) (hd : d < 256) : (4294967296 - ((X / 2) &&& 1431655765) + X) % 4294967296 = g1 a + 256 * g1 b + 65536 * g1 c + 16777216 * g1 d := by
  have e : X / 2 = (a / 2 + 128 * (b % 2)) + 256 * (b / 2 + 128 * (c % 2)) + 65536 * (c / 2 + 128 * (d % 2)) + 16777216 * (d / 2 + 128 * 0) := by omega
  rw [e, show (1431655765 : Nat) = 85 + 256 * 85 + 65536 * 85 + 16777216 * 85 from rfl, and4 (by omega) (by omega) (by omega) (by omega), t_1 _ (by omega) _ (by omega), t_1 _ (by omega) _ (by omega), t_1 _ (by omega) _ (by omega), t_1 _ (by omega) _ (by omega)]
  have h1 := (t_3 a ha).1
  have h2 := (t_3 b hb).1
  have h3 := (t_3 c hc).1
  have h4 := (t_3 d hd).1
  unfold g1
  omega
theorem st_2 {Y a b c d : Nat} (hY : Y = a + 256 * b + 65536 * c + 16777216 * d) (ha : a < 256) (hb : b < 256) (hc : c < 256) (hd : d < 256) : ((Y &&& 858993459) + ((Y / 4) &&& 858993459)) % 4294967296 = g2 a + 256 * g2 b + 65536 * g2 c + 16777216 * g2 d := by
  have e : Y / 4 = (a / 4 + 64 * (b % 4)) + 256 * (b / 4 + 64 * (c % 4)) + 65536 * (c / 4 + 64 * (d % 4)) + 16777216 * (d / 4 + 64 * 0) := by omega
  rw [e, show (858993459 : Nat) = 51 + 256 * 51 + 65536 * 51 + 16777216 * 51 from rfl, and4 (by omega) (by omega) (by omega) (by omega), t_2 _ (by omega) _ (by omega), t_2 _ (by omega) _ (by omega), t_2 _ (by omega) _ (by omega), t_2 _ (by omega) _ (by omega), hY, and4 ha hb hc (by omega)]
  have h1 : ∀ u, u &&& 51 ≤ 51 := fun u => Nat.and_le_right
  have a1 := h1 a
  have a2 := h1 b
  have a3 := h1 c
  have a4 := h1 d
  have b1 := h1 (a / 4)
  have b2 := h1 (b / 4)
  have b3 := h1 (c / 4)
  have b4 := h1 (d / 4)
  unfold g2
  omega
theorem st_3 {Z a b c d : Nat} (hZ : Z = a + 256 * b + 65536 * c + 16777216 * d) (ha : a ≤ 68) (hb : b ≤ 68) (hc : c ≤ 68) (hd : d ≤ 68) (ha4 : a % 16 ≤ 4) (hb4 : b % 16 ≤ 4) (hc4 : c % 16 ≤ 4) (hd4 : d % 16 ≤ 4) : ((Z + Z / 16) % 4294967296) &&& 252645135 = g3 a + 256 * g3 b + 65536 * g3 c + 16777216 * g3 d := by
  have e : (Z + Z / 16) % 4294967296 = (a + a / 16 + 16 * (b % 16)) + 256 * (b + b / 16 + 16 * (c % 16)) + 65536 * (c + c / 16 + 16 * (d % 16)) + 16777216 * (d + d / 16) := by omega
  rw [e, show (252645135 : Nat) = 15 + 256 * 15 + 65536 * 15 + 16777216 * 15 from rfl, and4 (by omega) (by omega) (by omega) (by omega)]
  have h1 : ∀ u, u &&& 15 = u % 16 := fun u => Nat.and_two_pow_sub_one_eq_mod u 4
  rw [h1, h1, h1, h1, Nat.add_mul_mod_self_left, Nat.add_mul_mod_self_left, Nat.add_mul_mod_self_left]
  rfl
theorem st_4 {U p q r t : Nat} (hU : U = p + 256 * q + 65536 * r + 16777216 * t) (hp : p ≤ 8) (hq : q ≤ 8) (hr : r ≤ 8) (ht : t ≤ 8) : (((U + U / 256) % 4294967296 + (U + U / 256) % 4294967296 / 65536) % 4294967296) % 64 = p + q + r + t := by
  have e1 : (U + U / 256) % 4294967296 = (p + q) + 256 * (q + r) + 65536 * (r + t) + 16777216 * t := by omega
  rw [e1]
  have e2 : ((p + q) + 256 * (q + r) + 65536 * (r + t) + 16777216 * t) / 65536 = (r + t) + 256 * t := by omega
  rw [e2]
  omega
theorem bc_eq (x : Int32) : w_bitCount x = nI (cn x 32) := by
  obtain ⟨X, hX⟩ : ∃ X, X = x.toBitVec.toNat := ⟨_, rfl⟩
  have hlt : X < 4294967296 := by rw [hX]; exact x.toBitVec.isLt
  obtain ⟨a, b, c, d, hXe, ha, hb, hc, hd⟩ : ∃ a b c d, X = a + 256 * b + 65536 * c + 16777216 * d ∧ a < 256 ∧ b < 256 ∧ c < 256 ∧ d < 256 := ⟨X % 256, X / 256 % 256, X / 65536 % 256, X / 16777216, by omega, by omega, by omega, by omega, by omega⟩
  obtain ⟨y, hy⟩ : ∃ y, y = x - (iu x 1 &&& 1431655765) := ⟨_, rfl⟩
  obtain ⟨z, hz⟩ : ∃ z, z = (y &&& 858993459) + (iu y 2 &&& 858993459) := ⟨_, rfl⟩
  obtain ⟨u, hu⟩ : ∃ u, u = (z + iu z 4) &&& 252645135 := ⟨_, rfl⟩
  obtain ⟨v, hv⟩ : ∃ v, v = u + iu u 8 := ⟨_, rfl⟩
  obtain ⟨w, hw⟩ : ∃ w, w = v + iu v 16 := ⟨_, rfl⟩
  have e0 : w_bitCount x = w &&& 63 := by subst hw; subst hv; subst hu; subst hz; subst hy; rfl
  have f1 : y.toBitVec.toNat = g1 a + 256 * g1 b + 65536 * g1 c + 16777216 * g1 d := by
    rw [hy, n_sub, n_and, iu_nat x 1 (by decide), ← hX, show (1431655765 : Int32).toBitVec.toNat = 1431655765 by decide]
    exact st_1 hXe ha hb hc hd
  have q1 := t_3 a ha
  have q2 := t_3 b hb
  have q3 := t_3 c hc
  have q4 := t_3 d hd
  have f2 : z.toBitVec.toNat = g2 (g1 a) + 256 * g2 (g1 b) + 65536 * g2 (g1 c) + 16777216 * g2 (g1 d) := by
    rw [hz, n_add, n_and, n_and, iu_nat y 2 (by decide), show (858993459 : Int32).toBitVec.toNat = 858993459 by decide]
    exact st_2 f1 q1.2.1 q2.2.1 q3.2.1 q4.2.1
  have f3 : u.toBitVec.toNat = g3 (g2 (g1 a)) + 256 * g3 (g2 (g1 b)) + 65536 * g3 (g2 (g1 c)) + 16777216 * g3 (g2 (g1 d)) := by
    rw [hu, n_and, n_add, iu_nat z 4 (by decide), show (252645135 : Int32).toBitVec.toNat = 252645135 by decide]
    exact st_3 f2 q1.2.2.1 q2.2.2.1 q3.2.2.1 q4.2.2.1 q1.2.2.2 q2.2.2.2 q3.2.2.2 q4.2.2.2
  rw [t_4 a ha, t_4 b hb, t_4 c hc, t_4 d hd] at f3
  have c8 : ∀ A, kN A 8 ≤ 8 := fun A => by
    have : ∀ n, kN A n ≤ n := by
      intro n
      induction n with
      | zero => exact Nat.le_refl 0
      | succ n ih => rw [kN]; split <;> omega
    exact this 8
  have ca := c8 a
  have cb := c8 b
  have cc := c8 c
  have cd := c8 d
  have f4 : v.toBitVec.toNat = (u.toBitVec.toNat + u.toBitVec.toNat / 256) % 4294967296 := by rw [hv, n_add, iu_nat u 8 (by decide)]
  have f5 : w.toBitVec.toNat = (v.toBitVec.toNat + v.toBitVec.toNat / 65536) % 4294967296 := by rw [hw, n_add, iu_nat v 16 (by decide)]
  have f6 : (w &&& 63).toBitVec.toNat = w.toBitVec.toNat % 64 := by
    rw [n_and, show (63 : Int32).toBitVec.toNat = 2 ^ 6 - 1 by decide, Nat.and_two_pow_sub_one_eq_mod]
  rw [e0, cn_kN, ← hX, kN_32 hXe ha hb hc hd]
  apply Int32.toBitVec_inj.mp
  apply BitVec.eq_of_toNat_eq
  rw [f6, pk_tn (by omega), f5, f4]
  exact st_4 f3 ca cb cc cd
theorem cn_flat {x : Int32} {n m : Nat} (hnm : n ≤ m) (h : ∀ c, n ≤ c → bt x c = false) : cn x m = cn x n := by
  induction m with
  | zero => rw [show n = 0 by omega]
  | succ m ih =>
    rcases Nat.lt_or_ge n (m + 1) with h1 | h1
    · rw [cn, h m (by omega), ih (by omega)]; rfl
    · rw [show n = m + 1 by omega]
theorem bc_n {x : Int32} {n : Nat} (hn : n ≤ 32) (h : ∀ c, n ≤ c → bt x c = false) : w_bitCount x = nI (cn x n) := by rw [bc_eq, cn_flat hn h]
