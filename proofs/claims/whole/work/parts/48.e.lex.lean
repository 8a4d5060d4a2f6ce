/-! the order of the search: cost, number of cells, first difference -/
theorem low_bt (x : Int32) {c : Nat} (hc : c < 32) : bt (x &&& -x) c = true ↔ bt x c = true ∧ ∀ j, j < c → bt x j = false := by
  rw [b_and]
  have e : bt (-x) c = (bt x c ^^ (decide (c < 32) && decide (∃ j, j < c ∧ bt x j = true))) := by
    show (-x).toBitVec.getLsbD c = _
    rw [Int32.toBitVec_neg, BitVec.getLsbD_neg]
    rfl
  rw [e, decide_eq_true hc, Bool.true_and]
  by_cases h : ∃ j, j < c ∧ bt x j = true
  · rw [decide_eq_true h]
    constructor
    · intro q; cases hb : bt x c <;> rw [hb] at q <;> exact absurd q (by decide)
    · intro q
      obtain ⟨j, h1, h2⟩ := h
      rw [q.2 j h1] at h2
      exact absurd h2 (by decide)
  · rw [decide_eq_false h]
    constructor
    · intro q
      refine ⟨?_, fun j hj => ?_⟩
      · cases hb : bt x c
        · rw [hb] at q; exact absurd q (by decide)
        · rfl
      · cases hb : bt x j
        · rfl
        · exact absurd ⟨j, hj, hb⟩ h
    · intro q; rw [q.1]; rfl
theorem b_nz {x : Int32} (h : ¬ x = 0) : ∃ c, c < 32 ∧ bt x c = true := by
  by_cases q : ∃ c, c < 32 ∧ bt x c = true
  · exact q
  · exfalso
    apply h
    refine b_ext (fun c hc => ?_)
    rw [b_0]
    cases hb : bt x c
    · rfl
    · exact absurd ⟨c, hc, hb⟩ q
def Lx (a b : Int32) : Prop := ∃ j, j < 32 ∧ bt a j = true ∧ bt b j = false ∧ ∀ i, i < j → bt a i = bt b i
theorem lx_iff (a b : Int32) : ¬ ((a &&& (a ^^^ b)) &&& (-(a ^^^ b))) = 0 ↔ Lx a b := by
  constructor
  · intro h
    obtain ⟨c, hc, h1⟩ := b_nz h
    rw [b_and, b_and] at h1
    have h2 : bt a c = true := by
      cases hb : bt a c
      · rw [hb] at h1; exact absurd h1 (by simp)
      · rfl
    have h3 : bt ((a ^^^ b) &&& -(a ^^^ b)) c = true := by
      rw [b_and]; rw [h2, Bool.true_and] at h1; exact h1
    obtain ⟨h4, h5⟩ := (low_bt _ hc).mp h3
    rw [b_xor, h2] at h4
    refine ⟨c, hc, h2, ?_, fun i hi => ?_⟩
    · cases hb : bt b c
      · rfl
      · rw [hb] at h4; exact absurd h4 (by decide)
    · have h6 := h5 i hi
      rw [b_xor] at h6
      cases ha : bt a i <;> cases hb : bt b i
      · rfl
      · rw [ha, hb] at h6; exact absurd h6 (by decide)
      · rw [ha, hb] at h6; exact absurd h6 (by decide)
      · rfl
  · rintro ⟨j, hj, h1, h2, h3⟩ h
    have h4 : bt ((a ^^^ b) &&& -(a ^^^ b)) j = true := by
      refine (low_bt _ hj).mpr ⟨by rw [b_xor, h1, h2]; rfl, fun i hi => ?_⟩
      rw [b_xor, h3 i hi]
      cases bt b i <;> rfl
    have h5 : bt ((a &&& (a ^^^ b)) &&& (-(a ^^^ b))) j = true := by
      rw [b_and] at h4
      rw [b_and, b_and, h1, Bool.true_and, h4]
    rw [h, b_0] at h5
    exact absurd h5 (by decide)
theorem Lx_irr (a : Int32) : ¬ Lx a a := by
  rintro ⟨j, hj, h1, h2, h3⟩
  rw [h1] at h2
  exact absurd h2 (by decide)
theorem Lx_trans {a b c : Int32} (h : Lx a b) (k : Lx b c) : Lx a c := by
  obtain ⟨j, hj, h1, h2, h3⟩ := h
  obtain ⟨i, hi, k1, k2, k3⟩ := k
  rcases Nat.lt_trichotomy j i with q | q | q
  · exact ⟨j, hj, h1, by rw [← k3 j q]; exact h2, fun t ht => by rw [h3 t ht, k3 t (by omega)]⟩
  · subst q; rw [h2] at k1; exact absurd k1 (by decide)
  · exact ⟨i, hi, by rw [h3 i q]; exact k1, k2, fun t ht => by rw [h3 t (by omega), k3 t ht]⟩
theorem Lx_tri {a b : Int32} (h : ¬ Lx a b) (k : ¬ Lx b a) : a = b := by
  have key : ∀ c, c < 32 → bt a c = bt b c := by
    intro c
    induction c using Nat.strongRecOn with
    | _ c ih =>
      intro hc
      cases ha : bt a c <;> cases hb : bt b c
      · rfl
      · exact absurd ⟨c, hc, hb, ha, fun i hi => (ih i hi (by omega)).symm⟩ k
      · exact absurd ⟨c, hc, ha, hb, fun i hi => ih i hi (by omega)⟩ h
      · rfl
  exact b_ext key
theorem nI_c : ∀ a, a < 25 → ∀ b, b < 25 → (nI a = nI b ↔ a = b) ∧ (nI a < nI b ↔ a < b) ∧ (nI a - nI b = 0 ↔ a = b) ∧ (nI a - nI b < 0 ↔ a < b) := by decide +kernel
def Bf (a b : Int32) (n : Nat) : Prop := cn a n < cn b n ∨ (cn a n = cn b n ∧ Lx a b)
theorem bf_iff {n : Nat} (hn : n ≤ 24) (a b : Int32) : ¬ w_X5_isBefore a b n = 0 ↔ Bf a b n := by
  have ha := cn_le a n
  have hb := cn_le b n
  obtain ⟨q1, q2, q3, q4⟩ := nI_c (cn a n) (by omega) (cn b n) (by omega)
  have hl := lx_iff a b
  unfold w_X5_isBefore Bf
  by_cases h1 : cn a n = cn b n
  · rw [if_pos (q1.mpr h1)]
    by_cases h2 : ((a &&& (a ^^^ b)) &&& (-(a ^^^ b))) = 0
    · rw [if_pos h2]
      have h3 : ¬ Lx a b := fun q => hl.mpr q h2
      constructor
      · intro q; exact absurd rfl q
      · rintro (q | ⟨_, q⟩)
        · omega
        · exact absurd q h3
    · rw [if_neg h2]
      exact ⟨fun _ => Or.inr ⟨h1, hl.mp h2⟩, fun _ => by decide⟩
  · rw [if_neg (fun q => h1 (q1.mp q))]
    by_cases h2 : cn a n < cn b n
    · rw [if_pos (q2.mpr h2)]
      exact ⟨fun _ => Or.inl h2, fun _ => by decide⟩
    · rw [if_neg (fun q => h2 (q2.mp q))]
      constructor
      · intro q; exact absurd rfl q
      · rintro (q | ⟨q, _⟩)
        · exact absurd q h2
        · exact absurd q h1
theorem Bf_irr (a : Int32) (n : Nat) : ¬ Bf a a n := by
  rintro (q | ⟨_, q⟩)
  · omega
  · exact Lx_irr a q
theorem Bf_trans {a b c : Int32} {n : Nat} (h : Bf a b n) (k : Bf b c n) : Bf a c n := by
  rcases h with h | ⟨h1, h2⟩
  · rcases k with k | ⟨k1, k2⟩
    · exact Or.inl (by omega)
    · exact Or.inl (by omega)
  · rcases k with k | ⟨k1, k2⟩
    · exact Or.inl (by omega)
    · exact Or.inr ⟨by omega, Lx_trans h2 k2⟩
theorem Bf_tri {a b : Int32} {n : Nat} (h : ¬ Bf a b n) (k : ¬ Bf b a n) : a = b := by
  have h1 : cn a n = cn b n := by
    rcases Nat.lt_trichotomy (cn a n) (cn b n) with q | q | q
    · exact absurd (Or.inl q) h
    · exact q
    · exact absurd (Or.inl q) k
  exact Lx_tri (fun q => h (Or.inr ⟨h1, q⟩)) (fun q => k (Or.inr ⟨h1.symm, q⟩))
/-- the order, with any cost -/
def LtC (f : Int32 → Int64) (n : Nat) (X Y : Int32) : Prop := f X < f Y ∨ (f X = f Y ∧ Bf X Y n)
theorem LtC_irr (f : Int32 → Int64) (n : Nat) (X : Int32) : ¬ LtC f n X X := by
  rintro (q | ⟨_, q⟩)
  · exact Int64.lt_irrefl q
  · exact Bf_irr X n q
theorem LtC_trans {f : Int32 → Int64} {n : Nat} {X Y Z : Int32} (h : LtC f n X Y) (k : LtC f n Y Z) : LtC f n X Z := by
  rcases h with h | ⟨h1, h2⟩
  · rcases k with k | ⟨k1, k2⟩
    · exact Or.inl (Int64.lt_trans h k)
    · exact Or.inl (by rw [← k1]; exact h)
  · rcases k with k | ⟨k1, k2⟩
    · exact Or.inl (by rw [h1]; exact k)
    · exact Or.inr ⟨h1.trans k1, Bf_trans h2 k2⟩
theorem LtC_tri {f : Int32 → Int64} {n : Nat} {X Y : Int32} (h : ¬ LtC f n X Y) (k : ¬ LtC f n Y X) : X = Y := by
  have h1 : f X = f Y := by
    apply Int64.le_antisymm
    · exact Int64.not_lt.mp (fun q => k (Or.inl q))
    · exact Int64.not_lt.mp (fun q => h (Or.inl q))
  exact Bf_tri (fun q => h (Or.inr ⟨h1, q⟩)) (fun q => k (Or.inr ⟨h1.symm, q⟩))
/-- the best of the first i sets of a row -/
def Bst (f : Int32 → Int64) (P : Int32 → Prop) (n : Nat) (s : Nat → Int32) (i : Nat) (y : RcT) : Prop :=
  (y.1 = 0 ∧ ∀ t, t < i → ¬ P (s t)) ∨ (y.1 = 1 ∧ y.2.2 = f y.2.1 ∧ (∃ t, t < i ∧ y.2.1 = s t) ∧ P y.2.1 ∧ ∀ t, t < i → P (s t) → ¬ LtC f n (s t) y.2.1)
theorem Bst_take {f : Int32 → Int64} {P : Int32 → Prop} {n : Nat} {s : Nat → Int32} {i : Nat} {y : RcT} (h : Bst f P n s i y) (hp : P (s i)) (hb : y.1 = 0 ∨ LtC f n (s i) y.2.1) : Bst f P n s (i + 1) (1, s i, f (s i)) := by
  refine Or.inr ⟨rfl, rfl, ⟨i, by omega, rfl⟩, hp, fun t ht pt => ?_⟩
  show ¬ LtC f n (s t) (s i)
  rcases Nat.lt_or_ge t i with q | q
  · rcases h with ⟨h1, h2⟩ | ⟨h1, h2, h3, h4, h5⟩
    · exact absurd pt (h2 t q)
    · rcases hb with hb | hb
      · rw [h1] at hb; exact absurd hb (by decide)
      · intro u; exact h5 t q pt (LtC_trans u hb)
  · rw [show t = i by omega]
    exact LtC_irr f n (s i)
theorem Bst_keep {f : Int32 → Int64} {P : Int32 → Prop} {n : Nat} {s : Nat → Int32} {i : Nat} {y : RcT} (h : Bst f P n s i y) (hp : ¬ P (s i) ∨ (¬ y.1 = 0 ∧ ¬ LtC f n (s i) y.2.1)) : Bst f P n s (i + 1) y := by
  rcases h with ⟨h1, h2⟩ | ⟨h1, h2, ⟨t, h3, h3'⟩, h4, h5⟩
  · refine Or.inl ⟨h1, fun t ht => ?_⟩
    rcases Nat.lt_or_ge t i with q | q
    · exact h2 t q
    · rw [show t = i by omega]
      rcases hp with hp | ⟨hp, _⟩
      · exact hp
      · exact absurd h1 hp
  · refine Or.inr ⟨h1, h2, ⟨t, by omega, h3'⟩, h4, fun t ht pt => ?_⟩
    rcases Nat.lt_or_ge t i with q | q
    · exact h5 t q pt
    · rw [show t = i by omega] at pt ⊢
      rcases hp with hp | ⟨_, hp⟩
      · exact absurd pt hp
      · exact hp
/-- two rows with the same sets have the same best -/
theorem Bst_uniq {f : Int32 → Int64} {P : Int32 → Prop} {n : Nat} {s r : Nat → Int32} {N : Nat} {y z : RcT} (h : Bst f P n s N y) (k : Bst f P n r N z) (h1 : ∀ t, t < N → ∃ u, u < N ∧ s t = r u) (h2 : ∀ t, t < N → ∃ u, u < N ∧ r t = s u) : (y.1 = 0 ∧ z.1 = 0) ∨ (y.1 = 1 ∧ z.1 = 1 ∧ y.2.1 = z.2.1 ∧ y.2.2 = z.2.2) := by
  rcases h with ⟨a1, a2⟩ | ⟨a1, a2, ⟨t, a3, a3'⟩, a4, a5⟩
  · rcases k with ⟨b1, b2⟩ | ⟨b1, b2, ⟨u, b3, b3'⟩, b4, b5⟩
    · exact Or.inl ⟨a1, b1⟩
    · obtain ⟨v, v1, v2⟩ := h2 u b3
      exact absurd (by rw [← v2, ← b3']; exact b4) (a2 v v1)
  · rcases k with ⟨b1, b2⟩ | ⟨b1, b2, ⟨u, b3, b3'⟩, b4, b5⟩
    · obtain ⟨v, v1, v2⟩ := h1 t a3
      exact absurd (by rw [← v2, ← a3']; exact a4) (b2 v v1)
    · obtain ⟨v, v1, v2⟩ := h1 t a3
      obtain ⟨w, w1, w2⟩ := h2 u b3
      have c1 : ¬ LtC f n y.2.1 z.2.1 := by
        rw [a3', v2]; exact b5 v v1 (by rw [← v2, ← a3']; exact a4)
      have c2 : ¬ LtC f n z.2.1 y.2.1 := by
        rw [b3', w2]; exact a5 w w1 (by rw [← w2, ← b3']; exact b4)
      have e := LtC_tri c1 c2
      exact Or.inr ⟨a1, b1, e, by rw [a2, b2, e]⟩
