/-! cell, wind, near, far, holds, port, and the new objects -/
theorem sm_congr {f g : Nat → Int64} {n : Nat} (h : ∀ c, c < n → f c = g c) : sm f n = sm g n := by
  induction n with
  | zero => rfl
  | succ n ih => rw [sm, sm, ih (fun c hc => h c (by omega)), h n (by omega)]
theorem sm_upd {f g : Nat → Int64} {n j : Nat} (hj : j < n) (h : ∀ c, c < n → c ≠ j → g c = f c) : sm g n = sm f n + (g j - f j) := by
  induction n with
  | zero => omega
  | succ n ih =>
    rw [sm, sm]
    rcases Nat.lt_or_ge j n with h1 | h1
    · rw [ih h1 (fun c hc hne => h c (by omega) hne), h n (by omega) (by omega)]
      grind
    · have e : j = n := by omega
      subst e
      rw [sm_congr (g := f) (fun c hc => h c (by omega) (by omega))]
      grind
theorem in0_0 (m : Int) (h : 0 ≤ m) : in0 0 m := ⟨by decide, by simpa [in0] using h⟩
theorem l_nlt {a b : Int64} (h : ¬ a < b) : b.toInt ≤ a.toInt := by
  rw [Int64.lt_iff_toInt_lt] at h
  omega
section RL
variable {S : SeaT} {C : ChoT} {G : GoT} {dr : Int64} {M : ModT} {n : Nat}
theorem rl_cell (h : Rl S C G dr M n) (T : TalT) (tr : Int64) (F : Nat → Int32) (z0 : Int64) : w_X4_cell S z0 = w_X5_cell M z0 ∧ ∃ n2, Rl (w_X4_cell_S S z0 n) C G dr (w_X5_cell_M M z0 n) n2 := by
  unfold w_X4_cell w_X4_cell_S w_X5_cell w_X5_cell_M
  have hx := h.2.1
  have hm := h.2.2.1
  have hn := h.1
  by_cases h24 : n = 24
  · have e1 : ¬ S_cells S < 24 := by rw [hx, h24]; decide
    have e2 : M_cells M = 24 := by rw [hm, h24]; rfl
    simp only [e1, e2, if_true, if_false]
    exact ⟨trivial, n, h⟩
  · have e1 : S_cells S < 24 := by rw [hx]; exact nI_lt (b := 24) (by omega) (by omega)
    have e2 : ¬ M_cells M = 24 := by
      rw [hm]
      intro q
      exact h24 ((nI_eq (a := n) (b := 24) (by omega) (by omega)).mp q)
    by_cases h1 : z0 < 0
    · have h2 := (within0 z0 1000000).mpr (Or.inl h1)
      simp only [h1, h2, e1, e2, if_true, if_false]
      exact ⟨trivial, n, h⟩
    · by_cases h3 : 1000000 < z0
      · have h2 := (within0 z0 1000000).mpr (Or.inr h3)
        simp only [h1, h2, h3, e1, e2, if_true, if_false]
        exact ⟨trivial, n, h⟩
      · have h2 : ¬ w_within z0 1000000 = 0 := fun q => ((within0 z0 1000000).mp q).elim h1 h3
        simp only [h1, h2, h3, e1, e2, if_true, if_false]
        refine ⟨by rw [hx, hm], n + 1, ?_⟩
        obtain ⟨hn, hcx, hcm, hco, ham, hho, hbo, hfa, hkt, hpt, hgo, hfr, hwt, hle, hst, hsz, hbz, hrest⟩ := h
        refine ⟨by omega, ?_, ?_, fun c hc => ?_, fun c q hc hq => ⟨(ham c q hc hq).1, (ham c q hc hq).2.1, fun h9 => (ham c q hc hq).2.2 (by omega)⟩, fun c q hc hq => ⟨(hho c q hc hq).1, (hho c q hc hq).2.1, fun h9 => (hho c q hc hq).2.2 (by omega)⟩, hbo, hfa, fun q hq => ?_, fun q hq => ?_, hgo, hfr, hwt, hle, fun c hc => ?_, fun c h8 h9 => hsz c (by omega) h9, fun c h8 => hbz c (by omega), hrest⟩
        · show S_cells S + 1 = nI (n + 1)
          rw [hcx]; exact nI_1 n
        · show M_cells M + 1 = nI (n + 1)
          rw [hcm]; exact nI_1 n
        · show vp_updL (S_costs S) n z0 c = vp_updL (M_costs M) n z0 c ∧ in0 (vp_updL (S_costs S) n z0 c) 10000000
          by_cases hcn : c = n
          · subst hcn
            rw [pk_uLs, pk_uLs]
            refine ⟨rfl, ?_, ?_⟩
            · have := l_nlt h1; simpa using this
            · have := l_nlt h3
              have e9 : (1000000 : Int64).toInt = 1000000 := by decide
              omega
          · rw [pk_uLn hcn, pk_uLn hcn]
            exact hco c hc
        · show S_kindTotals S q = sm (fun c => S_amounts S (c * 8 + q)) (n + 1)
          rw [sm, hkt q hq, (ham n q (by omega) hq).2.2 (Nat.le_refl n), Int64.add_zero]
        · show S_portTotals S q = sm (fun c => S_hours S (c * 4 + q)) (n + 1)
          rw [sm, hpt q hq, (hho n q (by omega) hq).2.2 (Nat.le_refl n), Int64.add_zero]
        · rcases Nat.lt_or_ge c n with h8 | h8
          · exact hst c h8
          · have e9 : c = n := by omega
            subst e9
            have := hsz c (Nat.le_refl c) (by omega)
            refine ⟨?_, ?_, Or.inl this⟩
            · show bt (S_needed S) c = decide (M_states M c = 1)
              rw [(hbz c (Nat.le_refl c)).1, this]; rfl
            · show bt (S_barred S) c = decide (M_states M c = 2)
              rw [(hbz c (Nat.le_refl c)).2.1, this]; rfl
theorem rl_wind (h : Rl S C G dr M n) (T : TalT) (tr : Int64) (F : Nat → Int32) (z0 : Int32) (z1 : Int64) : w_X4_wind S z0 z1 = w_X5_wind M z0 z1 ∧ ∃ n2, Rl (w_X4_wind_S S z0 z1) C G dr (w_X5_wind_M M z0 z1) n2 := by
  unfold w_X4_wind w_X4_wind_S w_X5_wind w_X5_wind_M
  rw [ic_eq h]
  by_cases h0 : w_hasCell (S_cells S) z0 = 0
  · simp only [h0, if_true]; exact ⟨trivial, n, h⟩
  · obtain ⟨hj, ej⟩ := hcJ h.1 h.2.1 h0
    by_cases h1 : z1 < 0
    · have h2 := (within0 z1 1000000).mpr (Or.inl h1)
      simp only [h0, h1, h2, if_true, if_false]
      exact ⟨trivial, n, h⟩
    · by_cases h3 : 1000000 < z1
      · have h2 := (within0 z1 1000000).mpr (Or.inr h3)
        simp only [h0, h1, h2, h3, if_true, if_false]
        exact ⟨trivial, n, h⟩
      · have h2 : ¬ w_within z1 1000000 = 0 := fun q => ((within0 z1 1000000).mp q).elim h1 h3
        have hn := h.1
        have hcs := h.2.2.2.1 (tn z0) (by omega)
        have ec := hcs.1
        rw [← ec]
        by_cases h4 : 10000000 < S_costs S (tn z0) + z1
        · simp only [h0, h1, h2, h3, h4, if_true, if_false]
          exact ⟨trivial, n, h⟩
        · simp only [h0, h1, h2, h3, h4, if_false]
          refine ⟨trivial, n, ?_⟩
          have b1 := l_nlt h1
          have b3 := l_nlt h3
          have b4 := l_nlt h4
          have e0 : (0 : Int64).toInt = 0 := by decide
          have e6 : (1000000 : Int64).toInt = 1000000 := by decide
          have e7 : (10000000 : Int64).toInt = 10000000 := by decide
          have hb := hcs.2
          obtain ⟨hb1, hb2⟩ := hb
          have es := i64_add (a := S_costs S (tn z0)) (b := z1) (by omega) (by omega)
          obtain ⟨hn, hcx, hcm, hco, hrest⟩ := h
          refine ⟨hn, hcx, hcm, fun c hc => ?_, hrest⟩
          show vp_updL (S_costs S) (tn z0) (S_costs S (tn z0) + z1) c = vp_updL (M_costs M) (tn z0) (S_costs S (tn z0) + z1) c ∧ in0 (vp_updL (S_costs S) (tn z0) (S_costs S (tn z0) + z1) c) 10000000
          by_cases hcn : c = tn z0
          · rw [hcn, pk_uLs, pk_uLs]
            exact ⟨rfl, by rw [es]; omega, by omega⟩
          · rw [pk_uLn hcn, pk_uLn hcn]
            exact hco c hc
theorem hp_eq (h : Rl S C G dr M n) {ca cb : Int32} : w_X2_hasPair S ca cb = 0 ↔ (w_X5_isCell M ca = 0 ∨ w_X5_isCell M cb = 0 ∨ ca = cb) := by
  unfold w_X2_hasPair
  rw [ic_eq h, ic_eq h]
  by_cases h1 : w_hasCell (S_cells S) ca = 0
  · simp [h1]
  · by_cases h2 : w_hasCell (S_cells S) cb = 0
    · simp [h1, h2]
    · by_cases h3 : ca = cb
      · simp [h1, h2, h3]
      · simp [h1, h2, h3]
theorem rl_near (h : Rl S C G dr M n) (T : TalT) (tr : Int64) (F : Nat → Int32) (z0 : Int32) (z1 : Int32) (z2 : Int64) : w_X4_near S z0 z1 z2 = w_X5_near M z0 z1 z2 ∧ ∃ n2, Rl (w_X4_near_S S z0 z1 z2) C G dr (w_X5_near_M M z0 z1 z2) n2 := by
  unfold w_X4_near w_X4_near_S w_X5_near w_X5_near_M
  by_cases a1 : w_X5_isCell M z0 = 0
  · have hp := (hp_eq h (ca := z0) (cb := z1)).mpr (Or.inl a1)
    simp only [a1, hp, if_true]; exact ⟨trivial, n, h⟩
  · by_cases a2 : w_X5_isCell M z1 = 0
    · have hp := (hp_eq h (ca := z0) (cb := z1)).mpr (Or.inr (Or.inl a2))
      simp only [a1, a2, hp, if_true, if_false]; exact ⟨trivial, n, h⟩
    · by_cases a3 : z0 = z1
      · have hp := (hp_eq h (ca := z0) (cb := z1)).mpr (Or.inr (Or.inr a3))
        simp only [a1, a2, hp, if_true, if_false]
        rw [if_pos a3, if_pos a3]
        exact ⟨rfl, n, h⟩
      · have hp : ¬ w_X2_hasPair S z0 z1 = 0 := fun q => by
          rcases (hp_eq h).mp q with q | q | q
          · exact a1 q
          · exact a2 q
          · exact a3 q
        by_cases h1 : z2 < 0
        · have h2 := (within0 z2 1000).mpr (Or.inl h1)
          simp only [a1, a2, a3, hp, h1, h2, if_true, if_false]
          exact ⟨trivial, n, h⟩
        · by_cases h3 : 1000 < z2
          · have h2 := (within0 z2 1000).mpr (Or.inr h3)
            simp only [a1, a2, a3, hp, h1, h2, h3, if_true, if_false]
            exact ⟨trivial, n, h⟩
          · have h2 : ¬ w_within z2 1000 = 0 := fun q => ((within0 z2 1000).mp q).elim h1 h3
            simp only [a1, a2, a3, hp, h1, h2, h3, if_false]
            refine ⟨trivial, n, ?_⟩
            obtain ⟨⟨hi, ei⟩, hj, ej⟩ := hpJ h.1 h.2.1 hp
            have hij : tn z0 ≠ tn z1 := fun q => a3 (by rw [ei, ej, q])
            generalize tn z0 = i at *
            generalize tn z1 = j at *
            obtain ⟨hn, hcx, hcm, hco, ham, hho, hbo, hrest⟩ := h
            refine ⟨hn, hcx, hcm, hco, ham, hho, fun c d hc hd => ?_, hrest⟩
            have key : ∀ (f : Nat → Int64) (x y : Nat), x < 24 → y < 24 → vp_updL (vp_updL f (i * 24 + j) z2) (j * 24 + i) z2 (x * 24 + y) = if (x = j ∧ y = i) ∨ (x = i ∧ y = j) then z2 else f (x * 24 + y) := by
              intro f x y hx hy
              unfold vp_updL
              by_cases q1 : x * 24 + y = j * 24 + i
              · rw [if_pos q1, if_pos (Or.inl (by omega))]
              · rw [if_neg q1]
                by_cases q2 : x * 24 + y = i * 24 + j
                · rw [if_pos q2, if_pos (Or.inr (by omega))]
                · rw [if_neg q2, if_neg (by omega)]
            show vp_updL (vp_updL (S_borders S) (i * 24 + j) z2) (j * 24 + i) z2 (c * 24 + d) = vp_updL (vp_updL (M_borders M) (24 * i + j) z2) (24 * j + i) z2 (24 * c + d) ∧ vp_updL (vp_updL (S_borders S) (i * 24 + j) z2) (j * 24 + i) z2 (c * 24 + d) = vp_updL (vp_updL (S_borders S) (i * 24 + j) z2) (j * 24 + i) z2 (d * 24 + c) ∧ vp_updL (vp_updL (S_borders S) (i * 24 + j) z2) (j * 24 + i) z2 (c * 24 + c) = 0
            rw [show 24 * i + j = i * 24 + j by omega, show 24 * j + i = j * 24 + i by omega, show 24 * c + d = c * 24 + d by omega]
            rw [key _ c d hc hd, key _ c d hc hd, key _ d c hd hc, key _ c c hc hc]
            have hb := hbo c d hc hd
            rw [show 24 * c + d = c * 24 + d by omega] at hb
            refine ⟨?_, ?_, ?_⟩
            · rw [hb.1]
            · rw [hb.2.1]
              by_cases q1 : (c = j ∧ d = i) ∨ (c = i ∧ d = j)
              · rw [if_pos q1, if_pos (by omega)]
              · rw [if_neg q1, if_neg (by omega)]
            · rw [if_neg (by omega)]; exact hb.2.2
end RL
