/-! far, holds, port, new -/
theorem hold_rng {av bv : Int64} (h1 : ¬ av < 0) (h2 : ¬ 1000 < av) (h3 : ¬ bv < 1) (h4 : ¬ 16 < bv) : in0 ((720720 / bv) * av) 720720000 := by
  obtain ⟨x, hx, rfl⟩ := pk_lOf h1
  have hb0 : ¬ bv < 0 := fun q => h3 (Int64.lt_trans q (by decide))
  obtain ⟨y, hy, rfl⟩ := pk_lOf hb0
  have hx2 : x ≤ 1000 := by
    rcases Nat.lt_or_ge 1000 x with q | q
    · exact absurd ((pk_lLT (a := 1000) (b := x) (by omega) hx).mpr q) h2
    · exact q
  have hy1 : 1 ≤ y := by
    rcases Nat.lt_or_ge y 1 with q | q
    · exact absurd ((pk_lLT (a := y) (b := 1) hy (by omega)).mpr q) h3
    · exact q
  rw [show (720720 : Int64) = lN 720720 from rfl, pk_lDiv (by omega) (by omega) hy, lN_mul]
  have hd : 720720 / y ≤ 720720 := Nat.div_le_self _ _
  have hm : 720720 / y * x ≤ 720720 * 1000 := Nat.mul_le_mul hd hx2
  unfold in0
  rw [pk_lT (by omega)]
  omega
section RL
variable {S : SeaT} {C : ChoT} {G : GoT} {dr : Int64} {M : ModT} {n : Nat}
theorem rl_holds (h : Rl S C G dr M n) (T : TalT) (tr : Int64) (F : Nat → Int32) (z0 : Int32) (z1 : Int32) (z2 : Int64) (z3 : Int64) : w_X4_holds S z0 z1 z2 z3 = w_X5_holds M z0 z1 z2 z3 ∧ ∃ n2, Rl (w_X4_holds_S S z0 z1 z2 z3) C G dr (w_X5_holds_M M z0 z1 z2 z3) n2 := by
  unfold w_X4_holds w_X4_holds_S w_X5_holds w_X5_holds_M
  rw [ic_eq h, show w_X5_isKind z1 = w_isKind z1 from rfl]
  by_cases a1 : w_hasCell (S_cells S) z0 = 0
  · simp only [a1, if_true]; exact ⟨trivial, n, h⟩
  · by_cases a2 : w_isKind z1 = 0
    · simp only [a1, a2, if_true, if_false]; exact ⟨trivial, n, h⟩
    · by_cases h1 : z2 < 0
      · have h2 := (within0 z2 1000).mpr (Or.inl h1)
        simp only [a1, a2, h1, h2, if_true, if_false]
        exact ⟨trivial, n, h⟩
      · by_cases h3 : 1000 < z2
        · have h2 := (within0 z2 1000).mpr (Or.inr h3)
          simp only [a1, a2, h1, h2, h3, if_true, if_false]
          exact ⟨trivial, n, h⟩
        · have h2 : ¬ w_within z2 1000 = 0 := fun q => ((within0 z2 1000).mp q).elim h1 h3
          by_cases h4 : z3 < 1
          · simp only [a1, a2, h1, h2, h3, h4, if_true, if_false]; exact ⟨trivial, n, h⟩
          · by_cases h5 : 16 < z3
            · simp only [a1, a2, h1, h2, h3, h4, h5, if_true, if_false]; exact ⟨trivial, n, h⟩
            · simp only [a1, a2, h1, h2, h3, h4, h5, if_false]
              refine ⟨trivial, n, ?_⟩
              have hr := hold_rng h1 h3 h4 h5
              rw [Int64.mul_comm z2]
              obtain ⟨hj, ej⟩ := hcJ h.1 h.2.1 a1
              obtain ⟨hq, eq⟩ := kiJ a2
              generalize (720720 / z3) * z2 = am at hr
              generalize tn z0 = j at hj
              generalize tn z1 = q at hq
              obtain ⟨hn, hcx, hcm, hco, ham, hho, hbo, hfa, hkt, hrest⟩ := h
              have key : ∀ (f : Nat → Int64) (x y : Nat), y < 8 → vp_updL f (j * 8 + q) am (x * 8 + y) = if x = j ∧ y = q then am else f (x * 8 + y) := by
                intro f x y hy
                unfold vp_updL
                by_cases q1 : x * 8 + y = j * 8 + q
                · rw [if_pos q1, if_pos (by omega)]
                · rw [if_neg q1, if_neg (by omega)]
              have keyM : ∀ (f : Nat → Int64) (x y : Nat), x < 24 → vp_updL f (24 * q + j) am (24 * y + x) = if x = j ∧ y = q then am else f (24 * y + x) := by
                intro f x y hy
                unfold vp_updL
                by_cases q1 : 24 * y + x = 24 * q + j
                · rw [if_pos q1, if_pos (by omega)]
                · rw [if_neg q1, if_neg (by omega)]
              refine ⟨hn, hcx, hcm, hco, fun c y hc hy => ?_, hho, hbo, hfa, fun y hy => ?_, hrest⟩
              · show vp_updL (S_amounts S) (j * 8 + q) am (c * 8 + y) = vp_updL (M_amounts M) (24 * q + j) am (24 * y + c) ∧ in0 (vp_updL (S_amounts S) (j * 8 + q) am (c * 8 + y)) 720720000 ∧ (n ≤ c → vp_updL (S_amounts S) (j * 8 + q) am (c * 8 + y) = 0)
                rw [key _ c y hy, keyM _ c y hc]
                by_cases q1 : c = j ∧ y = q
                · rw [if_pos q1, if_pos q1]
                  exact ⟨rfl, hr, fun q9 => by omega⟩
                · rw [if_neg q1, if_neg q1]
                  exact ham c y hc hy
              · show vp_updL (S_kindTotals S) q (S_kindTotals S q + (am - S_amounts S (j * 8 + q))) y = sm (fun c => vp_updL (S_amounts S) (j * 8 + q) am (c * 8 + y)) n
                by_cases q1 : y = q
                · subst q1
                  rw [pk_uLs, hkt y hy]
                  rw [sm_upd (f := fun c => S_amounts S (c * 8 + y)) (g := fun c => vp_updL (S_amounts S) (j * 8 + y) am (c * 8 + y)) hj (fun c hc hne => by show vp_updL _ _ _ _ = _; rw [key _ c y hy, if_neg (by omega)])]
                  show _ = _ + (vp_updL (S_amounts S) (j * 8 + y) am (j * 8 + y) - _)
                  rw [pk_uLs]
                · rw [pk_uLn q1, hkt y hy]
                  exact sm_congr (fun c hc => by show _ = vp_updL _ _ _ _; rw [key _ c y hy, if_neg (by omega)])
theorem rl_port (h : Rl S C G dr M n) (T : TalT) (tr : Int64) (F : Nat → Int32) (z0 : Int32) (z1 : Int32) (z2 : Int64) : w_X4_port S z0 z1 z2 = w_X5_port M z0 z1 z2 ∧ ∃ n2, Rl (w_X4_port_S S z0 z1 z2) C G dr (w_X5_port_M M z0 z1 z2) n2 := by
  unfold w_X4_port w_X4_port_S w_X5_port w_X5_port_M
  rw [ic_eq h, show w_X5_isPort z1 = w_isPort z1 from rfl]
  by_cases a1 : w_hasCell (S_cells S) z0 = 0
  · simp only [a1, if_true]; exact ⟨trivial, n, h⟩
  · by_cases a2 : w_isPort z1 = 0
    · simp only [a1, a2, if_true, if_false]; exact ⟨trivial, n, h⟩
    · by_cases h1 : z2 < 0
      · have h2 := (within0 z2 1000000).mpr (Or.inl h1)
        simp only [a1, a2, h1, h2, if_true, if_false]
        exact ⟨trivial, n, h⟩
      · by_cases h3 : 1000000 < z2
        · have h2 := (within0 z2 1000000).mpr (Or.inr h3)
          simp only [a1, a2, h1, h2, h3, if_true, if_false]
          exact ⟨trivial, n, h⟩
        · have h2 : ¬ w_within z2 1000000 = 0 := fun q => ((within0 z2 1000000).mp q).elim h1 h3
          simp only [a1, a2, h1, h2, h3, if_false]
          refine ⟨trivial, n, ?_⟩
          have hr : in0 z2 1000000 := by
            have b1 := l_nlt h1
            have b3 := l_nlt h3
            have e0 : (0 : Int64).toInt = 0 := by decide
            have e6 : (1000000 : Int64).toInt = 1000000 := by decide
            exact ⟨by omega, by omega⟩
          obtain ⟨hj, ej⟩ := hcJ h.1 h.2.1 a1
          obtain ⟨hq, eq⟩ := poJ a2
          generalize tn z0 = j at hj
          generalize tn z1 = q at hq
          obtain ⟨hn, hcx, hcm, hco, ham, hho, hbo, hfa, hkt, hpt, hrest⟩ := h
          have key : ∀ (f : Nat → Int64) (x y : Nat), y < 4 → vp_updL f (j * 4 + q) z2 (x * 4 + y) = if x = j ∧ y = q then z2 else f (x * 4 + y) := by
            intro f x y hy
            unfold vp_updL
            by_cases q1 : x * 4 + y = j * 4 + q
            · rw [if_pos q1, if_pos (by omega)]
            · rw [if_neg q1, if_neg (by omega)]
          have keyM : ∀ (f : Nat → Int64) (x y : Nat), x < 24 → vp_updL f (24 * q + j) z2 (24 * y + x) = if x = j ∧ y = q then z2 else f (24 * y + x) := by
            intro f x y hy
            unfold vp_updL
            by_cases q1 : 24 * y + x = 24 * q + j
            · rw [if_pos q1, if_pos (by omega)]
            · rw [if_neg q1, if_neg (by omega)]
          refine ⟨hn, hcx, hcm, hco, ham, fun c y hc hy => ?_, hbo, hfa, hkt, fun y hy => ?_, hrest⟩
          · show vp_updL (S_hours S) (j * 4 + q) z2 (c * 4 + y) = vp_updL (M_hours M) (24 * q + j) z2 (24 * y + c) ∧ in0 (vp_updL (S_hours S) (j * 4 + q) z2 (c * 4 + y)) 1000000 ∧ (n ≤ c → vp_updL (S_hours S) (j * 4 + q) z2 (c * 4 + y) = 0)
            rw [key _ c y hy, keyM _ c y hc]
            by_cases q1 : c = j ∧ y = q
            · rw [if_pos q1, if_pos q1]
              exact ⟨rfl, hr, fun q9 => by omega⟩
            · rw [if_neg q1, if_neg q1]
              exact hho c y hc hy
          · show vp_updL (S_portTotals S) q (S_portTotals S q + (z2 - S_hours S (j * 4 + q))) y = sm (fun c => vp_updL (S_hours S) (j * 4 + q) z2 (c * 4 + y)) n
            by_cases q1 : y = q
            · subst q1
              rw [pk_uLs, hpt y hy]
              rw [sm_upd (f := fun c => S_hours S (c * 4 + y)) (g := fun c => vp_updL (S_hours S) (j * 4 + y) z2 (c * 4 + y)) hj (fun c hc hne => by show vp_updL _ _ _ _ = _; rw [key _ c y hy, if_neg (by omega)])]
              show _ = _ + (vp_updL (S_hours S) (j * 4 + y) z2 (j * 4 + y) - _)
              rw [pk_uLs]
            · rw [pk_uLn q1, hpt y hy]
              exact sm_congr (fun c hc => by show _ = vp_updL _ _ _ _; rw [key _ c y hy, if_neg (by omega)])
theorem rl_far (h : Rl S C G dr M n) (T : TalT) (tr : Int64) (F : Nat → Int32) (z0 : Int32) (z1 : Int32) (z2 : Int32) : w_X4_far S z0 z1 z2 = w_X5_far M z0 z1 z2 ∧ ∃ n2, Rl (w_X4_far_S S z0 z1 z2) C G dr (w_X5_far_M M z0 z1 z2) n2 := by
  unfold w_X4_far w_X4_far_S w_X5_far w_X5_far_M
  by_cases a1 : w_X5_isCell M z0 = 0
  · have hp := (hp_eq h (ca := z0) (cb := z1)).mpr (Or.inl a1)
    simp only [a1, hp, if_true]; exact ⟨trivial, n, h⟩
  · by_cases a2 : w_X5_isCell M z1 = 0
    · have hp := (hp_eq h (ca := z0) (cb := z1)).mpr (Or.inr (Or.inl a2))
      simp only [a1, a2, hp, if_true, if_false]; exact ⟨trivial, n, h⟩
    · by_cases a3 : z0 = z1
      · have hp := (hp_eq h (ca := z0) (cb := z1)).mpr (Or.inr (Or.inr a3))
        simp only [a1, a2, hp, if_true, if_false]
        rw [if_pos a3, if_pos a3]
        exact ⟨rfl, n, h⟩
      · have hp : ¬ w_X2_hasPair S z0 z1 = 0 := fun q => by
          rcases (hp_eq h).mp q with q | q | q
          · exact a1 q
          · exact a2 q
          · exact a3 q
        obtain ⟨⟨hi, ei⟩, hj, ej⟩ := hpJ h.1 h.2.1 hp
        have hij : tn z0 ≠ tn z1 := fun q => a3 (by rw [ei, ej, q])
        have keyM : ∀ (f : Nat → Int32) (v : Int32) (i j x y : Nat), i < 24 → j < 24 → x < 24 → y < 24 → upd (upd f (24 * i + j) v) (24 * j + i) v (24 * x + y) = if (x = j ∧ y = i) ∨ (x = i ∧ y = j) then v else f (24 * x + y) := by
          intro f v i j x y hi hj hx hy
          by_cases q1 : 24 * x + y = 24 * j + i
          · rw [q1, pk_us, if_pos (Or.inl (by omega))]
          · rw [pk_un q1]
            by_cases q2 : 24 * x + y = 24 * i + j
            · rw [q2, pk_us, if_pos (Or.inr (by omega))]
            · rw [pk_un q2, if_neg (by omega)]
        by_cases h1 : z2 < 0
        · simp only [a1, a2, a3, hp, h1, if_true, if_false]
          refine ⟨trivial, n, ?_⟩
          rw [show ((1 : Int32) <<< (z1 &&& 31)) = 1 <<< (nI (tn z1) &&& 31) by rw [← ej], show ((1 : Int32) <<< (z0 &&& 31)) = 1 <<< (nI (tn z0) &&& 31) by rw [← ei]]
          generalize tn z0 = i at *
          generalize tn z1 = j at *
          obtain ⟨hn, hcx, hcm, hco, ham, hho, hbo, hfa, hrest⟩ := h
          have key : ∀ x y, x < 24 → y < 24 → bt (upd (upd (S_tooFar S) i (S_tooFar S i ||| (1 <<< (nI j &&& 31)))) j (upd (S_tooFar S) i (S_tooFar S i ||| (1 <<< (nI j &&& 31))) j ||| (1 <<< (nI i &&& 31))) x) y = (bt (S_tooFar S x) y || decide ((x = j ∧ y = i) ∨ (x = i ∧ y = j))) := by
            intro x y hx hy
            rw [pk_un (Ne.symm hij)]
            by_cases q1 : x = j
            · subst q1
              rw [pk_us, b_set _ (by omega) (by omega)]
              congr 1
              by_cases q2 : y = i
              · subst q2; simp
              · simp [q2, Ne.symm hij]
            · rw [pk_un q1]
              by_cases q2 : x = i
              · subst q2
                rw [pk_us, b_set _ (by omega) (by omega)]
                congr 1
                simp [q1]
              · rw [pk_un q2]
                simp [q1, q2]
          refine ⟨hn, hcx, hcm, hco, ham, hho, hbo, fun c d hc hd => ?_, hrest⟩
          show (bt (upd (upd (S_tooFar S) i (S_tooFar S i ||| (1 <<< (nI j &&& 31)))) j (upd (S_tooFar S) i (S_tooFar S i ||| (1 <<< (nI j &&& 31))) j ||| (1 <<< (nI i &&& 31))) c) d = decide (¬ upd (upd (M_apart M) (24 * i + j) 1) (24 * j + i) 1 (24 * c + d) = 0)) ∧ bt (upd (upd (S_tooFar S) i (S_tooFar S i ||| (1 <<< (nI j &&& 31)))) j (upd (S_tooFar S) i (S_tooFar S i ||| (1 <<< (nI j &&& 31))) j ||| (1 <<< (nI i &&& 31))) c) d = bt (upd (upd (S_tooFar S) i (S_tooFar S i ||| (1 <<< (nI j &&& 31)))) j (upd (S_tooFar S) i (S_tooFar S i ||| (1 <<< (nI j &&& 31))) j ||| (1 <<< (nI i &&& 31))) d) c ∧ bt (upd (upd (S_tooFar S) i (S_tooFar S i ||| (1 <<< (nI j &&& 31)))) j (upd (S_tooFar S) i (S_tooFar S i ||| (1 <<< (nI j &&& 31))) j ||| (1 <<< (nI i &&& 31))) c) c = false
          rw [key c d hc hd, key d c hd hc, key c c hc hc, keyM _ _ i j c d (by omega) (by omega) hc hd]
          have hb := hfa c d hc hd
          refine ⟨?_, ?_, ?_⟩
          · rw [hb.1]
            by_cases q1 : (c = j ∧ d = i) ∨ (c = i ∧ d = j)
            · rw [if_pos q1]; simp [q1]
            · rw [if_neg q1]; simp [q1]
          · rw [hb.2.1]
            congr 1
            by_cases q1 : (c = j ∧ d = i) ∨ (c = i ∧ d = j)
            · rw [decide_eq_true q1, decide_eq_true (by omega)]
            · rw [decide_eq_false q1, decide_eq_false (by omega)]
          · rw [hb.2.2, decide_eq_false (by omega)]; rfl
        · simp only [a1, a2, a3, hp, h1, if_false]
          refine ⟨trivial, n, ?_⟩
          rw [show ((1 : Int32) <<< (z1 &&& 31)) = 1 <<< (nI (tn z1) &&& 31) by rw [← ej], show ((1 : Int32) <<< (z0 &&& 31)) = 1 <<< (nI (tn z0) &&& 31) by rw [← ei]]
          generalize tn z0 = i at *
          generalize tn z1 = j at *
          obtain ⟨hn, hcx, hcm, hco, ham, hho, hbo, hfa, hrest⟩ := h
          have key : ∀ x y, x < 24 → y < 24 → bt (upd (upd (S_tooFar S) i (S_tooFar S i &&& ((1 <<< (nI j &&& 31)) ^^^ (-1)))) j (upd (S_tooFar S) i (S_tooFar S i &&& ((1 <<< (nI j &&& 31)) ^^^ (-1))) j &&& ((1 <<< (nI i &&& 31)) ^^^ (-1))) x) y = (bt (S_tooFar S x) y && !decide ((x = j ∧ y = i) ∨ (x = i ∧ y = j))) := by
            intro x y hx hy
            rw [pk_un (Ne.symm hij)]
            by_cases q1 : x = j
            · subst q1
              rw [pk_us, b_clr _ (by omega) (by omega)]
              congr 2
              by_cases q2 : y = i
              · subst q2; simp
              · simp [q2, Ne.symm hij]
            · rw [pk_un q1]
              by_cases q2 : x = i
              · subst q2
                rw [pk_us, b_clr _ (by omega) (by omega)]
                congr 2
                simp [q1]
              · rw [pk_un q2]
                simp [q1, q2]
          refine ⟨hn, hcx, hcm, hco, ham, hho, hbo, fun c d hc hd => ?_, hrest⟩
          show (bt (upd (upd (S_tooFar S) i (S_tooFar S i &&& ((1 <<< (nI j &&& 31)) ^^^ (-1)))) j (upd (S_tooFar S) i (S_tooFar S i &&& ((1 <<< (nI j &&& 31)) ^^^ (-1))) j &&& ((1 <<< (nI i &&& 31)) ^^^ (-1))) c) d = decide (¬ upd (upd (M_apart M) (24 * i + j) 0) (24 * j + i) 0 (24 * c + d) = 0)) ∧ bt (upd (upd (S_tooFar S) i (S_tooFar S i &&& ((1 <<< (nI j &&& 31)) ^^^ (-1)))) j (upd (S_tooFar S) i (S_tooFar S i &&& ((1 <<< (nI j &&& 31)) ^^^ (-1))) j &&& ((1 <<< (nI i &&& 31)) ^^^ (-1))) c) d = bt (upd (upd (S_tooFar S) i (S_tooFar S i &&& ((1 <<< (nI j &&& 31)) ^^^ (-1)))) j (upd (S_tooFar S) i (S_tooFar S i &&& ((1 <<< (nI j &&& 31)) ^^^ (-1))) j &&& ((1 <<< (nI i &&& 31)) ^^^ (-1))) d) c ∧ bt (upd (upd (S_tooFar S) i (S_tooFar S i &&& ((1 <<< (nI j &&& 31)) ^^^ (-1)))) j (upd (S_tooFar S) i (S_tooFar S i &&& ((1 <<< (nI j &&& 31)) ^^^ (-1))) j &&& ((1 <<< (nI i &&& 31)) ^^^ (-1))) c) c = false
          rw [key c d hc hd, key d c hd hc, key c c hc hc, keyM _ _ i j c d (by omega) (by omega) hc hd]
          have hb := hfa c d hc hd
          refine ⟨?_, ?_, ?_⟩
          · rw [hb.1]
            by_cases q1 : (c = j ∧ d = i) ∨ (c = i ∧ d = j)
            · rw [if_pos q1]; simp [q1]
            · rw [if_neg q1]; simp [q1]
          · rw [hb.2.1]
            congr 2
            by_cases q1 : (c = j ∧ d = i) ∨ (c = i ∧ d = j)
            · rw [decide_eq_true q1, decide_eq_true (by omega)]
            · rw [decide_eq_false q1, decide_eq_false (by omega)]
          · rw [hb.2.2]; rfl
end RL
theorem gb1_8 : ∀ q, q < 8 → gb1 8 q = 1 := by decide +kernel
theorem rl_new (seed : Int64) : Rl seaS choS goS (w_X1_start_dr seed) (modS seed) 0 := by
  refine ⟨by omega, rfl, rfl, fun c hc => ⟨rfl, in0_0 10000000 (by decide)⟩, fun c q hc hq => ⟨rfl, in0_0 720720000 (by decide), fun _ => rfl⟩, fun c q hc hq => ⟨rfl, in0_0 1000000 (by decide), fun _ => rfl⟩, fun c d hc hd => ⟨rfl, rfl, rfl⟩, fun c d hc hd => ⟨?_, ?_, ?_⟩, fun q hq => rfl, fun q hq => rfl, fun q hq => Or.inl ⟨rfl, rfl, gb1_8 q hq⟩, Or.inl ⟨rfl, rfl, rfl⟩, rfl, rfl, fun c hc => absurd hc (Nat.not_lt_zero c), fun c h1 h2 => rfl, fun c h1 => ⟨b_0 c, b_0 c, b_0 c, b_0 c⟩, rfl, Or.inl ⟨rfl, rfl, rfl, rfl⟩, rfl, Or.inl ⟨rfl, rfl, rfl, rfl, rfl⟩, fun q hq => b_0 q⟩
  · show bt 0 d = decide (¬ (0 : Int32) = 0)
    rw [b_0]; rfl
  · show bt 0 d = bt 0 c
    rw [b_0, b_0]
  · exact b_0 c
