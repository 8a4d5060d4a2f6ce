theorem rl_cell {S : SeaT} {C : ChoT} {G : GoT} {dr : Int64} {M : ModT} {n : Nat} (h : Rl S C G dr M n) (T : TalT) (tr : Int64) (F : Nat → Int32) (z0 : Int64) : w_X4_cell S z0 = w_X5_cell M z0 ∧ ∃ n2, Rl (w_X4_cell_S S z0 n) C G dr (w_X5_cell_M M z0 n) n2 := by
  sorry
theorem rl_holds {S : SeaT} {C : ChoT} {G : GoT} {dr : Int64} {M : ModT} {n : Nat} (h : Rl S C G dr M n) (T : TalT) (tr : Int64) (F : Nat → Int32) (z0 : Int32) (z1 : Int32) (z2 : Int64) (z3 : Int64) : w_X4_holds S z0 z1 z2 z3 = w_X5_holds M z0 z1 z2 z3 ∧ ∃ n2, Rl (w_X4_holds_S S z0 z1 z2 z3) C G dr (w_X5_holds_M M z0 z1 z2 z3) n2 := by
  sorry
theorem rl_goal {S : SeaT} {C : ChoT} {G : GoT} {dr : Int64} {M : ModT} {n : Nat} (h : Rl S C G dr M n) (T : TalT) (tr : Int64) (F : Nat → Int32) (z0 : Int32) (z1 : Int64) (z2 : Int64) : w_X4_goal z0 z1 z2 = w_X5_goal z0 z1 z2 ∧ ∃ n2, Rl (w_X4_goal_S S z0 z1 z2) C G dr (w_X5_goal_M M z0 z1 z2) n2 := by
  sorry
theorem rl_near {S : SeaT} {C : ChoT} {G : GoT} {dr : Int64} {M : ModT} {n : Nat} (h : Rl S C G dr M n) (T : TalT) (tr : Int64) (F : Nat → Int32) (z0 : Int32) (z1 : Int32) (z2 : Int64) : w_X4_near S z0 z1 z2 = w_X5_near M z0 z1 z2 ∧ ∃ n2, Rl (w_X4_near_S S z0 z1 z2) C G dr (w_X5_near_M M z0 z1 z2) n2 := by
  sorry
theorem rl_weight {S : SeaT} {C : ChoT} {G : GoT} {dr : Int64} {M : ModT} {n : Nat} (h : Rl S C G dr M n) (T : TalT) (tr : Int64) (F : Nat → Int32) (z0 : Int64) : w_X4_weight z0 = w_X5_weight z0 ∧ ∃ n2, Rl (w_X4_weight_S S z0) C G dr (w_X5_weight_M M z0) n2 := by
  sorry
theorem rl_must {S : SeaT} {C : ChoT} {G : GoT} {dr : Int64} {M : ModT} {n : Nat} (h : Rl S C G dr M n) (T : TalT) (tr : Int64) (F : Nat → Int32) (z0 : Int32) : w_X4_must S z0 = w_X5_must M z0 ∧ ∃ n2, Rl (w_X4_must_S S z0) C G dr (w_X5_must_M M z0) n2 := by
  sorry
theorem rl_bar {S : SeaT} {C : ChoT} {G : GoT} {dr : Int64} {M : ModT} {n : Nat} (h : Rl S C G dr M n) (T : TalT) (tr : Int64) (F : Nat → Int32) (z0 : Int32) : w_X4_bar S z0 = w_X5_bar M z0 ∧ ∃ n2, Rl (w_X4_bar_S S z0) C G dr (w_X5_bar_M M z0) n2 := by
  sorry
theorem rl_zone {S : SeaT} {C : ChoT} {G : GoT} {dr : Int64} {M : ModT} {n : Nat} (h : Rl S C G dr M n) (T : TalT) (tr : Int64) (F : Nat → Int32) (z0 : Int32) (z1 : Int32) : w_X4_zone S C z0 z1 n = w_X5_zone M z0 z1 n ∧ ∃ n2, Rl S C G dr M n2 := by
  sorry
theorem rl_run {S : SeaT} {C : ChoT} {G : GoT} {dr : Int64} {M : ModT} {n : Nat} (h : Rl S C G dr M n) (T : TalT) (tr : Int64) (F : Nat → Int32) (z0 : Int64) : w_X4_run S T C z0 n = w_X5_run M n z0 ∧ ∃ n2, Rl S (w_X4_run_C S T C z0 n) (w_X4_run_G S T C G z0 n) dr (w_X5_run_M M n z0) n2 := by
  sorry
theorem rl_chosen {S : SeaT} {C : ChoT} {G : GoT} {dr : Int64} {M : ModT} {n : Nat} (h : Rl S C G dr M n) (T : TalT) (tr : Int64) (F : Nat → Int32) (z0 : Int32) : w_X4_chosen S C z0 = w_X5_chosen M z0 ∧ ∃ n2, Rl S C G dr M n2 := by
  sorry
theorem rl_cost {S : SeaT} {C : ChoT} {G : GoT} {dr : Int64} {M : ModT} {n : Nat} (h : Rl S C G dr M n) (T : TalT) (tr : Int64) (F : Nat → Int32)  : w_X4_cost C = w_X5_cost M ∧ ∃ n2, Rl S C G dr M n2 := by
  sorry
theorem rl_bound {S : SeaT} {C : ChoT} {G : GoT} {dr : Int64} {M : ModT} {n : Nat} (h : Rl S C G dr M n) (T : TalT) (tr : Int64) (F : Nat → Int32)  : w_X4_bound G = w_X5_bound M ∧ ∃ n2, Rl S C G dr M n2 := by
  sorry
theorem rl_met {S : SeaT} {C : ChoT} {G : GoT} {dr : Int64} {M : ModT} {n : Nat} (h : Rl S C G dr M n) (T : TalT) (tr : Int64) (F : Nat → Int32) (z0 : Int32) (z1 : Int32) : w_X4_met S T C z0 z1 n = w_X5_met M z0 z1 n ∧ ∃ n2, Rl S C G dr M n2 := by
  sorry
theorem rl_clash {S : SeaT} {C : ChoT} {G : GoT} {dr : Int64} {M : ModT} {n : Nat} (h : Rl S C G dr M n) (T : TalT) (tr : Int64) (F : Nat → Int32) (z0 : Int32) : w_X4_clash G z0 = w_X5_clash M z0 ∧ ∃ n2, Rl S C G dr M n2 := by
  sorry
theorem rl_proved {S : SeaT} {C : ChoT} {G : GoT} {dr : Int64} {M : ModT} {n : Nat} (h : Rl S C G dr M n) (T : TalT) (tr : Int64) (F : Nat → Int32)  : w_X4_proved G = w_X5_proved M ∧ ∃ n2, Rl S C G dr M n2 := by
  sorry
theorem rl_improve {S : SeaT} {C : ChoT} {G : GoT} {dr : Int64} {M : ModT} {n : Nat} (h : Rl S C G dr M n) (T : TalT) (tr : Int64) (F : Nat → Int32) (z0 : Int32) : w_X4_improve S T dr z0 n = w_X5_improve M z0 n ∧ ∃ n2, Rl S (w_X4_improve_C S T dr C z0 n) (w_X4_improve_G S T dr C G z0 n) (w_X4_improve_dr S T dr z0 n) (w_X5_improve_M M z0 n) n2 := by
  sorry
theorem rl_often {S : SeaT} {C : ChoT} {G : GoT} {dr : Int64} {M : ModT} {n : Nat} (h : Rl S C G dr M n) (T : TalT) (tr : Int64) (F : Nat → Int32) (z0 : Int32) (z1 : Int32) : w_X4_often S T tr n z0 z1 = (omE M n z0 z1).2 ∧ ∃ n2, Rl S C G dr ((omE M n z0 z1).1) n2 := by
  sorry
theorem rl_port {S : SeaT} {C : ChoT} {G : GoT} {dr : Int64} {M : ModT} {n : Nat} (h : Rl S C G dr M n) (T : TalT) (tr : Int64) (F : Nat → Int32) (z0 : Int32) (z1 : Int32) (z2 : Int64) : w_X4_port S z0 z1 z2 = w_X5_port M z0 z1 z2 ∧ ∃ n2, Rl (w_X4_port_S S z0 z1 z2) C G dr (w_X5_port_M M z0 z1 z2) n2 := by
  sorry
theorem rl_loss {S : SeaT} {C : ChoT} {G : GoT} {dr : Int64} {M : ModT} {n : Nat} (h : Rl S C G dr M n) (T : TalT) (tr : Int64) (F : Nat → Int32) (z0 : Int32) (z1 : Int32) : w_X4_loss S T C z0 z1 n = w_X5_loss M z0 z1 n ∧ ∃ n2, Rl S C G dr M n2 := by
  sorry
theorem rl_fair {S : SeaT} {C : ChoT} {G : GoT} {dr : Int64} {M : ModT} {n : Nat} (h : Rl S C G dr M n) (T : TalT) (tr : Int64) (F : Nat → Int32) (z0 : Int64) (z1 : Int64) : w_X4_fair z0 z1 = w_X5_fair z0 z1 ∧ ∃ n2, Rl (w_X4_fair_S S z0 z1) C G dr (w_X5_fair_M M z0 z1) n2 := by
  sorry
theorem rl_border {S : SeaT} {C : ChoT} {G : GoT} {dr : Int64} {M : ModT} {n : Nat} (h : Rl S C G dr M n) (T : TalT) (tr : Int64) (F : Nat → Int32)  : w_X4_border S T C n = w_X5_border M n ∧ ∃ n2, Rl S C G dr M n2 := by
  sorry
theorem rl_size {S : SeaT} {C : ChoT} {G : GoT} {dr : Int64} {M : ModT} {n : Nat} (h : Rl S C G dr M n) (T : TalT) (tr : Int64) (F : Nat → Int32) (z0 : Int32) : w_X4_size S z0 = w_X5_size M z0 ∧ ∃ n2, Rl (w_X4_size_S S z0) C G dr (w_X5_size_M M z0) n2 := by
  sorry
theorem rl_year {S : SeaT} {C : ChoT} {G : GoT} {dr : Int64} {M : ModT} {n : Nat} (h : Rl S C G dr M n) (T : TalT) (tr : Int64) (F : Nat → Int32) (z0 : Int32) : w_X4_year S C z0 n = w_X5_year M z0 n ∧ ∃ n2, Rl S C G dr M n2 := by
  sorry
theorem rl_wind {S : SeaT} {C : ChoT} {G : GoT} {dr : Int64} {M : ModT} {n : Nat} (h : Rl S C G dr M n) (T : TalT) (tr : Int64) (F : Nat → Int32) (z0 : Int32) (z1 : Int64) : w_X4_wind S z0 z1 = w_X5_wind M z0 z1 ∧ ∃ n2, Rl (w_X4_wind_S S z0 z1) C G dr (w_X5_wind_M M z0 z1) n2 := by
  sorry
theorem rl_unlike {S : SeaT} {C : ChoT} {G : GoT} {dr : Int64} {M : ModT} {n : Nat} (h : Rl S C G dr M n) (T : TalT) (tr : Int64) (F : Nat → Int32) (z0 : Int32) : w_X4_unlike C G z0 = w_X5_unlike M z0 ∧ ∃ n2, Rl S C G dr M n2 := by
  sorry
theorem rl_far {S : SeaT} {C : ChoT} {G : GoT} {dr : Int64} {M : ModT} {n : Nat} (h : Rl S C G dr M n) (T : TalT) (tr : Int64) (F : Nat → Int32) (z0 : Int32) (z1 : Int32) (z2 : Int32) : w_X4_far S z0 z1 z2 = w_X5_far M z0 z1 z2 ∧ ∃ n2, Rl (w_X4_far_S S z0 z1 z2) C G dr (w_X5_far_M M z0 z1 z2) n2 := by
  sorry
theorem rl_tie {S : SeaT} {C : ChoT} {G : GoT} {dr : Int64} {M : ModT} {n : Nat} (h : Rl S C G dr M n) (T : TalT) (tr : Int64) (F : Nat → Int32) (z0 : Int32) : w_X4_tie S T C z0 n = w_X5_tie M z0 n ∧ ∃ n2, Rl S C G dr M n2 := by
  sorry
theorem rl_hbc {S : SeaT} {C : ChoT} {G : GoT} {dr : Int64} {M : ModT} {n : Nat} (h : Rl S C G dr M n) : ¬ 4096 < lh 1 (w_bitCount (w_X2_freeSet S)) → cn (w_X2_freeSet S) n ≤ 12 := by
  sorry
theorem rl_hE_met {S : SeaT} {C : ChoT} {G : GoT} {dr : Int64} {M : ModT} {n : Nat} (h : Rl S C G dr M n) (ki : Int32) : ¬ w_X5_isKind ki = 0 → ¬ sm (f_am M (tn ki) (M_choice M)) n = 0 → (eu (sm (f_am M (tn ki) (M_choice M)) n) (sm (f_am M (tn ki) (w_X5_all M)) n) 100).2 = 0 ∧ ¬ (eu (sm (f_am M (tn ki) (M_choice M)) n) (sm (f_am M (tn ki) (w_X5_all M)) n) 100).1 = 0 := by
  sorry
theorem rl_hE_loss {S : SeaT} {C : ChoT} {G : GoT} {dr : Int64} {M : ModT} {n : Nat} (h : Rl S C G dr M n) (ki : Int32) : ¬ w_X5_isPort ki = 0 → ¬ sm (f_ho M (tn ki) (M_choice M)) n = 0 → (eu (sm (f_ho M (tn ki) (M_choice M)) n) (sm (f_ho M (tn ki) (w_X5_all M)) n) 100).2 = 0 ∧ ¬ (eu (sm (f_ho M (tn ki) (M_choice M)) n) (sm (f_ho M (tn ki) (w_X5_all M)) n) 100).1 = 0 := by
  sorry
theorem rl_new (seed : Int64) : Rl seaS choS goS (w_X1_start_dr seed) (modS seed) 0 := by
  sorry
