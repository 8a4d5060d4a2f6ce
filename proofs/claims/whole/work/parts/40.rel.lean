/-! THE RELATION between the class's state and the reference's: what each call keeps -/
def in0 (x : Int64) (m : Int) : Prop := 0 ≤ x.toInt ∧ x.toInt ≤ m
def Rl (S : SeaT) (C : ChoT) (G : GoT) (dr : Int64) (M : ModT) (n : Nat) : Prop :=
  n ≤ 24 ∧ S_cells S = nI n ∧ M_cells M = nI n ∧
  (∀ c, c < 24 → S_costs S c = M_costs M c ∧ in0 (S_costs S c) 10000000) ∧
  (∀ c q, c < 24 → q < 8 → S_amounts S (c * 8 + q) = M_amounts M (24 * q + c) ∧ in0 (S_amounts S (c * 8 + q)) 720720000 ∧ (n ≤ c → S_amounts S (c * 8 + q) = 0)) ∧
  (∀ c q, c < 24 → q < 4 → S_hours S (c * 4 + q) = M_hours M (24 * q + c) ∧ in0 (S_hours S (c * 4 + q)) 1000000 ∧ (n ≤ c → S_hours S (c * 4 + q) = 0)) ∧
  (∀ c d, c < 24 → d < 24 → S_borders S (c * 24 + d) = M_borders M (24 * c + d) ∧ S_borders S (c * 24 + d) = S_borders S (d * 24 + c) ∧ S_borders S (c * 24 + c) = 0) ∧
  (∀ c d, c < 24 → d < 24 → (bt (S_tooFar S c) d = decide (¬ M_apart M (24 * c + d) = 0)) ∧ bt (S_tooFar S c) d = bt (S_tooFar S d) c ∧ bt (S_tooFar S c) c = false) ∧
  (∀ q, q < 8 → S_kindTotals S q = sm (fun c => S_amounts S (c * 8 + q)) n) ∧
  (∀ q, q < 4 → S_portTotals S q = sm (fun c => S_hours S (c * 4 + q)) n) ∧
  (∀ q, q < 8 → (M_hasGoal M q = 0 ∧ S_goalAbove S q = 0 ∧ S_goalBelow S q = 1) ∨ (¬ M_hasGoal M q = 0 ∧ S_goalAbove S q = M_goalAbove M q ∧ S_goalBelow S q = M_goalBelow M q)) ∧
  ((M_isFair M = 0 ∧ S_fairAbove S = 1 ∧ S_fairBelow S = 1) ∨ (¬ M_isFair M = 0 ∧ S_fairAbove S = M_fairAbove M ∧ S_fairBelow S = M_fairBelow M)) ∧
  S_borderWeight S = M_weight M ∧ S_fewest S = M_least M ∧
  (∀ c, c < n → (bt (S_needed S) c = decide (M_states M c = 1)) ∧ (bt (S_barred S) c = decide (M_states M c = 2)) ∧ (M_states M c = 0 ∨ M_states M c = 1 ∨ M_states M c = 2)) ∧
  (∀ c, n ≤ c → c < 24 → M_states M c = 0) ∧
  (∀ c, n ≤ c → bt (S_needed S) c = false ∧ bt (S_barred S) c = false ∧ bt (C_cells C) c = false ∧ bt (G_cellsBefore G) c = false) ∧
  dr = M_draw M ∧
  ((C_there C = 0 ∧ M_hasChoice M = 0 ∧ C_cells C = 0 ∧ C_price C = -1) ∨ (C_there C = 1 ∧ M_hasChoice M = 1 ∧ C_cells C = M_choice M ∧ C_price C = M_cost M)) ∧
  G_cellsBefore G = M_earlier M ∧
  ((M_hasRun M = 0 ∧ G_runAnswer G = -1 ∧ G_toldBound G = -1 ∧ G_clashingKinds G = 0 ∧ M_clashes M = 0) ∨ (¬ M_hasRun M = 0 ∧ G_runAnswer G = M_answer M ∧ (M_answer M = 0 ∨ M_answer M = 1 ∨ M_answer M = 2) ∧ G_toldBound G = M_bound M ∧ G_clashingKinds G = M_clashes M)) ∧
  (∀ q, 8 ≤ q → bt (M_clashes M) q = false)
