/-! the parts of the reference's state that no search changes; one setter at a time -/
def Same (M M' : ModT) : Prop := M_cells M' = M_cells M ∧ M_costs M' = M_costs M ∧ M_states M' = M_states M ∧ M_amounts M' = M_amounts M ∧ M_hours M' = M_hours M ∧ M_borders M' = M_borders M ∧ M_apart M' = M_apart M ∧ M_hasGoal M' = M_hasGoal M ∧ M_goalAbove M' = M_goalAbove M ∧ M_goalBelow M' = M_goalBelow M ∧ M_isFair M' = M_isFair M ∧ M_fairAbove M' = M_fairAbove M ∧ M_fairBelow M' = M_fairBelow M ∧ M_weight M' = M_weight M ∧ M_least M' = M_least M
theorem Same_refl (M : ModT) : Same M M := ⟨rfl, rfl, rfl, rfl, rfl, rfl, rfl, rfl, rfl, rfl, rfl, rfl, rfl, rfl, rfl⟩
theorem Same_trans {M M' M2 : ModT} (h : Same M M') (k : Same M' M2) : Same M M2 := by
  obtain ⟨h0, h1, h2, h3, h4, h5, h6, h7, h8, h9, h10, h11, h12, h13, h14⟩ := h
  obtain ⟨k0, k1, k2, k3, k4, k5, k6, k7, k8, k9, k10, k11, k12, k13, k14⟩ := k
  exact ⟨k0.trans h0, k1.trans h1, k2.trans h2, k3.trans h3, k4.trans h4, k5.trans h5, k6.trans h6, k7.trans h7, k8.trans h8, k9.trans h9, k10.trans h10, k11.trans h11, k12.trans h12, k13.trans h13, k14.trans h14⟩
theorem d_cells_draw (M : ModT) (v : Int64) : M_cells (sM_draw M v) = M_cells M := by unfold M_cells sM_draw; rfl
theorem d_costs_draw (M : ModT) (v : Int64) : M_costs (sM_draw M v) = M_costs M := by unfold M_costs sM_draw; rfl
theorem d_states_draw (M : ModT) (v : Int64) : M_states (sM_draw M v) = M_states M := by unfold M_states sM_draw; rfl
theorem d_amounts_draw (M : ModT) (v : Int64) : M_amounts (sM_draw M v) = M_amounts M := by unfold M_amounts sM_draw; rfl
theorem d_hours_draw (M : ModT) (v : Int64) : M_hours (sM_draw M v) = M_hours M := by unfold M_hours sM_draw; rfl
theorem d_borders_draw (M : ModT) (v : Int64) : M_borders (sM_draw M v) = M_borders M := by unfold M_borders sM_draw; rfl
theorem d_apart_draw (M : ModT) (v : Int64) : M_apart (sM_draw M v) = M_apart M := by unfold M_apart sM_draw; rfl
theorem d_hasGoal_draw (M : ModT) (v : Int64) : M_hasGoal (sM_draw M v) = M_hasGoal M := by unfold M_hasGoal sM_draw; rfl
theorem d_goalAbove_draw (M : ModT) (v : Int64) : M_goalAbove (sM_draw M v) = M_goalAbove M := by unfold M_goalAbove sM_draw; rfl
theorem d_goalBelow_draw (M : ModT) (v : Int64) : M_goalBelow (sM_draw M v) = M_goalBelow M := by unfold M_goalBelow sM_draw; rfl
theorem d_isFair_draw (M : ModT) (v : Int64) : M_isFair (sM_draw M v) = M_isFair M := by unfold M_isFair sM_draw; rfl
theorem d_fairAbove_draw (M : ModT) (v : Int64) : M_fairAbove (sM_draw M v) = M_fairAbove M := by unfold M_fairAbove sM_draw; rfl
theorem d_fairBelow_draw (M : ModT) (v : Int64) : M_fairBelow (sM_draw M v) = M_fairBelow M := by unfold M_fairBelow sM_draw; rfl
theorem d_weight_draw (M : ModT) (v : Int64) : M_weight (sM_draw M v) = M_weight M := by unfold M_weight sM_draw; rfl
theorem d_least_draw (M : ModT) (v : Int64) : M_least (sM_draw M v) = M_least M := by unfold M_least sM_draw; rfl
theorem Same_draw (M : ModT) (v : Int64) : Same M (sM_draw M v) := ⟨d_cells_draw M v, d_costs_draw M v, d_states_draw M v, d_amounts_draw M v, d_hours_draw M v, d_borders_draw M v, d_apart_draw M v, d_hasGoal_draw M v, d_goalAbove_draw M v, d_goalBelow_draw M v, d_isFair_draw M v, d_fairAbove_draw M v, d_fairBelow_draw M v, d_weight_draw M v, d_least_draw M v⟩
theorem d_draw_draw (M : ModT) (v : Int64) : M_draw (sM_draw M v) = v := by unfold M_draw sM_draw; rfl
theorem d_hasChoice_draw (M : ModT) (v : Int64) : M_hasChoice (sM_draw M v) = M_hasChoice M := by unfold M_hasChoice sM_draw; rfl
theorem d_choice_draw (M : ModT) (v : Int64) : M_choice (sM_draw M v) = M_choice M := by unfold M_choice sM_draw; rfl
theorem d_earlier_draw (M : ModT) (v : Int64) : M_earlier (sM_draw M v) = M_earlier M := by unfold M_earlier sM_draw; rfl
theorem d_cost_draw (M : ModT) (v : Int64) : M_cost (sM_draw M v) = M_cost M := by unfold M_cost sM_draw; rfl
theorem d_hasRun_draw (M : ModT) (v : Int64) : M_hasRun (sM_draw M v) = M_hasRun M := by unfold M_hasRun sM_draw; rfl
theorem d_answer_draw (M : ModT) (v : Int64) : M_answer (sM_draw M v) = M_answer M := by unfold M_answer sM_draw; rfl
theorem d_bound_draw (M : ModT) (v : Int64) : M_bound (sM_draw M v) = M_bound M := by unfold M_bound sM_draw; rfl
theorem d_clashes_draw (M : ModT) (v : Int64) : M_clashes (sM_draw M v) = M_clashes M := by unfold M_clashes sM_draw; rfl
theorem d_tried_draw (M : ModT) (v : Int64) : M_tried (sM_draw M v) = M_tried M := by unfold M_tried sM_draw; rfl
theorem d_triedCost_draw (M : ModT) (v : Int64) : M_triedCost (sM_draw M v) = M_triedCost M := by unfold M_triedCost sM_draw; rfl
theorem d_kept_draw (M : ModT) (v : Int64) : M_kept (sM_draw M v) = M_kept M := by unfold M_kept sM_draw; rfl
theorem d_cells_hasChoice (M : ModT) (v : Int32) : M_cells (sM_hasChoice M v) = M_cells M := by unfold M_cells sM_hasChoice; rfl
theorem d_costs_hasChoice (M : ModT) (v : Int32) : M_costs (sM_hasChoice M v) = M_costs M := by unfold M_costs sM_hasChoice; rfl
theorem d_states_hasChoice (M : ModT) (v : Int32) : M_states (sM_hasChoice M v) = M_states M := by unfold M_states sM_hasChoice; rfl
theorem d_amounts_hasChoice (M : ModT) (v : Int32) : M_amounts (sM_hasChoice M v) = M_amounts M := by unfold M_amounts sM_hasChoice; rfl
theorem d_hours_hasChoice (M : ModT) (v : Int32) : M_hours (sM_hasChoice M v) = M_hours M := by unfold M_hours sM_hasChoice; rfl
theorem d_borders_hasChoice (M : ModT) (v : Int32) : M_borders (sM_hasChoice M v) = M_borders M := by unfold M_borders sM_hasChoice; rfl
theorem d_apart_hasChoice (M : ModT) (v : Int32) : M_apart (sM_hasChoice M v) = M_apart M := by unfold M_apart sM_hasChoice; rfl
theorem d_hasGoal_hasChoice (M : ModT) (v : Int32) : M_hasGoal (sM_hasChoice M v) = M_hasGoal M := by unfold M_hasGoal sM_hasChoice; rfl
theorem d_goalAbove_hasChoice (M : ModT) (v : Int32) : M_goalAbove (sM_hasChoice M v) = M_goalAbove M := by unfold M_goalAbove sM_hasChoice; rfl
theorem d_goalBelow_hasChoice (M : ModT) (v : Int32) : M_goalBelow (sM_hasChoice M v) = M_goalBelow M := by unfold M_goalBelow sM_hasChoice; rfl
theorem d_isFair_hasChoice (M : ModT) (v : Int32) : M_isFair (sM_hasChoice M v) = M_isFair M := by unfold M_isFair sM_hasChoice; rfl
theorem d_fairAbove_hasChoice (M : ModT) (v : Int32) : M_fairAbove (sM_hasChoice M v) = M_fairAbove M := by unfold M_fairAbove sM_hasChoice; rfl
theorem d_fairBelow_hasChoice (M : ModT) (v : Int32) : M_fairBelow (sM_hasChoice M v) = M_fairBelow M := by unfold M_fairBelow sM_hasChoice; rfl
theorem d_weight_hasChoice (M : ModT) (v : Int32) : M_weight (sM_hasChoice M v) = M_weight M := by unfold M_weight sM_hasChoice; rfl
theorem d_least_hasChoice (M : ModT) (v : Int32) : M_least (sM_hasChoice M v) = M_least M := by unfold M_least sM_hasChoice; rfl
theorem Same_hasChoice (M : ModT) (v : Int32) : Same M (sM_hasChoice M v) := ⟨d_cells_hasChoice M v, d_costs_hasChoice M v, d_states_hasChoice M v, d_amounts_hasChoice M v, d_hours_hasChoice M v, d_borders_hasChoice M v, d_apart_hasChoice M v, d_hasGoal_hasChoice M v, d_goalAbove_hasChoice M v, d_goalBelow_hasChoice M v, d_isFair_hasChoice M v, d_fairAbove_hasChoice M v, d_fairBelow_hasChoice M v, d_weight_hasChoice M v, d_least_hasChoice M v⟩
theorem d_draw_hasChoice (M : ModT) (v : Int32) : M_draw (sM_hasChoice M v) = M_draw M := by unfold M_draw sM_hasChoice; rfl
theorem d_hasChoice_hasChoice (M : ModT) (v : Int32) : M_hasChoice (sM_hasChoice M v) = v := by unfold M_hasChoice sM_hasChoice; rfl
theorem d_choice_hasChoice (M : ModT) (v : Int32) : M_choice (sM_hasChoice M v) = M_choice M := by unfold M_choice sM_hasChoice; rfl
theorem d_earlier_hasChoice (M : ModT) (v : Int32) : M_earlier (sM_hasChoice M v) = M_earlier M := by unfold M_earlier sM_hasChoice; rfl
theorem d_cost_hasChoice (M : ModT) (v : Int32) : M_cost (sM_hasChoice M v) = M_cost M := by unfold M_cost sM_hasChoice; rfl
theorem d_hasRun_hasChoice (M : ModT) (v : Int32) : M_hasRun (sM_hasChoice M v) = M_hasRun M := by unfold M_hasRun sM_hasChoice; rfl
theorem d_answer_hasChoice (M : ModT) (v : Int32) : M_answer (sM_hasChoice M v) = M_answer M := by unfold M_answer sM_hasChoice; rfl
theorem d_bound_hasChoice (M : ModT) (v : Int32) : M_bound (sM_hasChoice M v) = M_bound M := by unfold M_bound sM_hasChoice; rfl
theorem d_clashes_hasChoice (M : ModT) (v : Int32) : M_clashes (sM_hasChoice M v) = M_clashes M := by unfold M_clashes sM_hasChoice; rfl
theorem d_tried_hasChoice (M : ModT) (v : Int32) : M_tried (sM_hasChoice M v) = M_tried M := by unfold M_tried sM_hasChoice; rfl
theorem d_triedCost_hasChoice (M : ModT) (v : Int32) : M_triedCost (sM_hasChoice M v) = M_triedCost M := by unfold M_triedCost sM_hasChoice; rfl
theorem d_kept_hasChoice (M : ModT) (v : Int32) : M_kept (sM_hasChoice M v) = M_kept M := by unfold M_kept sM_hasChoice; rfl
theorem d_cells_choice (M : ModT) (v : Int32) : M_cells (sM_choice M v) = M_cells M := by unfold M_cells sM_choice; rfl
theorem d_costs_choice (M : ModT) (v : Int32) : M_costs (sM_choice M v) = M_costs M := by unfold M_costs sM_choice; rfl
theorem d_states_choice (M : ModT) (v : Int32) : M_states (sM_choice M v) = M_states M := by unfold M_states sM_choice; rfl
theorem d_amounts_choice (M : ModT) (v : Int32) : M_amounts (sM_choice M v) = M_amounts M := by unfold M_amounts sM_choice; rfl
theorem d_hours_choice (M : ModT) (v : Int32) : M_hours (sM_choice M v) = M_hours M := by unfold M_hours sM_choice; rfl
theorem d_borders_choice (M : ModT) (v : Int32) : M_borders (sM_choice M v) = M_borders M := by unfold M_borders sM_choice; rfl
theorem d_apart_choice (M : ModT) (v : Int32) : M_apart (sM_choice M v) = M_apart M := by unfold M_apart sM_choice; rfl
theorem d_hasGoal_choice (M : ModT) (v : Int32) : M_hasGoal (sM_choice M v) = M_hasGoal M := by unfold M_hasGoal sM_choice; rfl
theorem d_goalAbove_choice (M : ModT) (v : Int32) : M_goalAbove (sM_choice M v) = M_goalAbove M := by unfold M_goalAbove sM_choice; rfl
theorem d_goalBelow_choice (M : ModT) (v : Int32) : M_goalBelow (sM_choice M v) = M_goalBelow M := by unfold M_goalBelow sM_choice; rfl
theorem d_isFair_choice (M : ModT) (v : Int32) : M_isFair (sM_choice M v) = M_isFair M := by unfold M_isFair sM_choice; rfl
theorem d_fairAbove_choice (M : ModT) (v : Int32) : M_fairAbove (sM_choice M v) = M_fairAbove M := by unfold M_fairAbove sM_choice; rfl
theorem d_fairBelow_choice (M : ModT) (v : Int32) : M_fairBelow (sM_choice M v) = M_fairBelow M := by unfold M_fairBelow sM_choice; rfl
theorem d_weight_choice (M : ModT) (v : Int32) : M_weight (sM_choice M v) = M_weight M := by unfold M_weight sM_choice; rfl
theorem d_least_choice (M : ModT) (v : Int32) : M_least (sM_choice M v) = M_least M := by unfold M_least sM_choice; rfl
theorem Same_choice (M : ModT) (v : Int32) : Same M (sM_choice M v) := ⟨d_cells_choice M v, d_costs_choice M v, d_states_choice M v, d_amounts_choice M v, d_hours_choice M v, d_borders_choice M v, d_apart_choice M v, d_hasGoal_choice M v, d_goalAbove_choice M v, d_goalBelow_choice M v, d_isFair_choice M v, d_fairAbove_choice M v, d_fairBelow_choice M v, d_weight_choice M v, d_least_choice M v⟩
theorem d_draw_choice (M : ModT) (v : Int32) : M_draw (sM_choice M v) = M_draw M := by unfold M_draw sM_choice; rfl
theorem d_hasChoice_choice (M : ModT) (v : Int32) : M_hasChoice (sM_choice M v) = M_hasChoice M := by unfold M_hasChoice sM_choice; rfl
theorem d_choice_choice (M : ModT) (v : Int32) : M_choice (sM_choice M v) = v := by unfold M_choice sM_choice; rfl
theorem d_earlier_choice (M : ModT) (v : Int32) : M_earlier (sM_choice M v) = M_earlier M := by unfold M_earlier sM_choice; rfl
theorem d_cost_choice (M : ModT) (v : Int32) : M_cost (sM_choice M v) = M_cost M := by unfold M_cost sM_choice; rfl
theorem d_hasRun_choice (M : ModT) (v : Int32) : M_hasRun (sM_choice M v) = M_hasRun M := by unfold M_hasRun sM_choice; rfl
theorem d_answer_choice (M : ModT) (v : Int32) : M_answer (sM_choice M v) = M_answer M := by unfold M_answer sM_choice; rfl
theorem d_bound_choice (M : ModT) (v : Int32) : M_bound (sM_choice M v) = M_bound M := by unfold M_bound sM_choice; rfl
theorem d_clashes_choice (M : ModT) (v : Int32) : M_clashes (sM_choice M v) = M_clashes M := by unfold M_clashes sM_choice; rfl
theorem d_tried_choice (M : ModT) (v : Int32) : M_tried (sM_choice M v) = M_tried M := by unfold M_tried sM_choice; rfl
theorem d_triedCost_choice (M : ModT) (v : Int32) : M_triedCost (sM_choice M v) = M_triedCost M := by unfold M_triedCost sM_choice; rfl
theorem d_kept_choice (M : ModT) (v : Int32) : M_kept (sM_choice M v) = M_kept M := by unfold M_kept sM_choice; rfl
theorem d_cells_earlier (M : ModT) (v : Int32) : M_cells (sM_earlier M v) = M_cells M := by unfold M_cells sM_earlier; rfl
theorem d_costs_earlier (M : ModT) (v : Int32) : M_costs (sM_earlier M v) = M_costs M := by unfold M_costs sM_earlier; rfl
theorem d_states_earlier (M : ModT) (v : Int32) : M_states (sM_earlier M v) = M_states M := by unfold M_states sM_earlier; rfl
theorem d_amounts_earlier (M : ModT) (v : Int32) : M_amounts (sM_earlier M v) = M_amounts M := by unfold M_amounts sM_earlier; rfl
theorem d_hours_earlier (M : ModT) (v : Int32) : M_hours (sM_earlier M v) = M_hours M := by unfold M_hours sM_earlier; rfl
theorem d_borders_earlier (M : ModT) (v : Int32) : M_borders (sM_earlier M v) = M_borders M := by unfold M_borders sM_earlier; rfl
theorem d_apart_earlier (M : ModT) (v : Int32) : M_apart (sM_earlier M v) = M_apart M := by unfold M_apart sM_earlier; rfl
theorem d_hasGoal_earlier (M : ModT) (v : Int32) : M_hasGoal (sM_earlier M v) = M_hasGoal M := by unfold M_hasGoal sM_earlier; rfl
theorem d_goalAbove_earlier (M : ModT) (v : Int32) : M_goalAbove (sM_earlier M v) = M_goalAbove M := by unfold M_goalAbove sM_earlier; rfl
theorem d_goalBelow_earlier (M : ModT) (v : Int32) : M_goalBelow (sM_earlier M v) = M_goalBelow M := by unfold M_goalBelow sM_earlier; rfl
theorem d_isFair_earlier (M : ModT) (v : Int32) : M_isFair (sM_earlier M v) = M_isFair M := by unfold M_isFair sM_earlier; rfl
theorem d_fairAbove_earlier (M : ModT) (v : Int32) : M_fairAbove (sM_earlier M v) = M_fairAbove M := by unfold M_fairAbove sM_earlier; rfl
theorem d_fairBelow_earlier (M : ModT) (v : Int32) : M_fairBelow (sM_earlier M v) = M_fairBelow M := by unfold M_fairBelow sM_earlier; rfl
theorem d_weight_earlier (M : ModT) (v : Int32) : M_weight (sM_earlier M v) = M_weight M := by unfold M_weight sM_earlier; rfl
theorem d_least_earlier (M : ModT) (v : Int32) : M_least (sM_earlier M v) = M_least M := by unfold M_least sM_earlier; rfl
theorem Same_earlier (M : ModT) (v : Int32) : Same M (sM_earlier M v) := ⟨d_cells_earlier M v, d_costs_earlier M v, d_states_earlier M v, d_amounts_earlier M v, d_hours_earlier M v, d_borders_earlier M v, d_apart_earlier M v, d_hasGoal_earlier M v, d_goalAbove_earlier M v, d_goalBelow_earlier M v, d_isFair_earlier M v, d_fairAbove_earlier M v, d_fairBelow_earlier M v, d_weight_earlier M v, d_least_earlier M v⟩
theorem d_draw_earlier (M : ModT) (v : Int32) : M_draw (sM_earlier M v) = M_draw M := by unfold M_draw sM_earlier; rfl
theorem d_hasChoice_earlier (M : ModT) (v : Int32) : M_hasChoice (sM_earlier M v) = M_hasChoice M := by unfold M_hasChoice sM_earlier; rfl
theorem d_choice_earlier (M : ModT) (v : Int32) : M_choice (sM_earlier M v) = M_choice M := by unfold M_choice sM_earlier; rfl
theorem d_earlier_earlier (M : ModT) (v : Int32) : M_earlier (sM_earlier M v) = v := by unfold M_earlier sM_earlier; rfl
theorem d_cost_earlier (M : ModT) (v : Int32) : M_cost (sM_earlier M v) = M_cost M := by unfold M_cost sM_earlier; rfl
theorem d_hasRun_earlier (M : ModT) (v : Int32) : M_hasRun (sM_earlier M v) = M_hasRun M := by unfold M_hasRun sM_earlier; rfl
theorem d_answer_earlier (M : ModT) (v : Int32) : M_answer (sM_earlier M v) = M_answer M := by unfold M_answer sM_earlier; rfl
theorem d_bound_earlier (M : ModT) (v : Int32) : M_bound (sM_earlier M v) = M_bound M := by unfold M_bound sM_earlier; rfl
theorem d_clashes_earlier (M : ModT) (v : Int32) : M_clashes (sM_earlier M v) = M_clashes M := by unfold M_clashes sM_earlier; rfl
theorem d_tried_earlier (M : ModT) (v : Int32) : M_tried (sM_earlier M v) = M_tried M := by unfold M_tried sM_earlier; rfl
theorem d_triedCost_earlier (M : ModT) (v : Int32) : M_triedCost (sM_earlier M v) = M_triedCost M := by unfold M_triedCost sM_earlier; rfl
theorem d_kept_earlier (M : ModT) (v : Int32) : M_kept (sM_earlier M v) = M_kept M := by unfold M_kept sM_earlier; rfl
theorem d_cells_cost (M : ModT) (v : Int64) : M_cells (sM_cost M v) = M_cells M := by unfold M_cells sM_cost; rfl
theorem d_costs_cost (M : ModT) (v : Int64) : M_costs (sM_cost M v) = M_costs M := by unfold M_costs sM_cost; rfl
theorem d_states_cost (M : ModT) (v : Int64) : M_states (sM_cost M v) = M_states M := by unfold M_states sM_cost; rfl
theorem d_amounts_cost (M : ModT) (v : Int64) : M_amounts (sM_cost M v) = M_amounts M := by unfold M_amounts sM_cost; rfl
theorem d_hours_cost (M : ModT) (v : Int64) : M_hours (sM_cost M v) = M_hours M := by unfold M_hours sM_cost; rfl
theorem d_borders_cost (M : ModT) (v : Int64) : M_borders (sM_cost M v) = M_borders M := by unfold M_borders sM_cost; rfl
theorem d_apart_cost (M : ModT) (v : Int64) : M_apart (sM_cost M v) = M_apart M := by unfold M_apart sM_cost; rfl
theorem d_hasGoal_cost (M : ModT) (v : Int64) : M_hasGoal (sM_cost M v) = M_hasGoal M := by unfold M_hasGoal sM_cost; rfl
theorem d_goalAbove_cost (M : ModT) (v : Int64) : M_goalAbove (sM_cost M v) = M_goalAbove M := by unfold M_goalAbove sM_cost; rfl
theorem d_goalBelow_cost (M : ModT) (v : Int64) : M_goalBelow (sM_cost M v) = M_goalBelow M := by unfold M_goalBelow sM_cost; rfl
theorem d_isFair_cost (M : ModT) (v : Int64) : M_isFair (sM_cost M v) = M_isFair M := by unfold M_isFair sM_cost; rfl
theorem d_fairAbove_cost (M : ModT) (v : Int64) : M_fairAbove (sM_cost M v) = M_fairAbove M := by unfold M_fairAbove sM_cost; rfl
theorem d_fairBelow_cost (M : ModT) (v : Int64) : M_fairBelow (sM_cost M v) = M_fairBelow M := by unfold M_fairBelow sM_cost; rfl
theorem d_weight_cost (M : ModT) (v : Int64) : M_weight (sM_cost M v) = M_weight M := by unfold M_weight sM_cost; rfl
theorem d_least_cost (M : ModT) (v : Int64) : M_least (sM_cost M v) = M_least M := by unfold M_least sM_cost; rfl
theorem Same_cost (M : ModT) (v : Int64) : Same M (sM_cost M v) := ⟨d_cells_cost M v, d_costs_cost M v, d_states_cost M v, d_amounts_cost M v, d_hours_cost M v, d_borders_cost M v, d_apart_cost M v, d_hasGoal_cost M v, d_goalAbove_cost M v, d_goalBelow_cost M v, d_isFair_cost M v, d_fairAbove_cost M v, d_fairBelow_cost M v, d_weight_cost M v, d_least_cost M v⟩
theorem d_draw_cost (M : ModT) (v : Int64) : M_draw (sM_cost M v) = M_draw M := by unfold M_draw sM_cost; rfl
theorem d_hasChoice_cost (M : ModT) (v : Int64) : M_hasChoice (sM_cost M v) = M_hasChoice M := by unfold M_hasChoice sM_cost; rfl
theorem d_choice_cost (M : ModT) (v : Int64) : M_choice (sM_cost M v) = M_choice M := by unfold M_choice sM_cost; rfl
theorem d_earlier_cost (M : ModT) (v : Int64) : M_earlier (sM_cost M v) = M_earlier M := by unfold M_earlier sM_cost; rfl
theorem d_cost_cost (M : ModT) (v : Int64) : M_cost (sM_cost M v) = v := by unfold M_cost sM_cost; rfl
theorem d_hasRun_cost (M : ModT) (v : Int64) : M_hasRun (sM_cost M v) = M_hasRun M := by unfold M_hasRun sM_cost; rfl
theorem d_answer_cost (M : ModT) (v : Int64) : M_answer (sM_cost M v) = M_answer M := by unfold M_answer sM_cost; rfl
theorem d_bound_cost (M : ModT) (v : Int64) : M_bound (sM_cost M v) = M_bound M := by unfold M_bound sM_cost; rfl
theorem d_clashes_cost (M : ModT) (v : Int64) : M_clashes (sM_cost M v) = M_clashes M := by unfold M_clashes sM_cost; rfl
theorem d_tried_cost (M : ModT) (v : Int64) : M_tried (sM_cost M v) = M_tried M := by unfold M_tried sM_cost; rfl
theorem d_triedCost_cost (M : ModT) (v : Int64) : M_triedCost (sM_cost M v) = M_triedCost M := by unfold M_triedCost sM_cost; rfl
theorem d_kept_cost (M : ModT) (v : Int64) : M_kept (sM_cost M v) = M_kept M := by unfold M_kept sM_cost; rfl
theorem d_cells_hasRun (M : ModT) (v : Int32) : M_cells (sM_hasRun M v) = M_cells M := by unfold M_cells sM_hasRun; rfl
theorem d_costs_hasRun (M : ModT) (v : Int32) : M_costs (sM_hasRun M v) = M_costs M := by unfold M_costs sM_hasRun; rfl
theorem d_states_hasRun (M : ModT) (v : Int32) : M_states (sM_hasRun M v) = M_states M := by unfold M_states sM_hasRun; rfl
theorem d_amounts_hasRun (M : ModT) (v : Int32) : M_amounts (sM_hasRun M v) = M_amounts M := by unfold M_amounts sM_hasRun; rfl
theorem d_hours_hasRun (M : ModT) (v : Int32) : M_hours (sM_hasRun M v) = M_hours M := by unfold M_hours sM_hasRun; rfl
theorem d_borders_hasRun (M : ModT) (v : Int32) : M_borders (sM_hasRun M v) = M_borders M := by unfold M_borders sM_hasRun; rfl
theorem d_apart_hasRun (M : ModT) (v : Int32) : M_apart (sM_hasRun M v) = M_apart M := by unfold M_apart sM_hasRun; rfl
theorem d_hasGoal_hasRun (M : ModT) (v : Int32) : M_hasGoal (sM_hasRun M v) = M_hasGoal M := by unfold M_hasGoal sM_hasRun; rfl
theorem d_goalAbove_hasRun (M : ModT) (v : Int32) : M_goalAbove (sM_hasRun M v) = M_goalAbove M := by unfold M_goalAbove sM_hasRun; rfl
theorem d_goalBelow_hasRun (M : ModT) (v : Int32) : M_goalBelow (sM_hasRun M v) = M_goalBelow M := by unfold M_goalBelow sM_hasRun; rfl
theorem d_isFair_hasRun (M : ModT) (v : Int32) : M_isFair (sM_hasRun M v) = M_isFair M := by unfold M_isFair sM_hasRun; rfl
theorem d_fairAbove_hasRun (M : ModT) (v : Int32) : M_fairAbove (sM_hasRun M v) = M_fairAbove M := by unfold M_fairAbove sM_hasRun; rfl
theorem d_fairBelow_hasRun (M : ModT) (v : Int32) : M_fairBelow (sM_hasRun M v) = M_fairBelow M := by unfold M_fairBelow sM_hasRun; rfl
theorem d_weight_hasRun (M : ModT) (v : Int32) : M_weight (sM_hasRun M v) = M_weight M := by unfold M_weight sM_hasRun; rfl
theorem d_least_hasRun (M : ModT) (v : Int32) : M_least (sM_hasRun M v) = M_least M := by unfold M_least sM_hasRun; rfl
theorem Same_hasRun (M : ModT) (v : Int32) : Same M (sM_hasRun M v) := ⟨d_cells_hasRun M v, d_costs_hasRun M v, d_states_hasRun M v, d_amounts_hasRun M v, d_hours_hasRun M v, d_borders_hasRun M v, d_apart_hasRun M v, d_hasGoal_hasRun M v, d_goalAbove_hasRun M v, d_goalBelow_hasRun M v, d_isFair_hasRun M v, d_fairAbove_hasRun M v, d_fairBelow_hasRun M v, d_weight_hasRun M v, d_least_hasRun M v⟩
theorem d_draw_hasRun (M : ModT) (v : Int32) : M_draw (sM_hasRun M v) = M_draw M := by unfold M_draw sM_hasRun; rfl
theorem d_hasChoice_hasRun (M : ModT) (v : Int32) : M_hasChoice (sM_hasRun M v) = M_hasChoice M := by unfold M_hasChoice sM_hasRun; rfl
theorem d_choice_hasRun (M : ModT) (v : Int32) : M_choice (sM_hasRun M v) = M_choice M := by unfold M_choice sM_hasRun; rfl
theorem d_earlier_hasRun (M : ModT) (v : Int32) : M_earlier (sM_hasRun M v) = M_earlier M := by unfold M_earlier sM_hasRun; rfl
theorem d_cost_hasRun (M : ModT) (v : Int32) : M_cost (sM_hasRun M v) = M_cost M := by unfold M_cost sM_hasRun; rfl
theorem d_hasRun_hasRun (M : ModT) (v : Int32) : M_hasRun (sM_hasRun M v) = v := by unfold M_hasRun sM_hasRun; rfl
theorem d_answer_hasRun (M : ModT) (v : Int32) : M_answer (sM_hasRun M v) = M_answer M := by unfold M_answer sM_hasRun; rfl
theorem d_bound_hasRun (M : ModT) (v : Int32) : M_bound (sM_hasRun M v) = M_bound M := by unfold M_bound sM_hasRun; rfl
theorem d_clashes_hasRun (M : ModT) (v : Int32) : M_clashes (sM_hasRun M v) = M_clashes M := by unfold M_clashes sM_hasRun; rfl
theorem d_tried_hasRun (M : ModT) (v : Int32) : M_tried (sM_hasRun M v) = M_tried M := by unfold M_tried sM_hasRun; rfl
theorem d_triedCost_hasRun (M : ModT) (v : Int32) : M_triedCost (sM_hasRun M v) = M_triedCost M := by unfold M_triedCost sM_hasRun; rfl
theorem d_kept_hasRun (M : ModT) (v : Int32) : M_kept (sM_hasRun M v) = M_kept M := by unfold M_kept sM_hasRun; rfl
theorem d_cells_answer (M : ModT) (v : Int32) : M_cells (sM_answer M v) = M_cells M := by unfold M_cells sM_answer; rfl
theorem d_costs_answer (M : ModT) (v : Int32) : M_costs (sM_answer M v) = M_costs M := by unfold M_costs sM_answer; rfl
theorem d_states_answer (M : ModT) (v : Int32) : M_states (sM_answer M v) = M_states M := by unfold M_states sM_answer; rfl
theorem d_amounts_answer (M : ModT) (v : Int32) : M_amounts (sM_answer M v) = M_amounts M := by unfold M_amounts sM_answer; rfl
theorem d_hours_answer (M : ModT) (v : Int32) : M_hours (sM_answer M v) = M_hours M := by unfold M_hours sM_answer; rfl
theorem d_borders_answer (M : ModT) (v : Int32) : M_borders (sM_answer M v) = M_borders M := by unfold M_borders sM_answer; rfl
theorem d_apart_answer (M : ModT) (v : Int32) : M_apart (sM_answer M v) = M_apart M := by unfold M_apart sM_answer; rfl
theorem d_hasGoal_answer (M : ModT) (v : Int32) : M_hasGoal (sM_answer M v) = M_hasGoal M := by unfold M_hasGoal sM_answer; rfl
theorem d_goalAbove_answer (M : ModT) (v : Int32) : M_goalAbove (sM_answer M v) = M_goalAbove M := by unfold M_goalAbove sM_answer; rfl
theorem d_goalBelow_answer (M : ModT) (v : Int32) : M_goalBelow (sM_answer M v) = M_goalBelow M := by unfold M_goalBelow sM_answer; rfl
theorem d_isFair_answer (M : ModT) (v : Int32) : M_isFair (sM_answer M v) = M_isFair M := by unfold M_isFair sM_answer; rfl
theorem d_fairAbove_answer (M : ModT) (v : Int32) : M_fairAbove (sM_answer M v) = M_fairAbove M := by unfold M_fairAbove sM_answer; rfl
theorem d_fairBelow_answer (M : ModT) (v : Int32) : M_fairBelow (sM_answer M v) = M_fairBelow M := by unfold M_fairBelow sM_answer; rfl
theorem d_weight_answer (M : ModT) (v : Int32) : M_weight (sM_answer M v) = M_weight M := by unfold M_weight sM_answer; rfl
theorem d_least_answer (M : ModT) (v : Int32) : M_least (sM_answer M v) = M_least M := by unfold M_least sM_answer; rfl
theorem Same_answer (M : ModT) (v : Int32) : Same M (sM_answer M v) := ⟨d_cells_answer M v, d_costs_answer M v, d_states_answer M v, d_amounts_answer M v, d_hours_answer M v, d_borders_answer M v, d_apart_answer M v, d_hasGoal_answer M v, d_goalAbove_answer M v, d_goalBelow_answer M v, d_isFair_answer M v, d_fairAbove_answer M v, d_fairBelow_answer M v, d_weight_answer M v, d_least_answer M v⟩
theorem d_draw_answer (M : ModT) (v : Int32) : M_draw (sM_answer M v) = M_draw M := by unfold M_draw sM_answer; rfl
theorem d_hasChoice_answer (M : ModT) (v : Int32) : M_hasChoice (sM_answer M v) = M_hasChoice M := by unfold M_hasChoice sM_answer; rfl
theorem d_choice_answer (M : ModT) (v : Int32) : M_choice (sM_answer M v) = M_choice M := by unfold M_choice sM_answer; rfl
theorem d_earlier_answer (M : ModT) (v : Int32) : M_earlier (sM_answer M v) = M_earlier M := by unfold M_earlier sM_answer; rfl
theorem d_cost_answer (M : ModT) (v : Int32) : M_cost (sM_answer M v) = M_cost M := by unfold M_cost sM_answer; rfl
theorem d_hasRun_answer (M : ModT) (v : Int32) : M_hasRun (sM_answer M v) = M_hasRun M := by unfold M_hasRun sM_answer; rfl
theorem d_answer_answer (M : ModT) (v : Int32) : M_answer (sM_answer M v) = v := by unfold M_answer sM_answer; rfl
theorem d_bound_answer (M : ModT) (v : Int32) : M_bound (sM_answer M v) = M_bound M := by unfold M_bound sM_answer; rfl
theorem d_clashes_answer (M : ModT) (v : Int32) : M_clashes (sM_answer M v) = M_clashes M := by unfold M_clashes sM_answer; rfl
theorem d_tried_answer (M : ModT) (v : Int32) : M_tried (sM_answer M v) = M_tried M := by unfold M_tried sM_answer; rfl
theorem d_triedCost_answer (M : ModT) (v : Int32) : M_triedCost (sM_answer M v) = M_triedCost M := by unfold M_triedCost sM_answer; rfl
theorem d_kept_answer (M : ModT) (v : Int32) : M_kept (sM_answer M v) = M_kept M := by unfold M_kept sM_answer; rfl
theorem d_cells_bound (M : ModT) (v : Int64) : M_cells (sM_bound M v) = M_cells M := by unfold M_cells sM_bound; rfl
theorem d_costs_bound (M : ModT) (v : Int64) : M_costs (sM_bound M v) = M_costs M := by unfold M_costs sM_bound; rfl
theorem d_states_bound (M : ModT) (v : Int64) : M_states (sM_bound M v) = M_states M := by unfold M_states sM_bound; rfl
theorem d_amounts_bound (M : ModT) (v : Int64) : M_amounts (sM_bound M v) = M_amounts M := by unfold M_amounts sM_bound; rfl
theorem d_hours_bound (M : ModT) (v : Int64) : M_hours (sM_bound M v) = M_hours M := by unfold M_hours sM_bound; rfl
theorem d_borders_bound (M : ModT) (v : Int64) : M_borders (sM_bound M v) = M_borders M := by unfold M_borders sM_bound; rfl
theorem d_apart_bound (M : ModT) (v : Int64) : M_apart (sM_bound M v) = M_apart M := by unfold M_apart sM_bound; rfl
theorem d_hasGoal_bound (M : ModT) (v : Int64) : M_hasGoal (sM_bound M v) = M_hasGoal M := by unfold M_hasGoal sM_bound; rfl
theorem d_goalAbove_bound (M : ModT) (v : Int64) : M_goalAbove (sM_bound M v) = M_goalAbove M := by unfold M_goalAbove sM_bound; rfl
theorem d_goalBelow_bound (M : ModT) (v : Int64) : M_goalBelow (sM_bound M v) = M_goalBelow M := by unfold M_goalBelow sM_bound; rfl
theorem d_isFair_bound (M : ModT) (v : Int64) : M_isFair (sM_bound M v) = M_isFair M := by unfold M_isFair sM_bound; rfl
theorem d_fairAbove_bound (M : ModT) (v : Int64) : M_fairAbove (sM_bound M v) = M_fairAbove M := by unfold M_fairAbove sM_bound; rfl
theorem d_fairBelow_bound (M : ModT) (v : Int64) : M_fairBelow (sM_bound M v) = M_fairBelow M := by unfold M_fairBelow sM_bound; rfl
theorem d_weight_bound (M : ModT) (v : Int64) : M_weight (sM_bound M v) = M_weight M := by unfold M_weight sM_bound; rfl
theorem d_least_bound (M : ModT) (v : Int64) : M_least (sM_bound M v) = M_least M := by unfold M_least sM_bound; rfl
theorem Same_bound (M : ModT) (v : Int64) : Same M (sM_bound M v) := ⟨d_cells_bound M v, d_costs_bound M v, d_states_bound M v, d_amounts_bound M v, d_hours_bound M v, d_borders_bound M v, d_apart_bound M v, d_hasGoal_bound M v, d_goalAbove_bound M v, d_goalBelow_bound M v, d_isFair_bound M v, d_fairAbove_bound M v, d_fairBelow_bound M v, d_weight_bound M v, d_least_bound M v⟩
theorem d_draw_bound (M : ModT) (v : Int64) : M_draw (sM_bound M v) = M_draw M := by unfold M_draw sM_bound; rfl
theorem d_hasChoice_bound (M : ModT) (v : Int64) : M_hasChoice (sM_bound M v) = M_hasChoice M := by unfold M_hasChoice sM_bound; rfl
theorem d_choice_bound (M : ModT) (v : Int64) : M_choice (sM_bound M v) = M_choice M := by unfold M_choice sM_bound; rfl
theorem d_earlier_bound (M : ModT) (v : Int64) : M_earlier (sM_bound M v) = M_earlier M := by unfold M_earlier sM_bound; rfl
theorem d_cost_bound (M : ModT) (v : Int64) : M_cost (sM_bound M v) = M_cost M := by unfold M_cost sM_bound; rfl
theorem d_hasRun_bound (M : ModT) (v : Int64) : M_hasRun (sM_bound M v) = M_hasRun M := by unfold M_hasRun sM_bound; rfl
theorem d_answer_bound (M : ModT) (v : Int64) : M_answer (sM_bound M v) = M_answer M := by unfold M_answer sM_bound; rfl
theorem d_bound_bound (M : ModT) (v : Int64) : M_bound (sM_bound M v) = v := by unfold M_bound sM_bound; rfl
theorem d_clashes_bound (M : ModT) (v : Int64) : M_clashes (sM_bound M v) = M_clashes M := by unfold M_clashes sM_bound; rfl
theorem d_tried_bound (M : ModT) (v : Int64) : M_tried (sM_bound M v) = M_tried M := by unfold M_tried sM_bound; rfl
theorem d_triedCost_bound (M : ModT) (v : Int64) : M_triedCost (sM_bound M v) = M_triedCost M := by unfold M_triedCost sM_bound; rfl
theorem d_kept_bound (M : ModT) (v : Int64) : M_kept (sM_bound M v) = M_kept M := by unfold M_kept sM_bound; rfl
theorem d_cells_clashes (M : ModT) (v : Int32) : M_cells (sM_clashes M v) = M_cells M := by unfold M_cells sM_clashes; rfl
theorem d_costs_clashes (M : ModT) (v : Int32) : M_costs (sM_clashes M v) = M_costs M := by unfold M_costs sM_clashes; rfl
theorem d_states_clashes (M : ModT) (v : Int32) : M_states (sM_clashes M v) = M_states M := by unfold M_states sM_clashes; rfl
theorem d_amounts_clashes (M : ModT) (v : Int32) : M_amounts (sM_clashes M v) = M_amounts M := by unfold M_amounts sM_clashes; rfl
theorem d_hours_clashes (M : ModT) (v : Int32) : M_hours (sM_clashes M v) = M_hours M := by unfold M_hours sM_clashes; rfl
theorem d_borders_clashes (M : ModT) (v : Int32) : M_borders (sM_clashes M v) = M_borders M := by unfold M_borders sM_clashes; rfl
theorem d_apart_clashes (M : ModT) (v : Int32) : M_apart (sM_clashes M v) = M_apart M := by unfold M_apart sM_clashes; rfl
theorem d_hasGoal_clashes (M : ModT) (v : Int32) : M_hasGoal (sM_clashes M v) = M_hasGoal M := by unfold M_hasGoal sM_clashes; rfl
theorem d_goalAbove_clashes (M : ModT) (v : Int32) : M_goalAbove (sM_clashes M v) = M_goalAbove M := by unfold M_goalAbove sM_clashes; rfl
theorem d_goalBelow_clashes (M : ModT) (v : Int32) : M_goalBelow (sM_clashes M v) = M_goalBelow M := by unfold M_goalBelow sM_clashes; rfl
theorem d_isFair_clashes (M : ModT) (v : Int32) : M_isFair (sM_clashes M v) = M_isFair M := by unfold M_isFair sM_clashes; rfl
theorem d_fairAbove_clashes (M : ModT) (v : Int32) : M_fairAbove (sM_clashes M v) = M_fairAbove M := by unfold M_fairAbove sM_clashes; rfl
theorem d_fairBelow_clashes (M : ModT) (v : Int32) : M_fairBelow (sM_clashes M v) = M_fairBelow M := by unfold M_fairBelow sM_clashes; rfl
theorem d_weight_clashes (M : ModT) (v : Int32) : M_weight (sM_clashes M v) = M_weight M := by unfold M_weight sM_clashes; rfl
theorem d_least_clashes (M : ModT) (v : Int32) : M_least (sM_clashes M v) = M_least M := by unfold M_least sM_clashes; rfl
theorem Same_clashes (M : ModT) (v : Int32) : Same M (sM_clashes M v) := ⟨d_cells_clashes M v, d_costs_clashes M v, d_states_clashes M v, d_amounts_clashes M v, d_hours_clashes M v, d_borders_clashes M v, d_apart_clashes M v, d_hasGoal_clashes M v, d_goalAbove_clashes M v, d_goalBelow_clashes M v, d_isFair_clashes M v, d_fairAbove_clashes M v, d_fairBelow_clashes M v, d_weight_clashes M v, d_least_clashes M v⟩
theorem d_draw_clashes (M : ModT) (v : Int32) : M_draw (sM_clashes M v) = M_draw M := by unfold M_draw sM_clashes; rfl
theorem d_hasChoice_clashes (M : ModT) (v : Int32) : M_hasChoice (sM_clashes M v) = M_hasChoice M := by unfold M_hasChoice sM_clashes; rfl
theorem d_choice_clashes (M : ModT) (v : Int32) : M_choice (sM_clashes M v) = M_choice M := by unfold M_choice sM_clashes; rfl
theorem d_earlier_clashes (M : ModT) (v : Int32) : M_earlier (sM_clashes M v) = M_earlier M := by unfold M_earlier sM_clashes; rfl
theorem d_cost_clashes (M : ModT) (v : Int32) : M_cost (sM_clashes M v) = M_cost M := by unfold M_cost sM_clashes; rfl
theorem d_hasRun_clashes (M : ModT) (v : Int32) : M_hasRun (sM_clashes M v) = M_hasRun M := by unfold M_hasRun sM_clashes; rfl
theorem d_answer_clashes (M : ModT) (v : Int32) : M_answer (sM_clashes M v) = M_answer M := by unfold M_answer sM_clashes; rfl
theorem d_bound_clashes (M : ModT) (v : Int32) : M_bound (sM_clashes M v) = M_bound M := by unfold M_bound sM_clashes; rfl
theorem d_clashes_clashes (M : ModT) (v : Int32) : M_clashes (sM_clashes M v) = v := by unfold M_clashes sM_clashes; rfl
theorem d_tried_clashes (M : ModT) (v : Int32) : M_tried (sM_clashes M v) = M_tried M := by unfold M_tried sM_clashes; rfl
theorem d_triedCost_clashes (M : ModT) (v : Int32) : M_triedCost (sM_clashes M v) = M_triedCost M := by unfold M_triedCost sM_clashes; rfl
theorem d_kept_clashes (M : ModT) (v : Int32) : M_kept (sM_clashes M v) = M_kept M := by unfold M_kept sM_clashes; rfl
theorem d_cells_tried (M : ModT) (v : Int32) : M_cells (sM_tried M v) = M_cells M := by unfold M_cells sM_tried; rfl
theorem d_costs_tried (M : ModT) (v : Int32) : M_costs (sM_tried M v) = M_costs M := by unfold M_costs sM_tried; rfl
theorem d_states_tried (M : ModT) (v : Int32) : M_states (sM_tried M v) = M_states M := by unfold M_states sM_tried; rfl
theorem d_amounts_tried (M : ModT) (v : Int32) : M_amounts (sM_tried M v) = M_amounts M := by unfold M_amounts sM_tried; rfl
theorem d_hours_tried (M : ModT) (v : Int32) : M_hours (sM_tried M v) = M_hours M := by unfold M_hours sM_tried; rfl
theorem d_borders_tried (M : ModT) (v : Int32) : M_borders (sM_tried M v) = M_borders M := by unfold M_borders sM_tried; rfl
theorem d_apart_tried (M : ModT) (v : Int32) : M_apart (sM_tried M v) = M_apart M := by unfold M_apart sM_tried; rfl
theorem d_hasGoal_tried (M : ModT) (v : Int32) : M_hasGoal (sM_tried M v) = M_hasGoal M := by unfold M_hasGoal sM_tried; rfl
theorem d_goalAbove_tried (M : ModT) (v : Int32) : M_goalAbove (sM_tried M v) = M_goalAbove M := by unfold M_goalAbove sM_tried; rfl
theorem d_goalBelow_tried (M : ModT) (v : Int32) : M_goalBelow (sM_tried M v) = M_goalBelow M := by unfold M_goalBelow sM_tried; rfl
theorem d_isFair_tried (M : ModT) (v : Int32) : M_isFair (sM_tried M v) = M_isFair M := by unfold M_isFair sM_tried; rfl
theorem d_fairAbove_tried (M : ModT) (v : Int32) : M_fairAbove (sM_tried M v) = M_fairAbove M := by unfold M_fairAbove sM_tried; rfl
theorem d_fairBelow_tried (M : ModT) (v : Int32) : M_fairBelow (sM_tried M v) = M_fairBelow M := by unfold M_fairBelow sM_tried; rfl
theorem d_weight_tried (M : ModT) (v : Int32) : M_weight (sM_tried M v) = M_weight M := by unfold M_weight sM_tried; rfl
theorem d_least_tried (M : ModT) (v : Int32) : M_least (sM_tried M v) = M_least M := by unfold M_least sM_tried; rfl
theorem Same_tried (M : ModT) (v : Int32) : Same M (sM_tried M v) := ⟨d_cells_tried M v, d_costs_tried M v, d_states_tried M v, d_amounts_tried M v, d_hours_tried M v, d_borders_tried M v, d_apart_tried M v, d_hasGoal_tried M v, d_goalAbove_tried M v, d_goalBelow_tried M v, d_isFair_tried M v, d_fairAbove_tried M v, d_fairBelow_tried M v, d_weight_tried M v, d_least_tried M v⟩
theorem d_draw_tried (M : ModT) (v : Int32) : M_draw (sM_tried M v) = M_draw M := by unfold M_draw sM_tried; rfl
theorem d_hasChoice_tried (M : ModT) (v : Int32) : M_hasChoice (sM_tried M v) = M_hasChoice M := by unfold M_hasChoice sM_tried; rfl
theorem d_choice_tried (M : ModT) (v : Int32) : M_choice (sM_tried M v) = M_choice M := by unfold M_choice sM_tried; rfl
theorem d_earlier_tried (M : ModT) (v : Int32) : M_earlier (sM_tried M v) = M_earlier M := by unfold M_earlier sM_tried; rfl
theorem d_cost_tried (M : ModT) (v : Int32) : M_cost (sM_tried M v) = M_cost M := by unfold M_cost sM_tried; rfl
theorem d_hasRun_tried (M : ModT) (v : Int32) : M_hasRun (sM_tried M v) = M_hasRun M := by unfold M_hasRun sM_tried; rfl
theorem d_answer_tried (M : ModT) (v : Int32) : M_answer (sM_tried M v) = M_answer M := by unfold M_answer sM_tried; rfl
theorem d_bound_tried (M : ModT) (v : Int32) : M_bound (sM_tried M v) = M_bound M := by unfold M_bound sM_tried; rfl
theorem d_clashes_tried (M : ModT) (v : Int32) : M_clashes (sM_tried M v) = M_clashes M := by unfold M_clashes sM_tried; rfl
theorem d_tried_tried (M : ModT) (v : Int32) : M_tried (sM_tried M v) = v := by unfold M_tried sM_tried; rfl
theorem d_triedCost_tried (M : ModT) (v : Int32) : M_triedCost (sM_tried M v) = M_triedCost M := by unfold M_triedCost sM_tried; rfl
theorem d_kept_tried (M : ModT) (v : Int32) : M_kept (sM_tried M v) = M_kept M := by unfold M_kept sM_tried; rfl
theorem d_cells_triedCost (M : ModT) (v : Int64) : M_cells (sM_triedCost M v) = M_cells M := by unfold M_cells sM_triedCost; rfl
theorem d_costs_triedCost (M : ModT) (v : Int64) : M_costs (sM_triedCost M v) = M_costs M := by unfold M_costs sM_triedCost; rfl
theorem d_states_triedCost (M : ModT) (v : Int64) : M_states (sM_triedCost M v) = M_states M := by unfold M_states sM_triedCost; rfl
theorem d_amounts_triedCost (M : ModT) (v : Int64) : M_amounts (sM_triedCost M v) = M_amounts M := by unfold M_amounts sM_triedCost; rfl
theorem d_hours_triedCost (M : ModT) (v : Int64) : M_hours (sM_triedCost M v) = M_hours M := by unfold M_hours sM_triedCost; rfl
theorem d_borders_triedCost (M : ModT) (v : Int64) : M_borders (sM_triedCost M v) = M_borders M := by unfold M_borders sM_triedCost; rfl
theorem d_apart_triedCost (M : ModT) (v : Int64) : M_apart (sM_triedCost M v) = M_apart M := by unfold M_apart sM_triedCost; rfl
theorem d_hasGoal_triedCost (M : ModT) (v : Int64) : M_hasGoal (sM_triedCost M v) = M_hasGoal M := by unfold M_hasGoal sM_triedCost; rfl
theorem d_goalAbove_triedCost (M : ModT) (v : Int64) : M_goalAbove (sM_triedCost M v) = M_goalAbove M := by unfold M_goalAbove sM_triedCost; rfl
theorem d_goalBelow_triedCost (M : ModT) (v : Int64) : M_goalBelow (sM_triedCost M v) = M_goalBelow M := by unfold M_goalBelow sM_triedCost; rfl
theorem d_isFair_triedCost (M : ModT) (v : Int64) : M_isFair (sM_triedCost M v) = M_isFair M := by unfold M_isFair sM_triedCost; rfl
theorem d_fairAbove_triedCost (M : ModT) (v : Int64) : M_fairAbove (sM_triedCost M v) = M_fairAbove M := by unfold M_fairAbove sM_triedCost; rfl
theorem d_fairBelow_triedCost (M : ModT) (v : Int64) : M_fairBelow (sM_triedCost M v) = M_fairBelow M := by unfold M_fairBelow sM_triedCost; rfl
theorem d_weight_triedCost (M : ModT) (v : Int64) : M_weight (sM_triedCost M v) = M_weight M := by unfold M_weight sM_triedCost; rfl
theorem d_least_triedCost (M : ModT) (v : Int64) : M_least (sM_triedCost M v) = M_least M := by unfold M_least sM_triedCost; rfl
theorem Same_triedCost (M : ModT) (v : Int64) : Same M (sM_triedCost M v) := ⟨d_cells_triedCost M v, d_costs_triedCost M v, d_states_triedCost M v, d_amounts_triedCost M v, d_hours_triedCost M v, d_borders_triedCost M v, d_apart_triedCost M v, d_hasGoal_triedCost M v, d_goalAbove_triedCost M v, d_goalBelow_triedCost M v, d_isFair_triedCost M v, d_fairAbove_triedCost M v, d_fairBelow_triedCost M v, d_weight_triedCost M v, d_least_triedCost M v⟩
theorem d_draw_triedCost (M : ModT) (v : Int64) : M_draw (sM_triedCost M v) = M_draw M := by unfold M_draw sM_triedCost; rfl
theorem d_hasChoice_triedCost (M : ModT) (v : Int64) : M_hasChoice (sM_triedCost M v) = M_hasChoice M := by unfold M_hasChoice sM_triedCost; rfl
theorem d_choice_triedCost (M : ModT) (v : Int64) : M_choice (sM_triedCost M v) = M_choice M := by unfold M_choice sM_triedCost; rfl
theorem d_earlier_triedCost (M : ModT) (v : Int64) : M_earlier (sM_triedCost M v) = M_earlier M := by unfold M_earlier sM_triedCost; rfl
theorem d_cost_triedCost (M : ModT) (v : Int64) : M_cost (sM_triedCost M v) = M_cost M := by unfold M_cost sM_triedCost; rfl
theorem d_hasRun_triedCost (M : ModT) (v : Int64) : M_hasRun (sM_triedCost M v) = M_hasRun M := by unfold M_hasRun sM_triedCost; rfl
theorem d_answer_triedCost (M : ModT) (v : Int64) : M_answer (sM_triedCost M v) = M_answer M := by unfold M_answer sM_triedCost; rfl
theorem d_bound_triedCost (M : ModT) (v : Int64) : M_bound (sM_triedCost M v) = M_bound M := by unfold M_bound sM_triedCost; rfl
theorem d_clashes_triedCost (M : ModT) (v : Int64) : M_clashes (sM_triedCost M v) = M_clashes M := by unfold M_clashes sM_triedCost; rfl
theorem d_tried_triedCost (M : ModT) (v : Int64) : M_tried (sM_triedCost M v) = M_tried M := by unfold M_tried sM_triedCost; rfl
theorem d_triedCost_triedCost (M : ModT) (v : Int64) : M_triedCost (sM_triedCost M v) = v := by unfold M_triedCost sM_triedCost; rfl
theorem d_kept_triedCost (M : ModT) (v : Int64) : M_kept (sM_triedCost M v) = M_kept M := by unfold M_kept sM_triedCost; rfl
theorem d_cells_kept (M : ModT) (v : Int32) : M_cells (sM_kept M v) = M_cells M := by unfold M_cells sM_kept; rfl
theorem d_costs_kept (M : ModT) (v : Int32) : M_costs (sM_kept M v) = M_costs M := by unfold M_costs sM_kept; rfl
theorem d_states_kept (M : ModT) (v : Int32) : M_states (sM_kept M v) = M_states M := by unfold M_states sM_kept; rfl
theorem d_amounts_kept (M : ModT) (v : Int32) : M_amounts (sM_kept M v) = M_amounts M := by unfold M_amounts sM_kept; rfl
theorem d_hours_kept (M : ModT) (v : Int32) : M_hours (sM_kept M v) = M_hours M := by unfold M_hours sM_kept; rfl
theorem d_borders_kept (M : ModT) (v : Int32) : M_borders (sM_kept M v) = M_borders M := by unfold M_borders sM_kept; rfl
theorem d_apart_kept (M : ModT) (v : Int32) : M_apart (sM_kept M v) = M_apart M := by unfold M_apart sM_kept; rfl
theorem d_hasGoal_kept (M : ModT) (v : Int32) : M_hasGoal (sM_kept M v) = M_hasGoal M := by unfold M_hasGoal sM_kept; rfl
theorem d_goalAbove_kept (M : ModT) (v : Int32) : M_goalAbove (sM_kept M v) = M_goalAbove M := by unfold M_goalAbove sM_kept; rfl
theorem d_goalBelow_kept (M : ModT) (v : Int32) : M_goalBelow (sM_kept M v) = M_goalBelow M := by unfold M_goalBelow sM_kept; rfl
theorem d_isFair_kept (M : ModT) (v : Int32) : M_isFair (sM_kept M v) = M_isFair M := by unfold M_isFair sM_kept; rfl
theorem d_fairAbove_kept (M : ModT) (v : Int32) : M_fairAbove (sM_kept M v) = M_fairAbove M := by unfold M_fairAbove sM_kept; rfl
theorem d_fairBelow_kept (M : ModT) (v : Int32) : M_fairBelow (sM_kept M v) = M_fairBelow M := by unfold M_fairBelow sM_kept; rfl
theorem d_weight_kept (M : ModT) (v : Int32) : M_weight (sM_kept M v) = M_weight M := by unfold M_weight sM_kept; rfl
theorem d_least_kept (M : ModT) (v : Int32) : M_least (sM_kept M v) = M_least M := by unfold M_least sM_kept; rfl
theorem Same_kept (M : ModT) (v : Int32) : Same M (sM_kept M v) := ⟨d_cells_kept M v, d_costs_kept M v, d_states_kept M v, d_amounts_kept M v, d_hours_kept M v, d_borders_kept M v, d_apart_kept M v, d_hasGoal_kept M v, d_goalAbove_kept M v, d_goalBelow_kept M v, d_isFair_kept M v, d_fairAbove_kept M v, d_fairBelow_kept M v, d_weight_kept M v, d_least_kept M v⟩
theorem d_draw_kept (M : ModT) (v : Int32) : M_draw (sM_kept M v) = M_draw M := by unfold M_draw sM_kept; rfl
theorem d_hasChoice_kept (M : ModT) (v : Int32) : M_hasChoice (sM_kept M v) = M_hasChoice M := by unfold M_hasChoice sM_kept; rfl
theorem d_choice_kept (M : ModT) (v : Int32) : M_choice (sM_kept M v) = M_choice M := by unfold M_choice sM_kept; rfl
theorem d_earlier_kept (M : ModT) (v : Int32) : M_earlier (sM_kept M v) = M_earlier M := by unfold M_earlier sM_kept; rfl
theorem d_cost_kept (M : ModT) (v : Int32) : M_cost (sM_kept M v) = M_cost M := by unfold M_cost sM_kept; rfl
theorem d_hasRun_kept (M : ModT) (v : Int32) : M_hasRun (sM_kept M v) = M_hasRun M := by unfold M_hasRun sM_kept; rfl
theorem d_answer_kept (M : ModT) (v : Int32) : M_answer (sM_kept M v) = M_answer M := by unfold M_answer sM_kept; rfl
theorem d_bound_kept (M : ModT) (v : Int32) : M_bound (sM_kept M v) = M_bound M := by unfold M_bound sM_kept; rfl
theorem d_clashes_kept (M : ModT) (v : Int32) : M_clashes (sM_kept M v) = M_clashes M := by unfold M_clashes sM_kept; rfl
theorem d_tried_kept (M : ModT) (v : Int32) : M_tried (sM_kept M v) = M_tried M := by unfold M_tried sM_kept; rfl
theorem d_triedCost_kept (M : ModT) (v : Int32) : M_triedCost (sM_kept M v) = M_triedCost M := by unfold M_triedCost sM_kept; rfl
theorem d_kept_kept (M : ModT) (v : Int32) : M_kept (sM_kept M v) = v := by unfold M_kept sM_kept; rfl
theorem Rl_of {S : SeaT} {C : ChoT} {G : GoT} {dr : Int64} {M : ModT} {n : Nat} (h : Rl S C G dr M n) {M' : ModT} {C' : ChoT} {G' : GoT} {dr' : Int64} (hs : Same M M')
    (hC : ∀ c, n ≤ c → bt (C_cells C') c = false) (hG : ∀ c, n ≤ c → bt (G_cellsBefore G') c = false) (hdr' : dr' = M_draw M')
    (hch' : (C_there C' = 0 ∧ M_hasChoice M' = 0 ∧ C_cells C' = 0 ∧ C_price C' = -1) ∨ (C_there C' = 1 ∧ M_hasChoice M' = 1 ∧ C_cells C' = M_choice M' ∧ C_price C' = M_cost M'))
    (hea' : G_cellsBefore G' = M_earlier M')
    (hru' : (M_hasRun M' = 0 ∧ G_runAnswer G' = -1 ∧ G_toldBound G' = -1 ∧ G_clashingKinds G' = 0 ∧ M_clashes M' = 0) ∨ (¬ M_hasRun M' = 0 ∧ G_runAnswer G' = M_answer M' ∧ (M_answer M' = 0 ∨ M_answer M' = 1 ∨ M_answer M' = 2) ∧ G_toldBound G' = M_bound M' ∧ G_clashingKinds G' = M_clashes M'))
    (hcl' : ∀ q, 8 ≤ q → bt (M_clashes M') q = false) : Rl S C' G' dr' M' n := by
  obtain ⟨hn, hcx, hcm, hco, ham, hho, hbo, hfa, hkt, hpt, hgo, hfr, hwt, hle, hst, hsz, hbz, hdr, hch, hea, hru, hcl⟩ := h
  obtain ⟨s0, s1, s2, s3, s4, s5, s6, s7, s8, s9, s10, s11, s12, s13, s14⟩ := hs
  unfold Rl
  rw [s0, s1, s2, s3, s4, s5, s6, s7, s8, s9, s10, s11, s12, s13, s14]
  exact ⟨hn, hcx, hcm, hco, ham, hho, hbo, hfa, hkt, hpt, hgo, hfr, hwt, hle, hst, hsz, fun c hc => ⟨(hbz c hc).1, (hbz c hc).2.1, hC c hc, hG c hc⟩, hdr', hch', hea', hru', hcl'⟩
theorem Rl_dy {S : SeaT} {C : ChoT} {G : GoT} {dr : Int64} {M : ModT} {n : Nat} (h : Rl S C G dr M n) : (∀ c, n ≤ c → bt (C_cells C) c = false) ∧ (∀ c, n ≤ c → bt (G_cellsBefore G) c = false) ∧ dr = M_draw M ∧
    ((C_there C = 0 ∧ M_hasChoice M = 0 ∧ C_cells C = 0 ∧ C_price C = -1) ∨ (C_there C = 1 ∧ M_hasChoice M = 1 ∧ C_cells C = M_choice M ∧ C_price C = M_cost M)) ∧
    G_cellsBefore G = M_earlier M ∧
    ((M_hasRun M = 0 ∧ G_runAnswer G = -1 ∧ G_toldBound G = -1 ∧ G_clashingKinds G = 0 ∧ M_clashes M = 0) ∨ (¬ M_hasRun M = 0 ∧ G_runAnswer G = M_answer M ∧ (M_answer M = 0 ∨ M_answer M = 1 ∨ M_answer M = 2) ∧ G_toldBound G = M_bound M ∧ G_clashingKinds G = M_clashes M)) ∧
    (∀ q, 8 ≤ q → bt (M_clashes M) q = false) := by
  obtain ⟨hn, hcx, hcm, hco, ham, hho, hbo, hfa, hkt, hpt, hgo, hfr, hwt, hle, hst, hsz, hbz, hdr, hch, hea, hru, hcl⟩ := h
  exact ⟨fun c hc => (hbz c hc).2.2.1, fun c hc => (hbz c hc).2.2.2, hdr, hch, hea, hru, hcl⟩
/-- the reference's words that only read what no search changes -/
theorem same_all {M M' : ModT} (hs : Same M M') : w_X5_all M' = w_X5_all M := by
  unfold w_X5_all; rw [hs.1]
theorem same_co {M M' : ModT} (hs : Same M M') (X : Int32) (n : Nat) : w_X5_costOf M' X n = w_X5_costOf M X n := by
  obtain ⟨s0, s1, s2, s3, s4, s5, s6, s7, s8, s9, s10, s11, s12, s13, s14⟩ := hs
  unfold w_X5_costOf f_bo g_bo f_co
  rw [s1, s5, s13]
theorem same_me {M M' : ModT} (hs : Same M M') (X : Int32) (n q : Nat) : w_X5_meets M' X n q = w_X5_meets M X n q := by
  have ha := same_all hs
  obtain ⟨s0, s1, s2, s3, s4, s5, s6, s7, s8, s9, s10, s11, s12, s13, s14⟩ := hs
  unfold w_X5_meets f_am
  rw [ha, s3, s7, s8, s9]
theorem same_st {M M' : ModT} (hs : Same M M') (X : Int32) (n : Nat) : w_X5_stands M' X n = w_X5_stands M X n := by
  have ha := same_all hs
  have hm : okg M' X n = okg M X n := by
    funext q; unfold okg; rw [same_me hs]
  obtain ⟨s0, s1, s2, s3, s4, s5, s6, s7, s8, s9, s10, s11, s12, s13, s14⟩ := hs
  have hc : okc M' X = okc M X := by
    funext c; unfold okc okp; rw [s2, s6]
  have hf : okf M' X n = okf M X n := by
    funext q; unfold okf f_ho; rw [ha, s4, s11, s12]
  unfold w_X5_stands
  rw [hm, hc, hf, s10, s14]
theorem same_opn {M M' : ModT} (hs : Same M M') (n : Nat) : opn M' n = opn M n := by
  induction n with
  | zero => rfl
  | succ n ih => rw [opn, opn, ih, hs.2.2.1]
theorem same_isCell {M M' : ModT} (hs : Same M M') (c : Int32) : w_X5_isCell M' c = w_X5_isCell M c := by
  unfold w_X5_isCell; rw [hs.1]
