abbrev SeaT : Type := (Nat → Int64) × (Nat → Int64) × (Nat → Int64) × (Nat → Int64) × (Nat → Int32) × (Nat → Int64) × (Nat → Int64) × (Nat → Int64) × (Nat → Int64) × Int64 × Int64 × Int64 × Int32 × Int32 × Int32 × Int32
def S_costs (z : SeaT) : Nat → Int64 := z.1
def S_amounts (z : SeaT) : Nat → Int64 := z.2.1
def S_hours (z : SeaT) : Nat → Int64 := z.2.2.1
def S_borders (z : SeaT) : Nat → Int64 := z.2.2.2.1
def S_tooFar (z : SeaT) : Nat → Int32 := z.2.2.2.2.1
def S_kindTotals (z : SeaT) : Nat → Int64 := z.2.2.2.2.2.1
def S_portTotals (z : SeaT) : Nat → Int64 := z.2.2.2.2.2.2.1
def S_goalAbove (z : SeaT) : Nat → Int64 := z.2.2.2.2.2.2.2.1
def S_goalBelow (z : SeaT) : Nat → Int64 := z.2.2.2.2.2.2.2.2.1
def S_fairAbove (z : SeaT) : Int64 := z.2.2.2.2.2.2.2.2.2.1
def S_fairBelow (z : SeaT) : Int64 := z.2.2.2.2.2.2.2.2.2.2.1
def S_borderWeight (z : SeaT) : Int64 := z.2.2.2.2.2.2.2.2.2.2.2.1
def S_cells (z : SeaT) : Int32 := z.2.2.2.2.2.2.2.2.2.2.2.2.1
def S_needed (z : SeaT) : Int32 := z.2.2.2.2.2.2.2.2.2.2.2.2.2.1
def S_barred (z : SeaT) : Int32 := z.2.2.2.2.2.2.2.2.2.2.2.2.2.2.1
def S_fewest (z : SeaT) : Int32 := z.2.2.2.2.2.2.2.2.2.2.2.2.2.2.2
def sS_costs (z : SeaT) (v : Nat → Int64) : SeaT := (v, S_amounts z, S_hours z, S_borders z, S_tooFar z, S_kindTotals z, S_portTotals z, S_goalAbove z, S_goalBelow z, S_fairAbove z, S_fairBelow z, S_borderWeight z, S_cells z, S_needed z, S_barred z, S_fewest z)
def sS_amounts (z : SeaT) (v : Nat → Int64) : SeaT := (S_costs z, v, S_hours z, S_borders z, S_tooFar z, S_kindTotals z, S_portTotals z, S_goalAbove z, S_goalBelow z, S_fairAbove z, S_fairBelow z, S_borderWeight z, S_cells z, S_needed z, S_barred z, S_fewest z)
def sS_hours (z : SeaT) (v : Nat → Int64) : SeaT := (S_costs z, S_amounts z, v, S_borders z, S_tooFar z, S_kindTotals z, S_portTotals z, S_goalAbove z, S_goalBelow z, S_fairAbove z, S_fairBelow z, S_borderWeight z, S_cells z, S_needed z, S_barred z, S_fewest z)
def sS_borders (z : SeaT) (v : Nat → Int64) : SeaT := (S_costs z, S_amounts z, S_hours z, v, S_tooFar z, S_kindTotals z, S_portTotals z, S_goalAbove z, S_goalBelow z, S_fairAbove z, S_fairBelow z, S_borderWeight z, S_cells z, S_needed z, S_barred z, S_fewest z)
def sS_tooFar (z : SeaT) (v : Nat → Int32) : SeaT := (S_costs z, S_amounts z, S_hours z, S_borders z, v, S_kindTotals z, S_portTotals z, S_goalAbove z, S_goalBelow z, S_fairAbove z, S_fairBelow z, S_borderWeight z, S_cells z, S_needed z, S_barred z, S_fewest z)
def sS_kindTotals (z : SeaT) (v : Nat → Int64) : SeaT := (S_costs z, S_amounts z, S_hours z, S_borders z, S_tooFar z, v, S_portTotals z, S_goalAbove z, S_goalBelow z, S_fairAbove z, S_fairBelow z, S_borderWeight z, S_cells z, S_needed z, S_barred z, S_fewest z)
def sS_portTotals (z : SeaT) (v : Nat → Int64) : SeaT := (S_costs z, S_amounts z, S_hours z, S_borders z, S_tooFar z, S_kindTotals z, v, S_goalAbove z, S_goalBelow z, S_fairAbove z, S_fairBelow z, S_borderWeight z, S_cells z, S_needed z, S_barred z, S_fewest z)
def sS_goalAbove (z : SeaT) (v : Nat → Int64) : SeaT := (S_costs z, S_amounts z, S_hours z, S_borders z, S_tooFar z, S_kindTotals z, S_portTotals z, v, S_goalBelow z, S_fairAbove z, S_fairBelow z, S_borderWeight z, S_cells z, S_needed z, S_barred z, S_fewest z)
def sS_goalBelow (z : SeaT) (v : Nat → Int64) : SeaT := (S_costs z, S_amounts z, S_hours z, S_borders z, S_tooFar z, S_kindTotals z, S_portTotals z, S_goalAbove z, v, S_fairAbove z, S_fairBelow z, S_borderWeight z, S_cells z, S_needed z, S_barred z, S_fewest z)
def sS_fairAbove (z : SeaT) (v : Int64) : SeaT := (S_costs z, S_amounts z, S_hours z, S_borders z, S_tooFar z, S_kindTotals z, S_portTotals z, S_goalAbove z, S_goalBelow z, v, S_fairBelow z, S_borderWeight z, S_cells z, S_needed z, S_barred z, S_fewest z)
def sS_fairBelow (z : SeaT) (v : Int64) : SeaT := (S_costs z, S_amounts z, S_hours z, S_borders z, S_tooFar z, S_kindTotals z, S_portTotals z, S_goalAbove z, S_goalBelow z, S_fairAbove z, v, S_borderWeight z, S_cells z, S_needed z, S_barred z, S_fewest z)
def sS_borderWeight (z : SeaT) (v : Int64) : SeaT := (S_costs z, S_amounts z, S_hours z, S_borders z, S_tooFar z, S_kindTotals z, S_portTotals z, S_goalAbove z, S_goalBelow z, S_fairAbove z, S_fairBelow z, v, S_cells z, S_needed z, S_barred z, S_fewest z)
def sS_cells (z : SeaT) (v : Int32) : SeaT := (S_costs z, S_amounts z, S_hours z, S_borders z, S_tooFar z, S_kindTotals z, S_portTotals z, S_goalAbove z, S_goalBelow z, S_fairAbove z, S_fairBelow z, S_borderWeight z, v, S_needed z, S_barred z, S_fewest z)
def sS_needed (z : SeaT) (v : Int32) : SeaT := (S_costs z, S_amounts z, S_hours z, S_borders z, S_tooFar z, S_kindTotals z, S_portTotals z, S_goalAbove z, S_goalBelow z, S_fairAbove z, S_fairBelow z, S_borderWeight z, S_cells z, v, S_barred z, S_fewest z)
def sS_barred (z : SeaT) (v : Int32) : SeaT := (S_costs z, S_amounts z, S_hours z, S_borders z, S_tooFar z, S_kindTotals z, S_portTotals z, S_goalAbove z, S_goalBelow z, S_fairAbove z, S_fairBelow z, S_borderWeight z, S_cells z, S_needed z, v, S_fewest z)
def sS_fewest (z : SeaT) (v : Int32) : SeaT := (S_costs z, S_amounts z, S_hours z, S_borders z, S_tooFar z, S_kindTotals z, S_portTotals z, S_goalAbove z, S_goalBelow z, S_fairAbove z, S_fairBelow z, S_borderWeight z, S_cells z, S_needed z, S_barred z, v)
abbrev TalT : Type := (Nat → Int64) × (Nat → Int64) × Int32 × Int32 × Int64 × Int64
def T_amounts (z : TalT) : Nat → Int64 := z.1
def T_hours (z : TalT) : Nat → Int64 := z.2.1
def T_cells (z : TalT) : Int32 := z.2.2.1
def T_farPairs (z : TalT) : Int32 := z.2.2.2.1
def T_cellCosts (z : TalT) : Int64 := z.2.2.2.2.1
def T_borderLength (z : TalT) : Int64 := z.2.2.2.2.2
def sT_amounts (z : TalT) (v : Nat → Int64) : TalT := (v, T_hours z, T_cells z, T_farPairs z, T_cellCosts z, T_borderLength z)
def sT_hours (z : TalT) (v : Nat → Int64) : TalT := (T_amounts z, v, T_cells z, T_farPairs z, T_cellCosts z, T_borderLength z)
def sT_cells (z : TalT) (v : Int32) : TalT := (T_amounts z, T_hours z, v, T_farPairs z, T_cellCosts z, T_borderLength z)
def sT_farPairs (z : TalT) (v : Int32) : TalT := (T_amounts z, T_hours z, T_cells z, v, T_cellCosts z, T_borderLength z)
def sT_cellCosts (z : TalT) (v : Int64) : TalT := (T_amounts z, T_hours z, T_cells z, T_farPairs z, v, T_borderLength z)
def sT_borderLength (z : TalT) (v : Int64) : TalT := (T_amounts z, T_hours z, T_cells z, T_farPairs z, T_cellCosts z, v)
abbrev ChoT : Type := Int32 × Int32 × Int64
def C_there (z : ChoT) : Int32 := z.1
def C_cells (z : ChoT) : Int32 := z.2.1
def C_price (z : ChoT) : Int64 := z.2.2
def sC_there (z : ChoT) (v : Int32) : ChoT := (v, C_cells z, C_price z)
def sC_cells (z : ChoT) (v : Int32) : ChoT := (C_there z, v, C_price z)
def sC_price (z : ChoT) (v : Int64) : ChoT := (C_there z, C_cells z, v)
abbrev GoT : Type := Int32 × Int32 × Int64 × Int32
def G_cellsBefore (z : GoT) : Int32 := z.1
def G_runAnswer (z : GoT) : Int32 := z.2.1
def G_toldBound (z : GoT) : Int64 := z.2.2.1
def G_clashingKinds (z : GoT) : Int32 := z.2.2.2
def sG_cellsBefore (z : GoT) (v : Int32) : GoT := (v, G_runAnswer z, G_toldBound z, G_clashingKinds z)
def sG_runAnswer (z : GoT) (v : Int32) : GoT := (G_cellsBefore z, v, G_toldBound z, G_clashingKinds z)
def sG_toldBound (z : GoT) (v : Int64) : GoT := (G_cellsBefore z, G_runAnswer z, v, G_clashingKinds z)
def sG_clashingKinds (z : GoT) (v : Int32) : GoT := (G_cellsBefore z, G_runAnswer z, G_toldBound z, v)
abbrev ModT : Type := Int32 × (Nat → Int64) × (Nat → Int32) × (Nat → Int64) × (Nat → Int64) × (Nat → Int64) × (Nat → Int32) × (Nat → Int32) × (Nat → Int64) × (Nat → Int64) × Int32 × Int64 × Int64 × Int64 × Int32 × Int64 × Int32 × Int32 × Int32 × Int64 × Int32 × Int32 × Int64 × Int32 × Int32 × Int64 × Int32
def M_cells (z : ModT) : Int32 := z.1
def M_costs (z : ModT) : Nat → Int64 := z.2.1
def M_states (z : ModT) : Nat → Int32 := z.2.2.1
def M_amounts (z : ModT) : Nat → Int64 := z.2.2.2.1
def M_hours (z : ModT) : Nat → Int64 := z.2.2.2.2.1
def M_borders (z : ModT) : Nat → Int64 := z.2.2.2.2.2.1
def M_apart (z : ModT) : Nat → Int32 := z.2.2.2.2.2.2.1
def M_hasGoal (z : ModT) : Nat → Int32 := z.2.2.2.2.2.2.2.1
def M_goalAbove (z : ModT) : Nat → Int64 := z.2.2.2.2.2.2.2.2.1
def M_goalBelow (z : ModT) : Nat → Int64 := z.2.2.2.2.2.2.2.2.2.1
def M_isFair (z : ModT) : Int32 := z.2.2.2.2.2.2.2.2.2.2.1
def M_fairAbove (z : ModT) : Int64 := z.2.2.2.2.2.2.2.2.2.2.2.1
def M_fairBelow (z : ModT) : Int64 := z.2.2.2.2.2.2.2.2.2.2.2.2.1
def M_weight (z : ModT) : Int64 := z.2.2.2.2.2.2.2.2.2.2.2.2.2.1
def M_least (z : ModT) : Int32 := z.2.2.2.2.2.2.2.2.2.2.2.2.2.2.1
def M_draw (z : ModT) : Int64 := z.2.2.2.2.2.2.2.2.2.2.2.2.2.2.2.1
def M_hasChoice (z : ModT) : Int32 := z.2.2.2.2.2.2.2.2.2.2.2.2.2.2.2.2.1
def M_choice (z : ModT) : Int32 := z.2.2.2.2.2.2.2.2.2.2.2.2.2.2.2.2.2.1
def M_earlier (z : ModT) : Int32 := z.2.2.2.2.2.2.2.2.2.2.2.2.2.2.2.2.2.2.1
def M_cost (z : ModT) : Int64 := z.2.2.2.2.2.2.2.2.2.2.2.2.2.2.2.2.2.2.2.1
def M_hasRun (z : ModT) : Int32 := z.2.2.2.2.2.2.2.2.2.2.2.2.2.2.2.2.2.2.2.2.1
def M_answer (z : ModT) : Int32 := z.2.2.2.2.2.2.2.2.2.2.2.2.2.2.2.2.2.2.2.2.2.1
def M_bound (z : ModT) : Int64 := z.2.2.2.2.2.2.2.2.2.2.2.2.2.2.2.2.2.2.2.2.2.2.1
def M_clashes (z : ModT) : Int32 := z.2.2.2.2.2.2.2.2.2.2.2.2.2.2.2.2.2.2.2.2.2.2.2.1
def M_tried (z : ModT) : Int32 := z.2.2.2.2.2.2.2.2.2.2.2.2.2.2.2.2.2.2.2.2.2.2.2.2.1
def M_triedCost (z : ModT) : Int64 := z.2.2.2.2.2.2.2.2.2.2.2.2.2.2.2.2.2.2.2.2.2.2.2.2.2.1
def M_kept (z : ModT) : Int32 := z.2.2.2.2.2.2.2.2.2.2.2.2.2.2.2.2.2.2.2.2.2.2.2.2.2.2
def sM_cells (z : ModT) (v : Int32) : ModT := (v, M_costs z, M_states z, M_amounts z, M_hours z, M_borders z, M_apart z, M_hasGoal z, M_goalAbove z, M_goalBelow z, M_isFair z, M_fairAbove z, M_fairBelow z, M_weight z, M_least z, M_draw z, M_hasChoice z, M_choice z, M_earlier z, M_cost z, M_hasRun z, M_answer z, M_bound z, M_clashes z, M_tried z, M_triedCost z, M_kept z)
def sM_costs (z : ModT) (v : Nat → Int64) : ModT := (M_cells z, v, M_states z, M_amounts z, M_hours z, M_borders z, M_apart z, M_hasGoal z, M_goalAbove z, M_goalBelow z, M_isFair z, M_fairAbove z, M_fairBelow z, M_weight z, M_least z, M_draw z, M_hasChoice z, M_choice z, M_earlier z, M_cost z, M_hasRun z, M_answer z, M_bound z, M_clashes z, M_tried z, M_triedCost z, M_kept z)
def sM_states (z : ModT) (v : Nat → Int32) : ModT := (M_cells z, M_costs z, v, M_amounts z, M_hours z, M_borders z, M_apart z, M_hasGoal z, M_goalAbove z, M_goalBelow z, M_isFair z, M_fairAbove z, M_fairBelow z, M_weight z, M_least z, M_draw z, M_hasChoice z, M_choice z, M_earlier z, M_cost z, M_hasRun z, M_answer z, M_bound z, M_clashes z, M_tried z, M_triedCost z, M_kept z)
def sM_amounts (z : ModT) (v : Nat → Int64) : ModT := (M_cells z, M_costs z, M_states z, v, M_hours z, M_borders z, M_apart z, M_hasGoal z, M_goalAbove z, M_goalBelow z, M_isFair z, M_fairAbove z, M_fairBelow z, M_weight z, M_least z, M_draw z, M_hasChoice z, M_choice z, M_earlier z, M_cost z, M_hasRun z, M_answer z, M_bound z, M_clashes z, M_tried z, M_triedCost z, M_kept z)
def sM_hours (z : ModT) (v : Nat → Int64) : ModT := (M_cells z, M_costs z, M_states z, M_amounts z, v, M_borders z, M_apart z, M_hasGoal z, M_goalAbove z, M_goalBelow z, M_isFair z, M_fairAbove z, M_fairBelow z, M_weight z, M_least z, M_draw z, M_hasChoice z, M_choice z, M_earlier z, M_cost z, M_hasRun z, M_answer z, M_bound z, M_clashes z, M_tried z, M_triedCost z, M_kept z)
def sM_borders (z : ModT) (v : Nat → Int64) : ModT := (M_cells z, M_costs z, M_states z, M_amounts z, M_hours z, v, M_apart z, M_hasGoal z, M_goalAbove z, M_goalBelow z, M_isFair z, M_fairAbove z, M_fairBelow z, M_weight z, M_least z, M_draw z, M_hasChoice z, M_choice z, M_earlier z, M_cost z, M_hasRun z, M_answer z, M_bound z, M_clashes z, M_tried z, M_triedCost z, M_kept z)
def sM_apart (z : ModT) (v : Nat → Int32) : ModT := (M_cells z, M_costs z, M_states z, M_amounts z, M_hours z, M_borders z, v, M_hasGoal z, M_goalAbove z, M_goalBelow z, M_isFair z, M_fairAbove z, M_fairBelow z, M_weight z, M_least z, M_draw z, M_hasChoice z, M_choice z, M_earlier z, M_cost z, M_hasRun z, M_answer z, M_bound z, M_clashes z, M_tried z, M_triedCost z, M_kept z)
def sM_hasGoal (z : ModT) (v : Nat → Int32) : ModT := (M_cells z, M_costs z, M_states z, M_amounts z, M_hours z, M_borders z, M_apart z, v, M_goalAbove z, M_goalBelow z, M_isFair z, M_fairAbove z, M_fairBelow z, M_weight z, M_least z, M_draw z, M_hasChoice z, M_choice z, M_earlier z, M_cost z, M_hasRun z, M_answer z, M_bound z, M_clashes z, M_tried z, M_triedCost z, M_kept z)
def sM_goalAbove (z : ModT) (v : Nat → Int64) : ModT := (M_cells z, M_costs z, M_states z, M_amounts z, M_hours z, M_borders z, M_apart z, M_hasGoal z, v, M_goalBelow z, M_isFair z, M_fairAbove z, M_fairBelow z, M_weight z, M_least z, M_draw z, M_hasChoice z, M_choice z, M_earlier z, M_cost z, M_hasRun z, M_answer z, M_bound z, M_clashes z, M_tried z, M_triedCost z, M_kept z)
def sM_goalBelow (z : ModT) (v : Nat → Int64) : ModT := (M_cells z, M_costs z, M_states z, M_amounts z, M_hours z, M_borders z, M_apart z, M_hasGoal z, M_goalAbove z, v, M_isFair z, M_fairAbove z, M_fairBelow z, M_weight z, M_least z, M_draw z, M_hasChoice z, M_choice z, M_earlier z, M_cost z, M_hasRun z, M_answer z, M_bound z, M_clashes z, M_tried z, M_triedCost z, M_kept z)
def sM_isFair (z : ModT) (v : Int32) : ModT := (M_cells z, M_costs z, M_states z, M_amounts z, M_hours z, M_borders z, M_apart z, M_hasGoal z, M_goalAbove z, M_goalBelow z, v, M_fairAbove z, M_fairBelow z, M_weight z, M_least z, M_draw z, M_hasChoice z, M_choice z, M_earlier z, M_cost z, M_hasRun z, M_answer z, M_bound z, M_clashes z, M_tried z, M_triedCost z, M_kept z)
def sM_fairAbove (z : ModT) (v : Int64) : ModT := (M_cells z, M_costs z, M_states z, M_amounts z, M_hours z, M_borders z, M_apart z, M_hasGoal z, M_goalAbove z, M_goalBelow z, M_isFair z, v, M_fairBelow z, M_weight z, M_least z, M_draw z, M_hasChoice z, M_choice z, M_earlier z, M_cost z, M_hasRun z, M_answer z, M_bound z, M_clashes z, M_tried z, M_triedCost z, M_kept z)
def sM_fairBelow (z : ModT) (v : Int64) : ModT := (M_cells z, M_costs z, M_states z, M_amounts z, M_hours z, M_borders z, M_apart z, M_hasGoal z, M_goalAbove z, M_goalBelow z, M_isFair z, M_fairAbove z, v, M_weight z, M_least z, M_draw z, M_hasChoice z, M_choice z, M_earlier z, M_cost z, M_hasRun z, M_answer z, M_bound z, M_clashes z, M_tried z, M_triedCost z, M_kept z)
def sM_weight (z : ModT) (v : Int64) : ModT := (M_cells z, M_costs z, M_states z, M_amounts z, M_hours z, M_borders z, M_apart z, M_hasGoal z, M_goalAbove z, M_goalBelow z, M_isFair z, M_fairAbove z, M_fairBelow z, v, M_least z, M_draw z, M_hasChoice z, M_choice z, M_earlier z, M_cost z, M_hasRun z, M_answer z, M_bound z, M_clashes z, M_tried z, M_triedCost z, M_kept z)
def sM_least (z : ModT) (v : Int32) : ModT := (M_cells z, M_costs z, M_states z, M_amounts z, M_hours z, M_borders z, M_apart z, M_hasGoal z, M_goalAbove z, M_goalBelow z, M_isFair z, M_fairAbove z, M_fairBelow z, M_weight z, v, M_draw z, M_hasChoice z, M_choice z, M_earlier z, M_cost z, M_hasRun z, M_answer z, M_bound z, M_clashes z, M_tried z, M_triedCost z, M_kept z)
def sM_draw (z : ModT) (v : Int64) : ModT := (M_cells z, M_costs z, M_states z, M_amounts z, M_hours z, M_borders z, M_apart z, M_hasGoal z, M_goalAbove z, M_goalBelow z, M_isFair z, M_fairAbove z, M_fairBelow z, M_weight z, M_least z, v, M_hasChoice z, M_choice z, M_earlier z, M_cost z, M_hasRun z, M_answer z, M_bound z, M_clashes z, M_tried z, M_triedCost z, M_kept z)
def sM_hasChoice (z : ModT) (v : Int32) : ModT := (M_cells z, M_costs z, M_states z, M_amounts z, M_hours z, M_borders z, M_apart z, M_hasGoal z, M_goalAbove z, M_goalBelow z, M_isFair z, M_fairAbove z, M_fairBelow z, M_weight z, M_least z, M_draw z, v, M_choice z, M_earlier z, M_cost z, M_hasRun z, M_answer z, M_bound z, M_clashes z, M_tried z, M_triedCost z, M_kept z)
def sM_choice (z : ModT) (v : Int32) : ModT := (M_cells z, M_costs z, M_states z, M_amounts z, M_hours z, M_borders z, M_apart z, M_hasGoal z, M_goalAbove z, M_goalBelow z, M_isFair z, M_fairAbove z, M_fairBelow z, M_weight z, M_least z, M_draw z, M_hasChoice z, v, M_earlier z, M_cost z, M_hasRun z, M_answer z, M_bound z, M_clashes z, M_tried z, M_triedCost z, M_kept z)
def sM_earlier (z : ModT) (v : Int32) : ModT := (M_cells z, M_costs z, M_states z, M_amounts z, M_hours z, M_borders z, M_apart z, M_hasGoal z, M_goalAbove z, M_goalBelow z, M_isFair z, M_fairAbove z, M_fairBelow z, M_weight z, M_least z, M_draw z, M_hasChoice z, M_choice z, v, M_cost z, M_hasRun z, M_answer z, M_bound z, M_clashes z, M_tried z, M_triedCost z, M_kept z)
def sM_cost (z : ModT) (v : Int64) : ModT := (M_cells z, M_costs z, M_states z, M_amounts z, M_hours z, M_borders z, M_apart z, M_hasGoal z, M_goalAbove z, M_goalBelow z, M_isFair z, M_fairAbove z, M_fairBelow z, M_weight z, M_least z, M_draw z, M_hasChoice z, M_choice z, M_earlier z, v, M_hasRun z, M_answer z, M_bound z, M_clashes z, M_tried z, M_triedCost z, M_kept z)
def sM_hasRun (z : ModT) (v : Int32) : ModT := (M_cells z, M_costs z, M_states z, M_amounts z, M_hours z, M_borders z, M_apart z, M_hasGoal z, M_goalAbove z, M_goalBelow z, M_isFair z, M_fairAbove z, M_fairBelow z, M_weight z, M_least z, M_draw z, M_hasChoice z, M_choice z, M_earlier z, M_cost z, v, M_answer z, M_bound z, M_clashes z, M_tried z, M_triedCost z, M_kept z)
def sM_answer (z : ModT) (v : Int32) : ModT := (M_cells z, M_costs z, M_states z, M_amounts z, M_hours z, M_borders z, M_apart z, M_hasGoal z, M_goalAbove z, M_goalBelow z, M_isFair z, M_fairAbove z, M_fairBelow z, M_weight z, M_least z, M_draw z, M_hasChoice z, M_choice z, M_earlier z, M_cost z, M_hasRun z, v, M_bound z, M_clashes z, M_tried z, M_triedCost z, M_kept z)
def sM_bound (z : ModT) (v : Int64) : ModT := (M_cells z, M_costs z, M_states z, M_amounts z, M_hours z, M_borders z, M_apart z, M_hasGoal z, M_goalAbove z, M_goalBelow z, M_isFair z, M_fairAbove z, M_fairBelow z, M_weight z, M_least z, M_draw z, M_hasChoice z, M_choice z, M_earlier z, M_cost z, M_hasRun z, M_answer z, v, M_clashes z, M_tried z, M_triedCost z, M_kept z)
def sM_clashes (z : ModT) (v : Int32) : ModT := (M_cells z, M_costs z, M_states z, M_amounts z, M_hours z, M_borders z, M_apart z, M_hasGoal z, M_goalAbove z, M_goalBelow z, M_isFair z, M_fairAbove z, M_fairBelow z, M_weight z, M_least z, M_draw z, M_hasChoice z, M_choice z, M_earlier z, M_cost z, M_hasRun z, M_answer z, M_bound z, v, M_tried z, M_triedCost z, M_kept z)
def sM_tried (z : ModT) (v : Int32) : ModT := (M_cells z, M_costs z, M_states z, M_amounts z, M_hours z, M_borders z, M_apart z, M_hasGoal z, M_goalAbove z, M_goalBelow z, M_isFair z, M_fairAbove z, M_fairBelow z, M_weight z, M_least z, M_draw z, M_hasChoice z, M_choice z, M_earlier z, M_cost z, M_hasRun z, M_answer z, M_bound z, M_clashes z, v, M_triedCost z, M_kept z)
def sM_triedCost (z : ModT) (v : Int64) : ModT := (M_cells z, M_costs z, M_states z, M_amounts z, M_hours z, M_borders z, M_apart z, M_hasGoal z, M_goalAbove z, M_goalBelow z, M_isFair z, M_fairAbove z, M_fairBelow z, M_weight z, M_least z, M_draw z, M_hasChoice z, M_choice z, M_earlier z, M_cost z, M_hasRun z, M_answer z, M_bound z, M_clashes z, M_tried z, v, M_kept z)
def sM_kept (z : ModT) (v : Int32) : ModT := (M_cells z, M_costs z, M_states z, M_amounts z, M_hours z, M_borders z, M_apart z, M_hasGoal z, M_goalAbove z, M_goalBelow z, M_isFair z, M_fairAbove z, M_fairBelow z, M_weight z, M_least z, M_draw z, M_hasChoice z, M_choice z, M_earlier z, M_cost z, M_hasRun z, M_answer z, M_bound z, M_clashes z, M_tried z, M_triedCost z, v)
def xW (k : KT) (a : Nat → Nat) (S : SeaT) (T : TalT) (dr : Int64) (tr : Int64) (C : ChoT) (F : (Nat → Int32)) (G : GoT) : va_W := [(a 0, .inr (4, [.ref (a 1), .ref (a 11), .ref (a 14), .ref (a 15), .ref (a 16), .ref (a 17), .int (G_cellsBefore G), .int (G_runAnswer G), .long (G_toldBound G), .int (G_clashingKinds G)])),
  (a 1, .inr (2, [.ref (a 2), .ref (a 3), .ref (a 4), .ref (a 5), .ref (a 6), .ref (a 7), .ref (a 8), .ref (a 9), .ref (a 10), .long (S_fairAbove S), .long (S_fairBelow S), .long (S_borderWeight S), .int (S_cells S), .int (S_needed S), .int (S_barred S), .int (S_fewest S)])),
  (a 2, .inl (k.2.2.1, 24, .inr (.inl (S_costs S)))),
  (a 3, .inl (k.2.2.1, 192, .inr (.inl (S_amounts S)))),
  (a 4, .inl (k.2.2.1, 96, .inr (.inl (S_hours S)))),
  (a 5, .inl (k.2.2.1, 576, .inr (.inl (S_borders S)))),
  (a 6, .inl (k.2.1, 24, .inl (S_tooFar S))),
  (a 7, .inl (k.2.2.1, 8, .inr (.inl (S_kindTotals S)))),
  (a 8, .inl (k.2.2.1, 4, .inr (.inl (S_portTotals S)))),
  (a 9, .inl (k.2.2.1, 8, .inr (.inl (S_goalAbove S)))),
  (a 10, .inl (k.2.2.1, 8, .inr (.inl (S_goalBelow S)))),
  (a 11, .inr (3, [.ref (a 1), .ref (a 12), .ref (a 13), .int (T_cells T), .int (T_farPairs T), .long (T_cellCosts T), .long (T_borderLength T)])),
  (a 12, .inl (k.2.2.1, 8, .inr (.inl (T_amounts T)))),
  (a 13, .inl (k.2.2.1, 4, .inr (.inl (T_hours T)))),
  (a 14, .inr (1, [.long dr])),
  (a 15, .inr (1, [.long tr])),
  (a 16, .inr (0, [.int (C_there C), .int (C_cells C), .long (C_price C)])),
  (a 17, .inl (k.2.1, 24, .inl F))]
def mW (k : KT) (a : Nat → Nat) (M : ModT) : va_W := [(a 0, .inr (5, [.int (M_cells M), .ref (a 1), .ref (a 2), .ref (a 3), .ref (a 4), .ref (a 5), .ref (a 6), .ref (a 7), .ref (a 8), .ref (a 9), .int (M_isFair M), .long (M_fairAbove M), .long (M_fairBelow M), .long (M_weight M), .int (M_least M), .long (M_draw M), .int (M_hasChoice M), .int (M_choice M), .int (M_earlier M), .long (M_cost M), .int (M_hasRun M), .int (M_answer M), .long (M_bound M), .int (M_clashes M), .int (M_tried M), .long (M_triedCost M), .int (M_kept M)])),
  (a 1, .inl (k.2.2.1, 24, .inr (.inl (M_costs M)))),
  (a 2, .inl (k.2.1, 24, .inl (M_states M))),
  (a 3, .inl (k.2.2.1, 192, .inr (.inl (M_amounts M)))),
  (a 4, .inl (k.2.2.1, 96, .inr (.inl (M_hours M)))),
  (a 5, .inl (k.2.2.1, 576, .inr (.inl (M_borders M)))),
  (a 6, .inl (k.2.2.2, 576, .inl (M_apart M))),
  (a 7, .inl (k.2.2.2, 8, .inl (M_hasGoal M))),
  (a 8, .inl (k.2.2.1, 8, .inr (.inl (M_goalAbove M)))),
  (a 9, .inl (k.2.2.1, 8, .inr (.inl (M_goalBelow M))))]
def dW (k : KT) (a : Nat → Nat) (dr : Int64) : va_W := [(a 0, .inr (1, [.long dr]))]
