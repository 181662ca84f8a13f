theorem sim_plan : k_Sim_plan R_all := by sorry
theorem sim_orders : k_Sim_orders R_all := by sorry
