/-! the claim -/
theorem sims_Sm : Sims Sm := fun _ _ _ _ _ _ h => ⟨g_gate h, g_clear h, g_route h, fun _ _ => g_column h, fun _ _ => g_net h, fun _ _ => g_mask h, fun _ _ _ => g_damage h, g_joined h, g_faults h, fun _ _ => g_time h, fun _ => g_delay h, g_arrival h, g_simulate h, fun _ => g_count h⟩
theorem i_vc : Claimed_1_1 ∧ Claimed_1_2 := vc_of Sm sims_Sm g_init
