/-! the statement -/
theorem i_vc : Claimed_1_1 ∧ Claimed_1_2 := i_vc_open ⟨sim_circle, sim_box, sim_polygon, sim_trace, sim_corner, sim_ring, sim_grow, sim_inside, sim_nearer, sim_boxOf, sim_turn, sim_kind, sim_same⟩ rel_0
