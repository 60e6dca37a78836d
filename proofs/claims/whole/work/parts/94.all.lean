/-! ALL OF THE LAW'S CALLS -/
theorem J_all : lawOk JR := ⟨J_part, J_pad, J_via, J_track, J_plane, J_move, J_drop, J_gap, J_islands, J_near, J_filled, J_at, J_count, J_work, J_end, J_version, J_back, J_net, J_check, J_begin, J_told, J_start, J_pre⟩
