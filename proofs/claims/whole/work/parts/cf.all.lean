/-! all pairs -/
theorem all_pairs : AllPr REL :=
  ⟨fun _ _ h => h.up, q_status, q_top, q_bottom, q_tray, q_write, q_read, q_pour, q_feed, q_river, q_rule, q_fault, q_told, q_bar, q_barOf, q_stage, q_depth, q_open, q_part, q_there, q_chance, q_pass, q_sound, q_colour, q_off, q_forget, q_minutes, q_struck, q_sure, q_soonest, q_surest, q_mean, q_length, q_way, q_worth, q_next, q_lieTo, q_marked, q_tells, q_dredged, q_brush, q_lighten, q_play, q_played, q_tally, q_mark, q_back⟩
