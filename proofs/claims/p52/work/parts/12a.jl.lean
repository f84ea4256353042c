/-! PRINTED by wip/whole/gen/mk_jl.py: links of the library's methods -/
theorem fc20_RJx29ce0_7 : e_FC RJx29ce0 7 20 0 := ⟨_, rfl, (e_w1 1306 (by decide +kernel) rfl)⟩
theorem fc21_RJx29ce0_7 : e_FC RJx29ce0 7 21 0 := ⟨_, rfl, (e_w1 1306 (by decide +kernel) rfl)⟩
