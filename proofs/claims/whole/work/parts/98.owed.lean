/-! WHAT IS OWED, and all calls together -/
theorem o_text : op_text Inv := sorry
theorem all_ops : allOps Inv := ⟨o_one, o_brim, o_standard, o_feed, o_end, o_text, o_fault, o_by, o_deed, o_weep, o_wash, o_pour, o_bend, o_shrink, o_day, o_played, o_centuries, o_undo, o_of, o_drops, o_is, o_book, o_foretold, o_firstBrim, o_plan, o_within, o_wrongly, o_howOften, o_way, o_round, o_year, o_shrunk, o_wouldTell, o_against, o_even, o_worst, o_moreDents, o_cases, o_dried, o_whose, o_costs, o_game, o_fined, o_fines, o_sober, o_heaviest, o_image, o_back, o_about⟩
theorem inv_more (n : Nat) (h : Hp) (I : Inv n h) : Inv (n + 1) h := I.le (by omega)
