theorem sim_town {σx σm : Sg} (h : REL σx σm) (a1 : Int32) (a2 : Int32) (a3 : Int32) (a4 : Int32) : ∃ r σx1 σm1, f_X9_town σx a1 a2 a3 a4 = some (r, σx1) ∧ f_X10_town σm a1 a2 a3 a4 = some (r, σm1) ∧ REL σx1 σm1 := sorry
theorem sim_ofThing {σx σm : Sg} (h : REL σx σm) (a1 : Int32) (a2 : Int32) : ∃ r, f_X9_ofThing σx a1 a2 = some r ∧ f_X10_ofThing σm a1 a2 = some r := sorry
theorem sim_law {σx σm : Sg} (h : REL σx σm) (a1 : Int32) : ∃ r σx1 σm1, f_X9_law σx a1 = some (r, σx1) ∧ f_X10_law σm a1 = some (r, σm1) ∧ REL σx1 σm1 := sorry
theorem sim_depute {σx σm : Sg} (h : REL σx σm) (a1 : Int32) (a2 : Int32) : ∃ r σx1 σm1, f_X9_depute σx a1 a2 = some (r, σx1) ∧ f_X10_depute σm a1 a2 = some (r, σm1) ∧ REL σx1 σm1 := sorry
theorem sim_smash {σx σm : Sg} (h : REL σx σm) (a1 : Int32) (a2 : Int32) (a3 : Int32) : ∃ r σx1 σm1, f_X9_smash σx a1 a2 a3 = some (r, σx1) ∧ f_X10_smash σm a1 a2 a3 = some (r, σm1) ∧ REL σx1 σm1 := sorry
theorem sim_glue {σx σm : Sg} (h : REL σx σm) (a1 : Int32) : ∃ r σx1 σm1, f_X9_glue σx a1 = some (r, σx1) ∧ f_X10_glue σm a1 = some (r, σm1) ∧ REL σx1 σm1 := sorry
theorem sim_by {σx σm : Sg} (h : REL σx σm) (a1 : Int32) (a2 : Int32) : ∃ r σx1 σm1, f_X9_by σx a1 a2 = some (r, σx1) ∧ f_X10_by σm a1 a2 = some (r, σm1) ∧ REL σx1 σm1 := sorry
theorem sim_undone {σx σm : Sg} (h : REL σx σm) (a1 : Int32) : ∃ r σx1 σm1, f_X9_undone σx a1 = some (r, σx1) ∧ f_X10_undone σm a1 = some (r, σm1) ∧ REL σx1 σm1 := sorry
theorem sim_serves {σx σm : Sg} (h : REL σx σm) (a1 : Int32) : ∃ r σx1 σm1, f_X9_serves σx a1 = some (r, σx1) ∧ f_X10_serves σm a1 = some (r, σm1) ∧ REL σx1 σm1 := sorry
theorem sim_ring {σx σm : Sg} (h : REL σx σm)  : ∃ r, f_X9_ring σx = some r ∧ f_X10_ring σm = some r := sorry
theorem sim_first {σx σm : Sg} (h : REL σx σm) (a1 : Int32) : ∃ r σx1 σm1, f_X9_first σx a1 = some (r, σx1) ∧ f_X10_first σm a1 = some (r, σm1) ∧ REL σx1 σm1 := sorry
theorem sim_frail {σx σm : Sg} (h : REL σx σm) (a1 : Int32) (a2 : Int32) : ∃ r σx1 σm1, f_X9_frail σx a1 a2 = some (r, σx1) ∧ f_X10_frail σm a1 a2 = some (r, σm1) ∧ REL σx1 σm1 := sorry
theorem sim_plot {σx σm : Sg} (h : REL σx σm) (a1 : Int32) : ∃ r σx1 σm1, f_X9_plot σx a1 = some (r, σx1) ∧ f_X10_plot σm a1 = some (r, σm1) ∧ REL σx1 σm1 := sorry
theorem sim_mend {σx σm : Sg} (h : REL σx σm) (a1 : Int32) : ∃ r σx1 σm1, f_X9_mend σx a1 = some (r, σx1) ∧ f_X10_mend σm a1 = some (r, σm1) ∧ REL σx1 σm1 := sorry
theorem sim_wave {σx σm : Sg} (h : REL σx σm) (a1 : Int32) : ∃ r σx1 σm1, f_X9_wave σx a1 = some (r, σx1) ∧ f_X10_wave σm a1 = some (r, σm1) ∧ REL σx1 σm1 := sorry
theorem sim_roster {σx σm : Sg} (h : REL σx σm) (a1 : Int32) (a2 : Int32) (a3 : Int32) (a4 : Int32) : ∃ r σx1 σm1, f_X9_roster σx a1 a2 a3 a4 = some (r, σx1) ∧ f_X10_roster σm a1 a2 a3 a4 = some (r, σm1) ∧ REL σx1 σm1 := sorry
theorem sim_reading {σx σm : Sg} (h : REL σx σm) (a1 : Int32) (a2 : Int32) : ∃ r σx1 σm1, f_X9_reading σx a1 a2 = some (r, σx1) ∧ f_X10_reading σm a1 a2 = some (r, σm1) ∧ REL σx1 σm1 := sorry
theorem sim_back {σx σm : Sg} (h : REL σx σm) (a1 : Int32) : ∃ r σx1 σm1, f_X9_back σx a1 = some (r, σx1) ∧ f_X10_back σm a1 = some (r, σm1) ∧ REL σx1 σm1 := sorry
theorem sim_failed {σx σm : Sg} (h : REL σx σm) (a1 : Int32) : ∃ r σx1 σm1, f_X9_failed σx a1 = some (r, σx1) ∧ f_X10_failed σm a1 = some (r, σm1) ∧ REL σx1 σm1 := sorry
theorem sim_laws {σx σm : Sg} (h : REL σx σm)  : ∃ r σx1 σm1, f_X9_laws σx = some (r, σx1) ∧ f_X10_laws σm = some (r, σm1) ∧ REL σx1 σm1 := sorry
theorem sim_odds {σx σm : Sg} (h : REL σx σm) (a1 : Int32) (a2 : Int32) : ∃ r σx1 σm1, f_X9_odds σx a1 a2 = some (r, σx1) ∧ f_X10_odds σm a1 a2 = some (r, σm1) ∧ REL σx1 σm1 := sorry
theorem sim_sheet {σx σm : Sg} (h : REL σx σm) (a1 : Int32) (a2 : Int32) (a3 : Int32) : ∃ r σx1 σm1, f_X9_sheet σx a1 a2 a3 = some (r, σx1) ∧ f_X10_sheet σm a1 a2 a3 = some (r, σm1) ∧ REL σx1 σm1 := sorry
theorem sim_lose {σx σm : Sg} (h : REL σx σm) (a1 : Int32) : ∃ r σx1 σm1, f_X9_lose σx a1 = some (r, σx1) ∧ f_X10_lose σm a1 = some (r, σm1) ∧ REL σx1 σm1 := sorry
theorem sim_put {σx σm : Sg} (h : REL σx σm) (a1 : Int32) (a2 : Int32) (a3 : Int32) : ∃ r σx1 σm1, f_X9_put σx a1 a2 a3 = some (r, σx1) ∧ f_X10_put σm a1 a2 a3 = some (r, σm1) ∧ REL σx1 σm1 := sorry
theorem sim_cell {σx σm : Sg} (h : REL σx σm) (a1 : Int32) (a2 : Int32) (a3 : Int32) : ∃ r σx1 σm1, f_X9_cell σx a1 a2 a3 = some (r, σx1) ∧ f_X10_cell σm a1 a2 a3 = some (r, σm1) ∧ REL σx1 σm1 := sorry
theorem sim_copy {σx σm : Sg} (h : REL σx σm) (a1 : Int32) (a2 : Int32) (a3 : Int32) (a4 : Int32) (a5 : Int32) : ∃ r σx1 σm1, f_X9_copy σx a1 a2 a3 a4 a5 = some (r, σx1) ∧ f_X10_copy σm a1 a2 a3 a4 a5 = some (r, σm1) ∧ REL σx1 σm1 := sorry
theorem sim_tell {σx σm : Sg} (h : REL σx σm) (a1 : Int32) : ∃ r σx1 σm1, f_X9_tell σx a1 = some (r, σx1) ∧ f_X10_tell σm a1 = some (r, σm1) ∧ REL σx1 σm1 := sorry
theorem sim_call {σx σm : Sg} (h : REL σx σm) (a1 : Int32) : ∃ r σx1 σm1, f_X9_call σx a1 = some (r, σx1) ∧ f_X10_call σm a1 = some (r, σm1) ∧ REL σx1 σm1 := sorry
theorem sim_as {σx σm : Sg} (h : REL σx σm) (a1 : Int32) (a2 : Int32) : ∃ r σx1 σm1, f_X9_as σx a1 a2 = some (r, σx1) ∧ f_X10_as σm a1 a2 = some (r, σm1) ∧ REL σx1 σm1 := sorry
theorem sim_trace {σx σm : Sg} (h : REL σx σm)  : ∃ r, f_X9_trace σx = some r ∧ f_X10_trace σm = some r := sorry
theorem sim_fault {σx σm : Sg} (h : REL σx σm)  : ∃ r, f_X9_fault σx = some r ∧ f_X10_fault σm = some r := sorry
theorem sim_many {σx σm : Sg} (h : REL σx σm) (a1 : Int32) : ∃ r, f_X9_many σx a1 = some r ∧ f_X10_many σm a1 = some r := sorry
