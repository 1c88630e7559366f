theorem E_thing (a0 : Int32) (a1 : Int32) {S : z_Stt} (h : Inv S) : ∃ (v : Int32) (S1 S2 : z_Stt), f_X10_thing a0 a1 S = some (v, S1) ∧ f_X11_thing a0 a1 S1 = some (v, S2) ∧ Inv S2 := by
  sorry
theorem E_things (a0 : Int32) (a1 : Int32) (a2 : Int32) {S : z_Stt} (h : Inv S) : ∃ (v : Int32) (S1 S2 : z_Stt), f_X10_things FUEL a0 a1 a2 S = some (v, S1) ∧ f_X11_things FUEL a0 a1 a2 S1 = some (v, S2) ∧ Inv S2 := by
  sorry
theorem E_mend (a0 : Int32) (a1 : Int32) (a2 : Int32) {S : z_Stt} (h : Inv S) : ∃ (v : Int32) (S1 S2 : z_Stt), f_X10_mend FUEL a0 a1 a2 S = some (v, S1) ∧ f_X11_mend FUEL a0 a1 a2 S1 = some (v, S2) ∧ Inv S2 := by
  sorry
theorem E_of (a0 : Int32) (a1 : Int32) {S : z_Stt} (h : Inv S) : ∃ (v : Int32) (S1 S2 : z_Stt), f_X10_of a0 a1 S = some (v, S1) ∧ f_X11_of a0 a1 S1 = some (v, S2) ∧ Inv S2 := by
  sorry
theorem E_feed (a0 : Int32) {S : z_Stt} (h : Inv S) : ∃ (v : Int32) (S1 S2 : z_Stt), f_X10_feed a0 S = some (v, S1) ∧ f_X11_feed a0 S1 = some (v, S2) ∧ Inv S2 := by
  sorry
theorem E_law {S : z_Stt} (h : Inv S) : ∃ (v : Int32) (S1 S2 : z_Stt), f_X10_law FUEL S = some (v, S1) ∧ f_X11_law FUEL S1 = some (v, S2) ∧ Inv S2 := by
  sorry
theorem E_open (a0 : Int32) (a1 : Int32) (a2 : Int32) {S : z_Stt} (h : Inv S) : ∃ (v : Int64) (S1 S2 : z_Stt), f_X10_open FUEL a0 a1 a2 S = some (v, S1) ∧ f_X11_open FUEL a0 a1 a2 S1 = some (v, S2) ∧ Inv S2 := by
  sorry
theorem E_pays (a0 : Int32) (a1 : Int32) {S : z_Stt} (h : Inv S) : ∃ (v : Int32) (S1 S2 : z_Stt), f_X10_pays FUEL a0 a1 S = some (v, S1) ∧ f_X11_pays a0 a1 S1 = some (v, S2) ∧ Inv S2 := by
  sorry
theorem E_worth (a0 : Int32) (a1 : Int32) (a2 : Int32) {S : z_Stt} (h : Inv S) : ∃ (v : Int64) (S1 S2 : z_Stt), f_X10_worth FUEL a0 a1 a2 S = some (v, S1) ∧ f_X11_worth FUEL a0 a1 a2 S1 = some (v, S2) ∧ Inv S2 := by
  sorry
theorem E_howFar (a0 : Int32) {S : z_Stt} (h : Inv S) : ∃ (v : Int32) (S1 S2 : z_Stt), f_X10_howFar FUEL a0 S = some (v, S1) ∧ f_X11_howFar FUEL a0 S1 = some (v, S2) ∧ Inv S2 := by
  sorry
theorem E_best (a0 : Int32) (a1 : Int32) (a2 : Int32) {S : z_Stt} (h : Inv S) : ∃ (v : Int64) (S1 S2 : z_Stt), f_X10_best FUEL a0 a1 a2 S = some (v, S1) ∧ f_X11_best FUEL a0 a1 a2 S1 = some (v, S2) ∧ Inv S2 := by
  sorry
theorem E_gone (a0 : Int32) (a1 : Int32) {S : z_Stt} (h : Inv S) : ∃ (v : Int32) (S1 S2 : z_Stt), f_X10_gone FUEL a0 a1 S = some (v, S1) ∧ f_X11_gone FUEL a0 a1 S1 = some (v, S2) ∧ Inv S2 := by
  sorry
theorem E_plan (a0 : Int32) (a1 : Int32) (a2 : Int32) {S : z_Stt} (h : Inv S) : ∃ (v : Int64) (S1 S2 : z_Stt), f_X10_plan FUEL a0 a1 a2 S = some (v, S1) ∧ f_X11_plan FUEL a0 a1 a2 S1 = some (v, S2) ∧ Inv S2 := by
  sorry
theorem E_rung {S : z_Stt} (h : Inv S) : ∃ (v : Int32) (S1 S2 : z_Stt), f_X10_rung S = some (v, S1) ∧ f_X11_rung S1 = some (v, S2) ∧ Inv S2 := by
  sorry
theorem E_two (a0 : Int32) (a1 : Int32) (a2 : Int32) {S : z_Stt} (h : Inv S) : ∃ (v : Int64) (S1 S2 : z_Stt), f_X10_two FUEL a0 a1 a2 S = some (v, S1) ∧ f_X11_two FUEL a0 a1 a2 S1 = some (v, S2) ∧ Inv S2 := by
  sorry
theorem E_shortest (a0 : Int32) (a1 : Int32) (a2 : Int32) {S : z_Stt} (h : Inv S) : ∃ (v : Int32) (S1 S2 : z_Stt), f_X10_shortest FUEL a0 a1 a2 S = some (v, S1) ∧ f_X11_shortest FUEL a0 a1 a2 S1 = some (v, S2) ∧ Inv S2 := by
  sorry
theorem E_length (a0 : Int32) (a1 : Int32) {S : z_Stt} (h : Inv S) : ∃ (v : Int32) (S1 S2 : z_Stt), f_X10_length FUEL a0 a1 S = some (v, S1) ∧ f_X11_length FUEL a0 a1 S1 = some (v, S2) ∧ Inv S2 := by
  sorry
theorem E_list (a0 : Int32) (a1 : Int32) {S : z_Stt} (h : Inv S) : ∃ (v : Int64) (S1 S2 : z_Stt), f_X10_list FUEL a0 a1 S = some (v, S1) ∧ f_X11_list FUEL a0 a1 S1 = some (v, S2) ∧ Inv S2 := by
  sorry
theorem E_ever (a0 : Int32) (a1 : Int32) (a2 : Int32) {S : z_Stt} (h : Inv S) : ∃ (v : Int64) (S1 S2 : z_Stt), f_X10_ever FUEL a0 a1 a2 S = some (v, S1) ∧ f_X11_ever FUEL a0 a1 a2 S1 = some (v, S2) ∧ Inv S2 := by
  sorry
theorem E_camera (a0 : Int32) (a1 : Int32) (a2 : Int32) {S : z_Stt} (h : Inv S) : ∃ (v : Int64) (S1 S2 : z_Stt), f_X10_camera FUEL a0 a1 a2 S = some (v, S1) ∧ f_X11_camera FUEL a0 a1 a2 S1 = some (v, S2) ∧ Inv S2 := by
  sorry
theorem E_drawn (a0 : Int32) (a1 : Int32) (a2 : Int32) (a3 : Int32) {S : z_Stt} (h : Inv S) : ∃ (v : Int32) (S1 S2 : z_Stt), f_X10_drawn FUEL a0 a1 a2 a3 S = some (v, S1) ∧ f_X11_drawn FUEL a0 a1 a2 a3 S1 = some (v, S2) ∧ Inv S2 := by
  sorry
theorem E_fits (a0 : Int32) (a1 : Int32) {S : z_Stt} (h : Inv S) : ∃ (v : Int32) (S1 S2 : z_Stt), f_X10_fits FUEL a0 a1 S = some (v, S1) ∧ f_X11_fits FUEL a0 a1 S1 = some (v, S2) ∧ Inv S2 := by
  sorry
theorem E_when (a0 : Int32) (a1 : Int32) (a2 : Int32) {S : z_Stt} (h : Inv S) : ∃ (v : Int32) (S1 S2 : z_Stt), f_X10_when FUEL a0 a1 a2 S = some (v, S1) ∧ f_X11_when FUEL a0 a1 a2 S1 = some (v, S2) ∧ Inv S2 := by
  sorry
theorem E_judge (a0 : Int32) {S : z_Stt} (h : Inv S) : ∃ (v : Int32) (S1 S2 : z_Stt), f_X10_judge FUEL a0 S = some (v, S1) ∧ f_X11_judge FUEL a0 S1 = some (v, S2) ∧ Inv S2 := by
  sorry
theorem E_morning (a0 : Int32) (a1 : Int32) {S : z_Stt} (h : Inv S) : ∃ (v : Int32) (S1 S2 : z_Stt), f_X10_morning a0 a1 S = some (v, S1) ∧ f_X11_morning a0 a1 S1 = some (v, S2) ∧ Inv S2 := by
  sorry
theorem E_goBack (a0 : Int32) {S : z_Stt} (h : Inv S) : ∃ (v : Int32) (S1 S2 : z_Stt), f_X10_goBack a0 S = some (v, S1) ∧ f_X11_goBack a0 S1 = some (v, S2) ∧ Inv S2 := by
  sorry
theorem E_goOn {S : z_Stt} (h : Inv S) : ∃ (v : Int32) (S1 S2 : z_Stt), f_X10_goOn S = some (v, S1) ∧ f_X11_goOn S1 = some (v, S2) ∧ Inv S2 := by
  sorry
theorem E_dayOff {S : z_Stt} (h : Inv S) : ∃ (v : Int32) (S1 S2 : z_Stt), f_X10_dayOff FUEL S = some (v, S1) ∧ f_X11_dayOff FUEL S1 = some (v, S2) ∧ Inv S2 := by
  sorry
theorem E_led (a0 : Int32) {S : z_Stt} (h : Inv S) : ∃ (v : Int32) (S1 S2 : z_Stt), f_X10_led a0 S = some (v, S1) ∧ f_X11_led a0 S1 = some (v, S2) ∧ Inv S2 := by
  sorry
theorem E_image {S : z_Stt} (h : Inv S) : ∃ (v : Int32) (S1 S2 : z_Stt), f_X10_image FUEL S = some (v, S1) ∧ f_X11_image FUEL S1 = some (v, S2) ∧ Inv S2 := by
  sorry
theorem E_back {S : z_Stt} (h : Inv S) : ∃ (v : Int32) (S1 S2 : z_Stt), f_X10_back FUEL S = some (v, S1) ∧ f_X11_back FUEL S1 = some (v, S2) ∧ Inv S2 := by
  sorry
theorem E_undo {S : z_Stt} (h : Inv S) : ∃ (v : Int32) (S1 S2 : z_Stt), f_X10_undo S = some (v, S1) ∧ f_X11_undo S1 = some (v, S2) ∧ Inv S2 := by
  sorry
theorem E_redo {S : z_Stt} (h : Inv S) : ∃ (v : Int32) (S1 S2 : z_Stt), f_X10_redo S = some (v, S1) ∧ f_X11_redo S1 = some (v, S2) ∧ Inv S2 := by
  sorry
theorem E_body (a0 : Int32) {S : z_Stt} (h : Inv S) : ∃ (v : Int32) (S1 S2 : z_Stt), f_X10_body a0 S = some (v, S1) ∧ f_X11_body a0 S1 = some (v, S2) ∧ Inv S2 := by
  sorry
theorem E_act (a0 : Int32) (a1 : Int32) (a2 : Int32) {S : z_Stt} (h : Inv S) : ∃ (v : Int32) (S1 S2 : z_Stt), f_X10_act FUEL a0 a1 a2 S = some (v, S1) ∧ f_X11_act a0 a1 a2 S1 = some (v, S2) ∧ Inv S2 := by
  sorry
theorem E_trace (a0 : Int32) {S : z_Stt} (h : Inv S) : ∃ (v : Int32) (S1 S2 : z_Stt), f_X10_trace a0 S = some (v, S1) ∧ f_X11_trace a0 S1 = some (v, S2) ∧ Inv S2 := by
  sorry
theorem E_keep (a0 : Int32) (a1 : Int32) {S : z_Stt} (h : Inv S) : ∃ (v : Int32) (S1 S2 : z_Stt), f_X10_keep a0 a1 S = some (v, S1) ∧ f_X11_keep a0 a1 S1 = some (v, S2) ∧ Inv S2 := by
  sorry
theorem E_row (a0 : Int32) (a1 : Int32) (a2 : Int32) {S : z_Stt} (h : Inv S) : ∃ (v : Int32) (S1 S2 : z_Stt), f_X10_row FUEL a0 a1 a2 S = some (v, S1) ∧ f_X11_row FUEL a0 a1 a2 S1 = some (v, S2) ∧ Inv S2 := by
  sorry
theorem E_put (a0 : Int32) (a1 : Int32) (a2 : Int64) {S : z_Stt} (h : Inv S) : ∃ (v : Int32) (S1 S2 : z_Stt), f_X10_put a0 a1 a2 S = some (v, S1) ∧ f_X11_put a0 a1 a2 S1 = some (v, S2) ∧ Inv S2 := by
  sorry
theorem E_element (a0 : Int32) (a1 : Int32) {S : z_Stt} (h : Inv S) : ∃ (v : Int64) (S1 S2 : z_Stt), f_X10_element a0 a1 S = some (v, S1) ∧ f_X11_element a0 a1 S1 = some (v, S2) ∧ Inv S2 := by
  sorry
theorem E_shift (a0 : Int32) (a1 : Int32) (a2 : Int32) (a3 : Int32) (a4 : Int32) {S : z_Stt} (h : Inv S) : ∃ (v : Int32) (S1 S2 : z_Stt), f_X10_shift a0 a1 a2 a3 a4 S = some (v, S1) ∧ f_X11_shift FUEL a0 a1 a2 a3 a4 S1 = some (v, S2) ∧ Inv S2 := by
  sorry
theorem E_taken (a0 : Int32) (a1 : Int32) {S : z_Stt} (h : Inv S) : ∃ (v : Int32) (S1 S2 : z_Stt), f_X10_taken FUEL a0 a1 S = some (v, S1) ∧ f_X11_taken FUEL a0 a1 S1 = some (v, S2) ∧ Inv S2 := by
  sorry
theorem E_count (a0 : Int32) {S : z_Stt} (h : Inv S) : ∃ (v : Int32) (S1 S2 : z_Stt), f_X10_count FUEL a0 S = some (v, S1) ∧ f_X11_count FUEL a0 S1 = some (v, S2) ∧ Inv S2 := by
  sorry
