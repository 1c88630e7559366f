/-! PAYS: thing and memory, what the ways are worth -/
theorem e_tm10 (a : Int32) (S : z_Stt) : f_X10_isThingAndMemory a 2 S = some (decide (0 ≤ a ∧ a / 10 < S.1 101 ∧ a % 10 ≤ 2), S) := by
  unfold f_X10_isThingAndMemory
  by_cases c : a < 0
  · rw [if_pos c, decide_eq_false (fun q => absurd q.1 (Int32.not_le.mpr c))]
  · have a0 : 0 ≤ a := Int32.not_lt.mp c
    obtain ⟨d1, d2, d3, d4⟩ := dvk (k := 10) a0 (by decide +kernel)
    rw [if_neg c, e_isThing10, g_bds]
    by_cases t : a / 10 < S.1 101
    · rw [decide_eq_true (⟨d1, t⟩ : 0 ≤ a / 10 ∧ a / 10 < S.1 101), if_pos rfl, e_within10, g_bds]
      by_cases m : a % 10 ≤ 2
      · rw [decide_eq_true (⟨d3, m⟩ : 0 ≤ a % 10 ∧ a % 10 ≤ 2), if_pos rfl, decide_eq_true ⟨a0, t, m⟩]
      · rw [decide_eq_false (fun q : 0 ≤ a % 10 ∧ a % 10 ≤ 2 => m q.2), if_neg (by decide), decide_eq_false (fun q => m q.2.2)]
    · rw [decide_eq_false (fun q : 0 ≤ a / 10 ∧ a / 10 < S.1 101 => t q.2), if_neg (by decide), decide_eq_false (fun q => t q.2.1)]
theorem e_tr11 (a : Int32) {T : z_Stt} (h4 : 0 ≤ T.1 4806) : f_X11_isTr a T = some (decide (0 ≤ a ∧ a / 10 < T.1 4806 ∧ a % 10 ≤ 2), T) := by
  unfold f_X11_isTr
  by_cases c : a < 0
  · rw [if_pos c, decide_eq_false (fun q => absurd q.1 (Int32.not_le.mpr c))]
  · have a0 : 0 ≤ a := Int32.not_lt.mp c
    obtain ⟨d1, d2, d3, d4⟩ := dvk (k := 10) a0 (by decide +kernel)
    rw [if_neg c, e_isThing11 (a / 10) h4, g_bds]
    by_cases t : a / 10 < T.1 4806
    · rw [decide_eq_true (⟨d1, t⟩ : 0 ≤ a / 10 ∧ a / 10 < T.1 4806), if_pos rfl]
      by_cases m : 3 ≤ a % 10
      · rw [if_pos m, decide_eq_false (fun q => by have := q.2.2; lia)]
      · rw [if_neg m, decide_eq_true ⟨a0, t, by lia⟩]
    · rw [decide_eq_false (fun q : 0 ≤ a / 10 ∧ a / 10 < T.1 4806 => t q.2), if_neg (by decide), decide_eq_false (fun q => t q.2.1)]
