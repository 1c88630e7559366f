/-! PAYS: thing and memory, what the ways are worth -/
theorem e_tm10 (a : Int32) (S : z_Stt) : f_X10_isThingAndMemory a 2 S = some (decide (0 ≤ a ∧ a / 10 < S.1 101 ∧ a % 10 ≤ 2), S) := by
  unfold f_X10_isThingAndMemory
  by_cases c : a < 0
  · rw [if_pos c, decide_eq_false (fun q => absurd q.1 (Int32.not_le.mpr c))]
  · have a0 : 0 ≤ a := Int32.not_lt.mp c
    obtain ⟨d1, d2, d3, d4⟩ := dvk (k := 10) a0 (by decide +kernel)
    rw [if_neg c, e_isThing10, g_bds]
    by_cases t : a / 10 < S.1 101
    · rw [decide_eq_true (⟨d1, t⟩ : 0 ≤ a / 10 ∧ a / 10 < S.1 101), if_pos rfl, e_within10, g_bds]
      by_cases m : a % 10 ≤ 2
      · rw [decide_eq_true (⟨d3, m⟩ : 0 ≤ a % 10 ∧ a % 10 ≤ 2), if_pos rfl, decide_eq_true ⟨a0, t, m⟩]
      · rw [decide_eq_false (fun q : 0 ≤ a % 10 ∧ a % 10 ≤ 2 => m q.2), if_neg (by decide), decide_eq_false (fun q => m q.2.2)]
    · rw [decide_eq_false (fun q : 0 ≤ a / 10 ∧ a / 10 < S.1 101 => t q.2), if_neg (by decide), decide_eq_false (fun q => t q.2.1)]
theorem e_tr11 (a : Int32) {T : z_Stt} (h4 : 0 ≤ T.1 4806) : f_X11_isTr a T = some (decide (0 ≤ a ∧ a / 10 < T.1 4806 ∧ a % 10 ≤ 2), T) := by
  unfold f_X11_isTr
  by_cases c : a < 0
  · rw [if_pos c, decide_eq_false (fun q => absurd q.1 (Int32.not_le.mpr c))]
  · have a0 : 0 ≤ a := Int32.not_lt.mp c
    obtain ⟨d1, d2, d3, d4⟩ := dvk (k := 10) a0 (by decide +kernel)
    rw [if_neg c, e_isThing11 (a / 10) h4, g_bds]
    by_cases t : a / 10 < T.1 4806
    · rw [decide_eq_true (⟨d1, t⟩ : 0 ≤ a / 10 ∧ a / 10 < T.1 4806), if_pos rfl]
      by_cases m : 3 ≤ a % 10
      · rw [if_pos m, decide_eq_false (fun q => by have := q.2.2; lia)]
      · rw [if_neg m, decide_eq_true ⟨a0, t, by lia⟩]
    · rw [decide_eq_false (fun q : 0 ≤ a / 10 ∧ a / 10 < T.1 4806 => t q.2), if_neg (by decide), decide_eq_false (fun q => t q.2.1)]
theorem e_backG (a : Int32) {S T : z_Stt} (h1 : T.2.2.1 49 = S.2.2.1 2) : f_X11_backCosts a T = some (prV S a, T) := by
  simp only [f_X11_backCosts, l75_36, if_true, h1]; rfl
theorem rJa (T : z_Stt) (x y : Int64) : (sJ (sJ T 4811 x) 4812 y).2.1 4811 = x := by
  show (if 4811 = 4812 then y else if 4811 = 4811 then x else T.2.1 4811) = x
  rw [if_neg (by decide), if_pos rfl]
theorem rJb (T : z_Stt) (x y : Int64) : (sJ (sJ T 4811 x) 4812 y).2.1 4812 = y := by
  show (if 4812 = 4812 then y else (if 4812 = 4811 then x else T.2.1 4812)) = y
  rw [if_pos rfl]
theorem e_worthWays {a0 : Int32} (a1 : Int32) {S T : z_Stt} (h1 : T.2.2.1 49 = S.2.2.1 2) (ht : 0 ≤ a0 / 10 ∧ a0 / 10 < 6) {b : Bool} {x y : Int64} (hb : f_X11_asksOpen (a0 / 10) (a0 % 10) T = some (b, sJ (sJ T 4811 x) 4812 y)) : f_X11_worthWays a0 a1 T = some (x * (vAt S (6 * 3 + a0 / 10)).toInt64 - (prV S a1).toInt64 * y, sJ (sJ T 4811 x) 4812 y) := by
  unfold f_X11_worthWays
  rw [hb, g_bds, e_nrG (S := S) (T := sJ (sJ T 4811 x) 4812 y) h1 (k := 3) (by decide +kernel) ht, g_bds, e_backG (S := S) (T := sJ (sJ T 4811 x) 4812 y) a1 h1, g_bds, rJa, rJb]
