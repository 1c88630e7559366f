/-! TAKEN: a kept goer's kind; SHIFT: elements from shelf to shelf -/
theorem cs08 {a : Int32} (h : 0 ≤ a ∧ a ≤ 7) : a = 0 ∨ a = 1 ∨ a = 2 ∨ a = 3 ∨ a = 4 ∨ a = 5 ∨ a = 6 ∨ a = 7 := by grind
def abv (k : Int32) : Int32 := st_KA k.toNatClampNeg
def uB (k a : Int32) : Bool := decide (k = a ∨ abv k = a ∨ abv (abv k) = a ∨ abv (abv (abv k)) = a)
theorem e_isUnder {n m : Nat} {k a : Int32} (hk : 0 ≤ k ∧ k ≤ 7) (ha : 0 ≤ a ∧ a ≤ 7) (S : z_Stt) : f_X5_isUnder_4 n (m + 9) a k 0 S = some (uB k a, S) := by
  rcases cs08 hk with rfl | rfl | rfl | rfl | rfl | rfl | rfl | rfl <;> rcases cs08 ha with rfl | rfl | rfl | rfl | rfl | rfl | rfl | rfl <;> rfl
theorem e_taken58 {n m : Nat} {k a : Int32} (hk : 0 ≤ k ∧ k ≤ 7) (ha : 0 ≤ a ∧ a ≤ 7) (d : Int32) (S : z_Stt) : f_X11_taken_58 n (m + 9) d a k S = if uB k a = true then f_X11_taken_75 n d a a S else some (-12, S) := by
  rcases cs08 hk with rfl | rfl | rfl | rfl | rfl | rfl | rfl | rfl <;> rcases cs08 ha with rfl | rfl | rfl | rfl | rfl | rfl | rfl | rfl <;> rfl
theorem fuel9 : ∃ m, FUEL = m + 9 := ⟨3991, rfl⟩
theorem E_taken (a0 : Int32) (a1 : Int32) {S : z_Stt} (h : Inv S) : ∃ (v : Int32) (S1 S2 : z_Stt), f_X10_taken FUEL a0 a1 S = some (v, S1) ∧ f_X11_taken FUEL a0 a1 S1 = some (v, S2) ∧ Inv S2 := by
  obtain ⟨m, hm⟩ := fuel9
  rw [hm]
  obtain ⟨⟨g1, g2, g3⟩, g4, g5, g6⟩ := h.2.2.2.2.2.1
  by_cases ha : 0 ≤ a0 ∧ a0 ≤ 5
  · obtain ⟨w, r⟩ := h.2.2.2.2.2.2 _ (d6 ha)
    have v6a := v6 ha
    by_cases hb : 0 ≤ a1 ∧ a1 ≤ 7
    · have eH : S.1 (100 * (36 + 2 * a0.toNatClampNeg) + 0) = shH S a0.toNatClampNeg := rfl
      have eG : S.1 (100 * (36 + 2 * a0.toNatClampNeg) + 1) = shG S a0.toNatClampNeg := rfl
      rcases w.1 with c | c | c
      · refine ⟨-11, S, S, ?_, ?_, h⟩
        · simp only [f_X10_taken, e_isShelf10, decide_eq_true ha, g_bds, if_true, e_within10, decide_eq_true hb, vp_6, if_pos v6a, eH, if_pos c]
        · have q := r.1 c
          simp only [f_X11_taken, e_isShelf11, decide_eq_true ha, g_bds, if_true, e_w_0_7, decide_eq_true hb, vp_6, if_pos v6a, q]
          rfl
      · have q := r.2.1 c
        have g := w.2.1 c
        have c0 : ¬ shH S a0.toNatClampNeg = 0 := by rw [c]; decide +kernel
        have g50 : 0 ≤ shG S a0.toNatClampNeg ∧ shG S a0.toNatClampNeg < 50 := ⟨g.1, by lia⟩
        have gk : 0 ≤ S.2.2.1 33 (shG S a0.toNatClampNeg).toNatClampNeg ∧ S.2.2.1 33 (shG S a0.toNatClampNeg).toNatClampNeg ≤ 7 := by
          refine g2 _ ?_
          have t1 := tn g.1
          have t2 := tn g1.1
          have t3 := g.2
          rw [Int32.lt_iff_toInt_lt] at t3
          omega
        refine ⟨if uB (S.2.2.1 33 (shG S a0.toNatClampNeg).toNatClampNeg) a1 = true then S.2.2.1 33 (shG S a0.toNatClampNeg).toNatClampNeg else -12, S, S, ?_, ?_, h⟩
        · simp only [f_X10_taken, e_isShelf10, decide_eq_true ha, g_bds, if_true, e_within10, decide_eq_true hb, vp_6, if_pos v6a, eH, eG, if_neg c0, if_pos c, e_isGoer, decide_eq_true g, vp_50, if_pos g50, f_X5_isUnder, e_isUnder gk hb]
          split <;> rfl
        · simp only [f_X11_taken, e_isShelf11, decide_eq_true ha, g_bds, if_true, e_w_0_7, decide_eq_true hb, vp_6, if_pos v6a, q, if_pos g.1, if_pos g50.2, if_pos (by lia : shG S a0.toNatClampNeg < 50), f_X11_kindOf, vp_50, if_pos g50, g4, e_taken58 gk hb, f_X11_taken_75]
          split <;> rfl
      · have q := (r.2.2 c).1
        have so := (w.2.2 c).1
        have c0 : ¬ shH S a0.toNatClampNeg = 0 := by rw [c]; decide +kernel
        have c1 : ¬ shH S a0.toNatClampNeg = 1 := by rw [c]; decide +kernel
        refine ⟨-12, S, S, ?_, ?_, h⟩
        · simp only [f_X10_taken, e_isShelf10, decide_eq_true ha, g_bds, if_true, e_within10, decide_eq_true hb, vp_6, if_pos v6a, eH, if_neg c0, if_neg c1]
        · simp only [f_X11_taken, e_isShelf11, decide_eq_true ha, g_bds, if_true, e_w_0_7, decide_eq_true hb, vp_6, if_pos v6a, q, if_pos (by lia : 0 ≤ 50 + shS S a0.toNatClampNeg), if_neg (by lia : ¬ 50 + shS S a0.toNatClampNeg < 50)]
    · refine ⟨-1, S, S, ?_, ?_, h⟩
      · simp only [f_X10_taken, e_isShelf10, decide_eq_true ha, g_bds, if_true, e_within10, decide_eq_false hb, Bool.false_eq_true, if_false]
      · simp only [f_X11_taken, e_isShelf11, decide_eq_true ha, g_bds, if_true, e_w_0_7, decide_eq_false hb, Bool.false_eq_true, if_false]
  · refine ⟨-1, S, S, ?_, ?_, h⟩
    · simp only [f_X10_taken, e_isShelf10, decide_eq_false ha, g_bds, Bool.false_eq_true, if_false]
    · simp only [f_X11_taken, e_isShelf11, decide_eq_false ha, g_bds, Bool.false_eq_true, if_false]
