/-! LIST, TWO, EVER -/
theorem E_list (a0 : Int32) (a1 : Int32) {S : z_Stt} (h : Inv S) : ∃ (v : Int64) (S1 S2 : z_Stt), f_X10_list FUEL a0 a1 S = some (v, S1) ∧ f_X11_list FUEL a0 a1 S1 = some (v, S2) ∧ Inv S2 := by
  have f92 : 92 < FUEL := by decide +kernel
  generalize FUEL = F at *
  suffices z : ∃ v S1, f_X10_list F a0 a1 S = some (v, S1) ∧ (agQ S S1 → ∃ S2, f_X11_list F a0 a1 S1 = some (v, S2)) by
    obtain ⟨v, S1, z1, z2⟩ := z
    have a := fq_X10_list _ _ _ z1
    obtain ⟨S2, z3⟩ := z2 a
    exact ⟨v, S1, S2, z1, z3, (h.quiet a).quiet (fq_X11_list _ _ _ z3)⟩
  obtain ⟨hw, e1, e2⟩ := h.1
  by_cases n0 : a0 < 0
  · refine ⟨-9223372036854775808, S, ?_, fun a => ⟨S, ?_⟩⟩
    · unfold f_X10_list; rw [if_pos n0]
    · unfold f_X11_list; rw [if_pos n0]
  · obtain ⟨t0, t1, d3, d4⟩ := dvk (k := 100) (Int32.not_lt.mp n0) (by decide +kernel)
    by_cases g0 : a0 / 100 < S.1 101
    · have g0' : 0 ≤ a0 / 100 ∧ a0 / 100 < S.1 101 := ⟨t0, g0⟩
      have t6 : 0 ≤ a0 / 100 ∧ a0 / 100 < 6 := ⟨t0, lt_of6 g0 hw.1.2⟩
      by_cases g1 : a0 % 100 ≤ 12
      · have g1' : 0 ≤ a0 % 100 ∧ a0 % 100 ≤ 12 := ⟨d3, g1⟩
        have ng : ¬ 12 < a0 % 100 := Int32.not_lt.mpr g1
        by_cases g2 : 0 ≤ a1 ∧ a1 ≤ 1
        · have f := fV_ok h t6
          have m1 := mul64 f g1'
          have f2 : 0 ≤ 144 - vAt S (6 * 0 + a0 / 100) ∧ 144 - vAt S (6 * 0 + a0 / 100) ≤ 144 := by generalize vAt S (6 * 0 + a0 / 100) = x at f; lia
          have m2 := mul64 f2 (b := 12) (by decide +kernel)
          have j12 : (12 : Int32).toInt64 = 12 := rfl
          have s144 := sub144 f
          have u1 : f_X9_ofThing 0 (a0 / 100) S = some (vAt S (6 * 0 + a0 / 100), S) := e_ofT (S := S) 0 g0'
          have u2 : ∀ T, agQ S T → f_X11_numberOf (a0 / 100) 0 T = some (vAt S (6 * 0 + a0 / 100), T) := fun T a => e_nrG (q_49 h a) (k := 0) (by decide +kernel) t6
          rw [j12, s144] at m2
          generalize vAt S (6 * 0 + a0 / 100) = x at *
          have eb := tj_add (a := x.toInt64 * (a0 % 100).toInt64) (b := (144 - x.toInt64) * 12) (by rw [m1.1, m2.1]; omega)
          rw [m1.1, m2.1] at eb
          have eN : -9223372036854775808 < (x.toInt64 * (a0 % 100).toInt64).toInt := by rw [m1.1]; omega
          have i12 : (12 : Int32).toInt = 12 := rfl
          rw [i12] at m2 eb
          have m3 : 0 ≤ (x.toInt64 * (a0 % 100).toInt64 + (144 - x.toInt64) * 12).toInt := by rw [eb]; omega
          by_cases c : 0 < x.toInt64 * (a0 % 100).toInt64 + (144 - x.toInt64) * 12
          · apply qd
            · unfold f_X10_list
              rw [if_neg n0, e_isThing10, g_bds, decide_eq_true g0', if_pos rfl, e_within10, g_bds, decide_eq_true g1', if_pos rfl, e_within10, g_bds, decide_eq_true g2, if_pos rfl, u1, g_bds, e_fr10 f92 eN c, g_bds, if_pos rfl, e_ptf, g_bds]
            · intro a
              apply qe
              unfold f_X11_list
              rw [if_neg n0, e_isThing11 _ (q_h4 h a), g_bds, q_4806 h a, decide_eq_true g0', if_pos rfl, if_neg ng, e_isPart, g_bds, decide_eq_true g2, if_pos rfl, u2 _ a, g_bds, s144, if_neg (cmpn0 (lt0n c)), e_pt11 f92 eN c g2, g_bds]
          · have bz := nlt0 c m3
            apply qd (v := -2)
            · unfold f_X10_list
              rw [if_neg n0, e_isThing10, g_bds, decide_eq_true g0', if_pos rfl, e_within10, g_bds, decide_eq_true g1', if_pos rfl, e_within10, g_bds, decide_eq_true g2, if_pos rfl, u1, g_bds, e_becomeN c, g_bds, if_neg (by decide)]
            · intro a
              apply qe
              unfold f_X11_list
              rw [if_neg n0, e_isThing11 _ (q_h4 h a), g_bds, q_4806 h a, decide_eq_true g0', if_pos rfl, if_neg ng, e_isPart, g_bds, decide_eq_true g2, if_pos rfl, u2 _ a, g_bds, s144, if_pos (cmpe0 bz)]
        · refine ⟨-9223372036854775808, S, ?_, fun a => ⟨S, ?_⟩⟩
          · unfold f_X10_list
            rw [if_neg n0, e_isThing10, g_bds, decide_eq_true g0', if_pos rfl, e_within10, g_bds, decide_eq_true g1', if_pos rfl, e_within10, g_bds, decide_eq_false g2, if_neg (by decide)]
          · unfold f_X11_list
            rw [if_neg n0, e_isThing11 _ (q_h4 h a), g_bds, q_4806 h a, decide_eq_true g0', if_pos rfl, if_neg ng, e_isPart, g_bds, decide_eq_false g2, if_neg (by decide)]
      · have g1' : ¬ (0 ≤ a0 % 100 ∧ a0 % 100 ≤ 12) := fun q => g1 q.2
        have ng : 12 < a0 % 100 := Int32.not_le.mp g1
        refine ⟨-9223372036854775808, S, ?_, fun a => ⟨S, ?_⟩⟩
        · unfold f_X10_list
          rw [if_neg n0, e_isThing10, g_bds, decide_eq_true g0', if_pos rfl, e_within10, g_bds, decide_eq_false g1', if_neg (by decide)]
        · unfold f_X11_list
          rw [if_neg n0, e_isThing11 _ (q_h4 h a), g_bds, q_4806 h a, decide_eq_true g0', if_pos rfl, if_pos ng]
    · have g0' : ¬ (0 ≤ a0 / 100 ∧ a0 / 100 < S.1 101) := fun q => g0 q.2
      refine ⟨-9223372036854775808, S, ?_, fun a => ⟨S, ?_⟩⟩
      · unfold f_X10_list
        rw [if_neg n0, e_isThing10, g_bds, decide_eq_false g0', if_neg (by decide)]
      · unfold f_X11_list
        rw [if_neg n0, e_isThing11 _ (q_h4 h a), g_bds, q_4806 h a, decide_eq_false g0', if_neg (by decide)]
theorem t64_min (x : Int32) : -9223372036854775808 < x.toInt64.toInt := by
  rw [Int32.toInt_toInt64]; have := x.le_toInt; omega
theorem E_two (a0 : Int32) (a1 : Int32) (a2 : Int32) {S : z_Stt} (h : Inv S) : ∃ (v : Int64) (S1 S2 : z_Stt), f_X10_two FUEL a0 a1 a2 S = some (v, S1) ∧ f_X11_two FUEL a0 a1 a2 S1 = some (v, S2) ∧ Inv S2 := by
  have f92 : 92 < FUEL := by decide +kernel
  generalize FUEL = F at *
  suffices z : ∃ v S1, f_X10_two F a0 a1 a2 S = some (v, S1) ∧ (agQ S S1 → ∃ S2, f_X11_two F a0 a1 a2 S1 = some (v, S2)) by
    obtain ⟨v, S1, z1, z2⟩ := z
    have a := fq_X10_two _ _ _ _ z1
    obtain ⟨S2, z3⟩ := z2 a
    exact ⟨v, S1, S2, z1, z3, (h.quiet a).quiet (fq_X11_two _ _ _ _ z3)⟩
  have p144 : (0 : Int64) < 144 := by decide +kernel
  by_cases n0 : a0 < 0
  · refine ⟨-9223372036854775808, S, ?_, fun a => ⟨S, ?_⟩⟩
    · unfold f_X10_two; rw [if_pos n0]
    · unfold f_X11_two; rw [if_pos n0]
  · obtain ⟨t0, t1, d3, d4⟩ := dvk (k := 100) (Int32.not_lt.mp n0) (by decide +kernel)
    by_cases g0 : a0 / 100 ≤ 12
    · have g0' : 0 ≤ a0 / 100 ∧ a0 / 100 ≤ 12 := ⟨t0, g0⟩
      have n1 : ¬ 12 < a0 / 100 := Int32.not_lt.mpr g0
      by_cases g1 : a0 % 100 ≤ 12
      · have g1' : 0 ≤ a0 % 100 ∧ a0 % 100 ≤ 12 := ⟨d3, g1⟩
        have n2 : ¬ 12 < a0 % 100 := Int32.not_lt.mpr g1
        by_cases g2 : 0 ≤ a1 ∧ a1 ≤ 3
        · by_cases g3 : 0 ≤ a2 ∧ a2 ≤ 1
          · have c10 : ∀ x : Int32, (g_bd (f_X4_become F 17 x.toInt64 144 S) fun _ S2 => f_X10_two_183 F a2 S2) = some (ptV x.toInt64 144 a2, frS S x.toInt64 144) := fun x => by
              rw [e_fr10 f92 (t64_min x) p144, g_bds]; unfold f_X10_two_183; rw [e_ptf, g_bds]
            have c11 : ∀ (x : Int32) T, f_X11_two_114 F a2 x T = some (ptV x.toInt64 144 a2, T) := fun x T => by
              unfold f_X11_two_114; rw [e_pt11 f92 (t64_min x) p144 g3, g_bds]
            have b10 : f_X10_two F a0 a1 a2 S = if a1 = 0 then g_bd (f_X4_become F 17 ((12 - a0 / 100) * (12 - a0 % 100)).toInt64 144 S) fun _ S2 => f_X10_two_183 F a2 S2 else if a1 = 1 then g_bd (f_X4_become F 17 (144 - (12 - a0 / 100) * (12 - a0 % 100) - a0 / 100 * (a0 % 100)).toInt64 144 S) fun _ S2 => f_X10_two_183 F a2 S2 else if a1 = 2 then g_bd (f_X4_become F 17 (a0 / 100 * (a0 % 100)).toInt64 144 S) fun _ S2 => f_X10_two_183 F a2 S2 else g_bd (f_X4_become F 17 ((12 - a0 / 100) * (12 - a0 % 100) + a0 / 100 * (a0 % 100)).toInt64 144 S) fun _ S2 => f_X10_two_183 F a2 S2 := by
              unfold f_X10_two
              rw [if_neg n0, e_within10, g_bds, decide_eq_true g0', if_pos rfl, e_within10, g_bds, decide_eq_true g1', if_pos rfl, e_within10, g_bds, decide_eq_true g2, if_pos rfl, e_within10, g_bds, decide_eq_true g3, if_pos rfl]
            have b11 : ∀ T, f_X11_two F a0 a1 a2 T = if a1 = 0 then f_X11_two_114 F a2 ((12 - a0 / 100) * (12 - a0 % 100)) T else if a1 = 1 then f_X11_two_114 F a2 (144 - (12 - a0 / 100) * (12 - a0 % 100) - a0 / 100 * (a0 % 100)) T else if a1 = 2 then f_X11_two_114 F a2 (a0 / 100 * (a0 % 100)) T else f_X11_two_114 F a2 ((12 - a0 / 100) * (12 - a0 % 100) + a0 / 100 * (a0 % 100)) T := by
              intro T
              unfold f_X11_two
              rw [if_neg n0, if_neg n1, if_neg n2, e_w_0_3, g_bds, decide_eq_true g2, if_pos rfl, e_isPart, g_bds, decide_eq_true g3, if_pos rfl]
            simp only [c10] at b10
            simp only [c11] at b11
            by_cases k0 : a1 = 0
            · rw [if_pos k0] at b10
              exact ⟨_, _, b10, fun _ => ⟨_, by rw [b11, if_pos k0]⟩⟩
            · rw [if_neg k0] at b10
              by_cases k1 : a1 = 1
              · rw [if_pos k1] at b10
                exact ⟨_, _, b10, fun _ => ⟨_, by rw [b11, if_neg k0, if_pos k1]⟩⟩
              · rw [if_neg k1] at b10
                by_cases k2 : a1 = 2
                · rw [if_pos k2] at b10
                  exact ⟨_, _, b10, fun _ => ⟨_, by rw [b11, if_neg k0, if_neg k1, if_pos k2]⟩⟩
                · rw [if_neg k2] at b10
                  exact ⟨_, _, b10, fun _ => ⟨_, by rw [b11, if_neg k0, if_neg k1, if_neg k2]⟩⟩
          · refine ⟨-9223372036854775808, S, ?_, fun a => ⟨S, ?_⟩⟩
            · unfold f_X10_two
              rw [if_neg n0, e_within10, g_bds, decide_eq_true g0', if_pos rfl, e_within10, g_bds, decide_eq_true g1', if_pos rfl, e_within10, g_bds, decide_eq_true g2, if_pos rfl, e_within10, g_bds, decide_eq_false g3, if_neg (by decide)]
            · unfold f_X11_two
              rw [if_neg n0, if_neg n1, if_neg n2, e_w_0_3, g_bds, decide_eq_true g2, if_pos rfl, e_isPart, g_bds, decide_eq_false g3, if_neg (by decide)]
        · refine ⟨-9223372036854775808, S, ?_, fun a => ⟨S, ?_⟩⟩
          · unfold f_X10_two
            rw [if_neg n0, e_within10, g_bds, decide_eq_true g0', if_pos rfl, e_within10, g_bds, decide_eq_true g1', if_pos rfl, e_within10, g_bds, decide_eq_false g2, if_neg (by decide)]
          · unfold f_X11_two
            rw [if_neg n0, if_neg n1, if_neg n2, e_w_0_3, g_bds, decide_eq_false g2, if_neg (by decide)]
      · have g1' : ¬ (0 ≤ a0 % 100 ∧ a0 % 100 ≤ 12) := fun q => g1 q.2
        have n2 : 12 < a0 % 100 := Int32.not_le.mp g1
        refine ⟨-9223372036854775808, S, ?_, fun a => ⟨S, ?_⟩⟩
        · unfold f_X10_two
          rw [if_neg n0, e_within10, g_bds, decide_eq_true g0', if_pos rfl, e_within10, g_bds, decide_eq_false g1', if_neg (by decide)]
        · unfold f_X11_two
          rw [if_neg n0, if_neg n1, if_pos n2]
    · have g0' : ¬ (0 ≤ a0 / 100 ∧ a0 / 100 ≤ 12) := fun q => g0 q.2
      have n1 : 12 < a0 / 100 := Int32.not_le.mp g0
      refine ⟨-9223372036854775808, S, ?_, fun a => ⟨S, ?_⟩⟩
      · unfold f_X10_two
        rw [if_neg n0, e_within10, g_bds, decide_eq_false g0', if_neg (by decide)]
      · unfold f_X11_two
        rw [if_neg n0, if_pos n1]
/-- both loops of EVER go alike -/
theorem e_ever (n : Nat) {x3 x1 : Int32} {x4 : Int64} {S T0 : z_Stt} (hn : 92 < n) (ha : 0 ≤ x3 ∧ x3 ≤ 1) (h4 : 0 ≤ x4.toInt ∧ x4.toInt ≤ 144) {v5 : Int32} (hv : (144 - v5).toInt64 = x4) (hnr : ∀ T, agQ T0 T → f_X11_numberOf x1 0 T = some (v5, T)) : ∀ (j m : Nat) (x2 x10 : Int32) (x6 x8 : Int64), x10.toInt + j = x2.toInt → 0 ≤ x10.toInt → j < m → 0 ≤ x8.toInt → x8.toInt ≤ x6.toInt → 0 < x6.toInt → x6.toInt * 144 ^ j ≤ 144 ^ 7 → ∃ v S', f_X10_ever_54 n m x2 x3 x4 x6 x8 x10 S = some (v, S') ∧ ∀ T, agQ T0 T → f_X11_ever_41 n m x1 x2 x3 x8 x6 x10 T = some (v, T) := by
  intro j
  have j144 : (144 : Int64).toInt = 144 := rfl
  induction j with
  | zero =>
    intro m x2 x10 x6 x8 hx h0 hm b1 b2 b3 b4
    obtain ⟨m, rfl⟩ : ∃ m', m = m' + 1 := ⟨m - 1, by omega⟩
    have c : x2 ≤ x10 := by rw [Int32.le_iff_toInt_le]; omega
    have s : (x6 - x8).toInt = x6.toInt - x8.toInt := tj_sub (by omega)
    have p : 0 < x6 := by rw [i64lt]; exact b3
    have q : -9223372036854775808 < (x6 - x8).toInt := by rw [s]; omega
    apply qd
    · rw [f_X10_ever_54, if_pos c, e_fr10 hn q p, g_bds, e_ptf, g_bds]
    · intro T a
      rw [f_X11_ever_41, if_pos c, e_pt11 hn q p ha, g_bds]
  | succ j ih =>
    intro m x2 x10 x6 x8 hx h0 hm b1 b2 b3 b4
    obtain ⟨m, rfl⟩ : ∃ m', m = m' + 1 := ⟨m - 1, by omega⟩
    have c : ¬ x2 ≤ x10 := by rw [Int32.le_iff_toInt_le]; omega
    have e1 : (x6.toInt * 144) * 144 ^ j = x6.toInt * 144 ^ (j + 1) := by rw [Int.pow_succ]; grind
    have e2 : (1 : Int) ≤ 144 ^ j := Int.pow_pos (by decide)
    have e3 : x6.toInt * 144 ≤ 144 ^ 7 := by
      have := Int.mul_le_mul_of_nonneg_left e2 (show 0 ≤ x6.toInt * 144 by omega)
      omega
    have s1 : (x6 * 144).toInt = x6.toInt * 144 := by rw [tj_mul (by rw [j144]; omega), j144]
    have k1 : 0 ≤ x8.toInt * x4.toInt := Int.mul_nonneg b1 h4.1
    have k2 : x8.toInt * x4.toInt ≤ x6.toInt * 144 := Int.mul_le_mul b2 h4.2 h4.1 (by omega)
    have s2 : (x8 * x4).toInt = x8.toInt * x4.toInt := tj_mul (by omega)
    have lt : x10 < x2 := Int32.not_le.mp c
    obtain ⟨v, S', z1, z2⟩ := ih m x2 (x10 + 1) (x6 * 144) (x8 * x4) (by rw [inc32 lt]; omega) (by rw [inc32 lt]; omega) (by omega) (by rw [s2]; exact k1) (by rw [s1, s2]; exact k2) (by rw [s1]; omega) (by rw [s1, e1]; exact b4)
    refine ⟨v, S', ?_, fun T a => ?_⟩
    · rw [f_X10_ever_54, if_neg c]; exact z1
    · rw [f_X11_ever_41, if_neg c, hnr T a, g_bds, hv]; exact z2 T a
theorem E_ever (a0 : Int32) (a1 : Int32) (a2 : Int32) {S : z_Stt} (h : Inv S) : ∃ (v : Int64) (S1 S2 : z_Stt), f_X10_ever FUEL a0 a1 a2 S = some (v, S1) ∧ f_X11_ever FUEL a0 a1 a2 S1 = some (v, S2) ∧ Inv S2 := by
  have f92 : 92 < FUEL := by decide +kernel
  generalize FUEL = F at *
  suffices z : ∃ v S1, f_X10_ever F a0 a1 a2 S = some (v, S1) ∧ (agQ S S1 → ∃ S2, f_X11_ever F a0 a1 a2 S1 = some (v, S2)) by
    obtain ⟨v, S1, z1, z2⟩ := z
    have a := fq_X10_ever _ _ _ _ z1
    obtain ⟨S2, z3⟩ := z2 a
    exact ⟨v, S1, S2, z1, z3, (h.quiet a).quiet (fq_X11_ever _ _ _ _ z3)⟩
  obtain ⟨hw, e1, e2⟩ := h.1
  by_cases g0 : 0 ≤ a0 ∧ a0 < S.1 101
  · have t6 : 0 ≤ a0 ∧ a0 < 6 := ⟨g0.1, lt_of6 g0.2 hw.1.2⟩
    by_cases g1 : 0 ≤ a1 ∧ a1 ≤ 7
    · by_cases g2 : 0 ≤ a2 ∧ a2 ≤ 1
      · have f := fV_ok h t6
        have u1 : f_X9_ofThing 0 a0 S = some (vAt S (6 * 0 + a0), S) := e_ofT (S := S) 0 g0
        have u2 : ∀ T, agQ S T → f_X11_numberOf a0 0 T = some (vAt S (6 * 0 + a0), T) := fun T a => e_nrG (q_49 h a) (k := 0) (by decide +kernel) t6
        have r1 := rg g1
        have i7 : (7 : Int32).toInt = 7 := rfl
        rw [z0_32, i7] at r1
        have f2 : 0 ≤ 144 - vAt S (6 * 0 + a0) ∧ 144 - vAt S (6 * 0 + a0) ≤ 144 := by generalize vAt S (6 * 0 + a0) = x at f; lia
        have r2 := rg f2
        have i144 : (144 : Int32).toInt = 144 := rfl
        rw [z0_32, i144] at r2
        generalize vAt S (6 * 0 + a0) = x at *
        obtain ⟨j, hj⟩ : ∃ j : Nat, a1.toInt = j := ⟨a1.toInt.toNat, by omega⟩
        have pw : (1 : Int64).toInt * 144 ^ j ≤ 144 ^ 7 := by
          have : j = 0 ∨ j = 1 ∨ j = 2 ∨ j = 3 ∨ j = 4 ∨ j = 5 ∨ j = 6 ∨ j = 7 := by omega
          rcases this with e | e | e | e | e | e | e | e <;> subst e <;> decide +kernel
        obtain ⟨v, S', z1, z2⟩ := e_ever F (S := S) (T0 := S) (x1 := a0) f92 g2 (x4 := (144 - x).toInt64) (by rw [Int32.toInt_toInt64]; exact r2) rfl u2 j F a1 0 1 1 (by rw [hj, z0_32]; omega) (by decide +kernel) (by omega) (by decide +kernel) (by decide +kernel) (by decide +kernel) pw
        refine ⟨v, S', ?_, fun a => ⟨S', ?_⟩⟩
        · unfold f_X10_ever
          rw [e_isThing10, g_bds, decide_eq_true g0, if_pos rfl, e_within10, g_bds, decide_eq_true g1, if_pos rfl, e_within10, g_bds, decide_eq_true g2, if_pos rfl, u1, g_bds]
          exact z1
        · unfold f_X11_ever
          rw [e_isThing11 _ (q_h4 h a), g_bds, q_4806 h a, decide_eq_true g0, if_pos rfl, e_w_0_7, g_bds, decide_eq_true g1, if_pos rfl, e_isPart, g_bds, decide_eq_true g2, if_pos rfl]
          exact z2 S' a
      · refine ⟨-9223372036854775808, S, ?_, fun a => ⟨S, ?_⟩⟩
        · unfold f_X10_ever
          rw [e_isThing10, g_bds, decide_eq_true g0, if_pos rfl, e_within10, g_bds, decide_eq_true g1, if_pos rfl, e_within10, g_bds, decide_eq_false g2, if_neg (by decide)]
        · unfold f_X11_ever
          rw [e_isThing11 _ (q_h4 h a), g_bds, q_4806 h a, decide_eq_true g0, if_pos rfl, e_w_0_7, g_bds, decide_eq_true g1, if_pos rfl, e_isPart, g_bds, decide_eq_false g2, if_neg (by decide)]
    · refine ⟨-9223372036854775808, S, ?_, fun a => ⟨S, ?_⟩⟩
      · unfold f_X10_ever
        rw [e_isThing10, g_bds, decide_eq_true g0, if_pos rfl, e_within10, g_bds, decide_eq_false g1, if_neg (by decide)]
      · unfold f_X11_ever
        rw [e_isThing11 _ (q_h4 h a), g_bds, q_4806 h a, decide_eq_true g0, if_pos rfl, e_w_0_7, g_bds, decide_eq_false g1, if_neg (by decide)]
  · refine ⟨-9223372036854775808, S, ?_, fun a => ⟨S, ?_⟩⟩
    · unfold f_X10_ever
      rw [e_isThing10, g_bds, decide_eq_false g0, if_neg (by decide)]
    · unfold f_X11_ever
      rw [e_isThing11 _ (q_h4 h a), g_bds, q_4806 h a, decide_eq_false g0, if_neg (by decide)]
