/-! WORTH, LIST, TWO, EVER: a fraction in lowest terms, of both sides -/
theorem cmpn0 {x : Int64} (h : ¬ x = 0) : ¬ lg_cmp x 0 = 0 := by rw [cmp0]; exact h
theorem cmpe0 {x : Int64} (h : x = 0) : lg_cmp x 0 = 0 := by rw [cmp0]; exact h
def ptV (nn bb : Int64) (a : Int32) : Int64 := if a = 0 then nn / gV nn bb else bb / gV nn bb
def frS (S : z_Stt) (nn bb : Int64) : z_Stt := sJ (sJ S (100 * 17 + 0) (nn / gV nn bb)) (100 * 17 + 1) (bb / gV nn bb)
theorem e_fr10 {n : Nat} {nn bb : Int64} (hn : 92 < n) (h0 : -9223372036854775808 < nn.toInt) (h1 : 0 < bb) (S : z_Stt) : f_X4_become n 17 nn bb S = some (true, frS S nn bb) := e_become4 hn h0 h1 S
theorem e_ptf (nn bb : Int64) (a : Int32) (S : z_Stt) : f_X4_part 17 a (frS S nn bb) = some (ptV nn bb a, frS S nn bb) := e_part a S
theorem e_pt11 {n : Nat} {nn bb : Int64} {a : Int32} (hn : 92 < n) (h0 : -9223372036854775808 < nn.toInt) (h1 : 0 < bb) (ha : 0 ≤ a ∧ a ≤ 1) (S : z_Stt) : f_X11_partOf n nn bb a S = some (ptV nn bb a, S) := by
  rw [e_partOf a hn h0 h1, part_same h1 ha]; rfl
theorem gV_scale {X Y X' Y' : Int64} {g : Int} (hg : 0 < g) (hX : X.toInt = g * X'.toInt) (hY : Y.toInt = g * Y'.toInt) (hp : 0 < Y.toInt) (a : Int32) : ptV X Y a = ptV X' Y' a := by
  have q := Y.toInt_lt
  have g1 : Nat.gcd X.toInt.natAbs Y.toInt.natAbs ≤ Y.toInt.natAbs := Nat.gcd_le_right _ (by omega)
  have y1 : 0 < Y'.toInt := by
    by_cases c : 0 < Y'.toInt
    · exact c
    · have := Int.mul_nonpos_of_nonneg_of_nonpos (Int.le_of_lt hg) (Int.not_lt.mp c)
      omega
  have q' := Y'.toInt_lt
  have g2 : Nat.gcd X'.toInt.natAbs Y'.toInt.natAbs ≤ Y'.toInt.natAbs := Nat.gcd_le_right _ (by omega)
  have g3 : 0 < Nat.gcd X'.toInt.natAbs Y'.toInt.natAbs := Nat.gcd_pos_of_pos_right _ (by omega)
  have e1 : (gV X Y).toInt = (Nat.gcd X.toInt.natAbs Y.toInt.natAbs : Nat) := by unfold gV; rw [Int64.toInt_ofNat_of_lt (by omega)]
  have e2 : (gV X' Y').toInt = (Nat.gcd X'.toInt.natAbs Y'.toInt.natAbs : Nat) := by unfold gV; rw [Int64.toInt_ofNat_of_lt (by omega)]
  have e3 : (gV X Y).toInt = g * (gV X' Y').toInt := by
    rw [e1, e2, hX, hY, Int.natAbs_mul, Int.natAbs_mul, Nat.gcd_mul_left, Int.natCast_mul]
    congr 1
    omega
  have d1 : X / gV X Y = X' / gV X' Y' := by
    rw [← Int64.toInt_inj, Int64.toInt_div, Int64.toInt_div, e3, hX, Int.mul_tdiv_mul_of_pos _ _ hg]
  have d2 : Y / gV X Y = Y' / gV X' Y' := by
    rw [← Int64.toInt_inj, Int64.toInt_div, Int64.toInt_div, e3, hY, Int.mul_tdiv_mul_of_pos _ _ hg]
  unfold ptV
  rw [d1, d2]
theorem i64lt {x : Int64} : (0 < x) = (0 < x.toInt) := by rw [Int64.lt_iff_toInt_lt, z0_64]
theorem i64le {x : Int64} : (0 ≤ x) = (0 ≤ x.toInt) := by rw [Int64.le_iff_toInt_le, z0_64]
/-- product and difference of longs that are small -/
theorem tj_mul {a b : Int64} (h : -9223372036854775808 ≤ a.toInt * b.toInt ∧ a.toInt * b.toInt < 9223372036854775808) : (a * b).toInt = a.toInt * b.toInt := by
  rw [Int64.toInt_mul]; exact Int.bmod_eq_of_le (by omega) (by omega)
theorem tj_add {a b : Int64} (h : -9223372036854775808 ≤ a.toInt + b.toInt ∧ a.toInt + b.toInt < 9223372036854775808) : (a + b).toInt = a.toInt + b.toInt := by
  rw [Int64.toInt_add]; exact Int.bmod_eq_of_le (by omega) (by omega)
theorem tj_sub {a b : Int64} (h : -9223372036854775808 ≤ a.toInt - b.toInt ∧ a.toInt - b.toInt < 9223372036854775808) : (a - b).toInt = a.toInt - b.toInt := by
  rw [Int64.toInt_sub]; exact Int.bmod_eq_of_le (by omega) (by omega)
theorem worth_same {nn bb h k : Int64} (hn : 0 ≤ nn.toInt ∧ nn.toInt ≤ 1728) (hb : 0 < bb) (hb2 : bb.toInt ≤ 3456) (hh : 0 ≤ h.toInt ∧ h.toInt ≤ 999) (hk : 0 ≤ k.toInt ∧ k.toInt ≤ 19602) : -9223372036854775808 < (nn / gV nn bb * h - k * (bb / gV nn bb)).toInt ∧ 0 < bb / gV nn bb ∧ -9223372036854775808 < (nn * h - k * bb).toInt ∧ ∀ a, ptV (nn / gV nn bb * h - k * (bb / gV nn bb)) (bb / gV nn bb) a = ptV (nn * h - k * bb) bb a := by
  obtain ⟨g, n, c, gp, ea, eb, eg, en, ec, n0, n1, c0, c1⟩ := divg hn.1 hb
  have m1 : 0 ≤ n * h.toInt := Int.mul_nonneg n0 hh.1
  have m2 : n * h.toInt ≤ 1728 * 999 := Int.mul_le_mul (by omega) hh.2 hh.1 (by omega)
  have m3 : 0 ≤ k.toInt * c := Int.mul_nonneg hk.1 (by omega)
  have m4 : k.toInt * c ≤ 19602 * 3456 := Int.mul_le_mul hk.2 (by omega) (by omega) (by omega)
  have m5 : 0 ≤ nn.toInt * h.toInt := Int.mul_nonneg hn.1 hh.1
  have m6 : nn.toInt * h.toInt ≤ 1728 * 999 := Int.mul_le_mul hn.2 hh.2 hh.1 (by omega)
  have hb' := hb
  rw [i64lt] at hb'
  have m7 : 0 ≤ k.toInt * bb.toInt := Int.mul_nonneg hk.1 (by omega)
  have m8 : k.toInt * bb.toInt ≤ 19602 * 3456 := Int.mul_le_mul hk.2 hb2 (by omega) (by omega)
  have w1 : (nn / gV nn bb * h - k * (bb / gV nn bb)).toInt = n * h.toInt - k.toInt * c := by
    have a1 : (nn / gV nn bb * h).toInt = n * h.toInt := by rw [tj_mul (by rw [en]; omega), en]
    have a2 : (k * (bb / gV nn bb)).toInt = k.toInt * c := by rw [tj_mul (by rw [ec]; omega), ec]
    rw [tj_sub (by rw [a1, a2]; omega), a1, a2]
  have w2 : (nn * h - k * bb).toInt = nn.toInt * h.toInt - k.toInt * bb.toInt := by
    have a1 : (nn * h).toInt = nn.toInt * h.toInt := tj_mul (by omega)
    have a2 : (k * bb).toInt = k.toInt * bb.toInt := tj_mul (by omega)
    rw [tj_sub (by rw [a1, a2]; omega), a1, a2]
  refine ⟨by rw [w1]; omega, by rw [i64lt, ec]; exact c0, by rw [w2]; omega, fun a => (gV_scale gp ?_ ?_ hb' a).symm⟩
  · rw [w1, w2, ea, eb]; grind
  · rw [ec]; exact eb
theorem E_worth (a0 : Int32) (a1 : Int32) (a2 : Int32) {S : z_Stt} (h : Inv S) : ∃ (v : Int64) (S1 S2 : z_Stt), f_X10_worth FUEL a0 a1 a2 S = some (v, S1) ∧ f_X11_worth FUEL a0 a1 a2 S1 = some (v, S2) ∧ Inv S2 := by
  have f92 : 92 < FUEL := by decide +kernel
  generalize FUEL = F at *
  suffices z : ∃ v S1, f_X10_worth F a0 a1 a2 S = some (v, S1) ∧ (agQ S S1 → ∃ S2, f_X11_worth F a0 a1 a2 S1 = some (v, S2)) by
    obtain ⟨v, S1, z1, z2⟩ := z
    have a := fq_X10_worth _ _ _ _ z1
    obtain ⟨S2, z3⟩ := z2 a
    exact ⟨v, S1, S2, z1, z3, (h.quiet a).quiet (fq_X11_worth _ _ _ _ z3)⟩
  obtain ⟨hw, e1, e2⟩ := h.1
  by_cases g0 : 0 ≤ a0 ∧ a0 / 10 < S.1 101 ∧ a0 % 10 ≤ 2
  · by_cases g1 : 0 ≤ a1 ∧ a1 ≤ 99
    · by_cases g2 : 0 ≤ a2 ∧ a2 ≤ 1
      · have t0 := (dvk (k := 10) g0.1 (by decide +kernel)).1
        have t6 : 0 ≤ a0 / 10 ∧ a0 / 10 < 6 := ⟨t0, lt_of6 g0.2.1 hw.1.2⟩
        have nb := opN_ok h (a0 % 10) t6
        have bk := opB_ok h (a0 % 10) t6
        have hv := rg (hV_ok h t6)
        have pv := prV_ok h g1
        have i999 : (999 : Int32).toInt = 999 := rfl
        rw [z0_32, i999] at hv
        have hN : -9223372036854775808 < (opN S (a0 / 10) (a0 % 10)).toInt := by omega
        have fo := e_findOpen (n := F) (o := 17) (m := a0 % 10) (S := S) ⟨t0, g0.2.1⟩ t6.2
        have r11 : ∀ T, agQ S T → f_X11_worthWays a0 a1 T = some (opN S (a0 / 10) (a0 % 10) * (vAt S (6 * 3 + a0 / 10)).toInt64 - (prV S a1).toInt64 * opB S (a0 / 10) (a0 % 10), sJ (sJ T 4811 (opN S (a0 / 10) (a0 % 10))) 4812 (opB S (a0 / 10) (a0 % 10))) := fun T a => q_ww h a a1 t6
        generalize opN S (a0 / 10) (a0 % 10) = nn at *
        generalize opB S (a0 / 10) (a0 % 10) = bb at *
        by_cases c : 0 < bb
        · rw [e_fr10 f92 hN c] at fo
          obtain ⟨s1, s2, s3, s4⟩ := worth_same (h := (vAt S (6 * 3 + a0 / 10)).toInt64) (k := (prV S a1).toInt64) nb c bk.2 (by rw [Int32.toInt_toInt64]; exact hv) (by rw [Int32.toInt_toInt64]; exact pv)
          have u1 : f_X9_ofThing 3 (a0 / 10) (frS S nn bb) = some (vAt S (6 * 3 + a0 / 10), frS S nn bb) := e_ofT (S := frS S nn bb) 3 ⟨t0, g0.2.1⟩
          have u2 : f_X10_wayBack a1 (frS S nn bb) = some (prV S a1, frS S nn bb) := e_wayBack a1 (frS S nn bb)
          have u3 : (frS S nn bb).2.1 1700 = nn / gV nn bb := rKa _ _ _
          have u4 : (frS S nn bb).2.1 1701 = bb / gV nn bb := rKb _ _ _
          apply qd
          · unfold f_X10_worth
            rw [e_tm10, g_bds, decide_eq_true g0, if_pos rfl, e_within10, g_bds, decide_eq_true g1, if_pos rfl, e_within10, g_bds, decide_eq_true g2, if_pos rfl, fo, g_bds, if_pos rfl, u1, g_bds, u2, g_bds, u3, u4, e_fr10 f92 s1 s2, g_bds, e_ptf, g_bds]
          · intro a
            have w := r11 _ a
            generalize frS (frS S nn bb) (nn / gV nn bb * (vAt S (6 * 3 + a0 / 10)).toInt64 - (prV S a1).toInt64 * (bb / gV nn bb)) (bb / gV nn bb) = T at *
            apply qe
            unfold f_X11_worth
            rw [e_tr11 a0 (q_h4 h a), g_bds, q_4806 h a, decide_eq_true g0, if_pos rfl, e_isYards, g_bds, decide_eq_true g1, if_pos rfl, e_isPart, g_bds, decide_eq_true g2, if_pos rfl, w, g_bds, rJb, if_neg (cmpn0 (lt0n c)), e_pt11 f92 s3 c g2, g_bds, ← s4 a2]
        · rw [e_becomeN c] at fo
          have bz := nlt0 c bk.1
          apply qd (v := -2)
          · unfold f_X10_worth
            rw [e_tm10, g_bds, decide_eq_true g0, if_pos rfl, e_within10, g_bds, decide_eq_true g1, if_pos rfl, e_within10, g_bds, decide_eq_true g2, if_pos rfl, fo, g_bds, if_neg (by decide)]
          · intro a
            have w := r11 _ a
            generalize sJ (sJ S (100 * 17 + 0) 0) (100 * 17 + 1) 1 = T at *
            apply qe
            unfold f_X11_worth
            rw [e_tr11 a0 (q_h4 h a), g_bds, q_4806 h a, decide_eq_true g0, if_pos rfl, e_isYards, g_bds, decide_eq_true g1, if_pos rfl, e_isPart, g_bds, decide_eq_true g2, if_pos rfl, w, g_bds, rJb, if_pos (cmpe0 bz)]
      · refine ⟨-9223372036854775808, S, ?_, fun a => ⟨S, ?_⟩⟩
        · unfold f_X10_worth
          rw [e_tm10, g_bds, decide_eq_true g0, if_pos rfl, e_within10, g_bds, decide_eq_true g1, if_pos rfl, e_within10, g_bds, decide_eq_false g2, if_neg (by decide)]
        · unfold f_X11_worth
          rw [e_tr11 a0 (q_h4 h a), g_bds, q_4806 h a, decide_eq_true g0, if_pos rfl, e_isYards, g_bds, decide_eq_true g1, if_pos rfl, e_isPart, g_bds, decide_eq_false g2, if_neg (by decide)]
    · refine ⟨-9223372036854775808, S, ?_, fun a => ⟨S, ?_⟩⟩
      · unfold f_X10_worth
        rw [e_tm10, g_bds, decide_eq_true g0, if_pos rfl, e_within10, g_bds, decide_eq_false g1, if_neg (by decide)]
      · unfold f_X11_worth
        rw [e_tr11 a0 (q_h4 h a), g_bds, q_4806 h a, decide_eq_true g0, if_pos rfl, e_isYards, g_bds, decide_eq_false g1, if_neg (by decide)]
  · refine ⟨-9223372036854775808, S, ?_, fun a => ⟨S, ?_⟩⟩
    · unfold f_X10_worth
      rw [e_tm10, g_bds, decide_eq_false g0, if_neg (by decide)]
    · unfold f_X11_worth
      rw [e_tr11 a0 (q_h4 h a), g_bds, q_4806 h a, decide_eq_false g0, if_neg (by decide)]
