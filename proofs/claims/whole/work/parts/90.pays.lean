/-! PAYS: reduced and unreduced compare alike -/
theorem pay_iff {g n b h k : Int} (hg : 0 < g) : g * n * h - k * (g * b) ≤ 0 ↔ n * h ≤ k * b := by
  have e : g * n * h - k * (g * b) = g * (n * h - k * b) := by grind
  rw [e]
  constructor
  · intro q
    by_cases c : n * h ≤ k * b
    · exact c
    · have := Int.mul_pos hg (show 0 < n * h - k * b by omega)
      omega
  · intro q
    exact Int.mul_nonpos_of_nonneg_of_nonpos (by omega) (by omega)
theorem divg {a b : Int64} (ha : 0 ≤ a.toInt) (hb : 0 < b) : ∃ g n c : Int, 0 < g ∧ a.toInt = g * n ∧ b.toInt = g * c ∧ (gV a b).toInt = g ∧ (a / gV a b).toInt = n ∧ (b / gV a b).toInt = c ∧ 0 ≤ n ∧ n ≤ a.toInt ∧ 0 < c ∧ c ≤ b.toInt := by
  have hb' := hb
  rw [Int64.lt_iff_toInt_lt, z0_64] at hb'
  have g1 : Nat.gcd a.toInt.natAbs b.toInt.natAbs ≤ b.toInt.natAbs := Nat.gcd_le_right _ (by omega)
  have g2 : 0 < Nat.gcd a.toInt.natAbs b.toInt.natAbs := Nat.gcd_pos_of_pos_right _ (by omega)
  have q := b.toInt_lt
  have q2 := a.toInt_lt
  have eg : (gV a b).toInt = (Nat.gcd a.toInt.natAbs b.toInt.natAbs : Nat) := by
    unfold gV; rw [Int64.toInt_ofNat_of_lt (by omega)]
  obtain ⟨n, hn⟩ := Nat.gcd_dvd_left a.toInt.natAbs b.toInt.natAbs
  obtain ⟨c, hc⟩ := Nat.gcd_dvd_right a.toInt.natAbs b.toInt.natAbs
  generalize Nat.gcd a.toInt.natAbs b.toInt.natAbs = G at *
  have ea : a.toInt = (G : Int) * (n : Int) := by
    have : (a.toInt.natAbs : Int) = ((G * n : Nat) : Int) := by rw [← hn]
    rw [Int.natCast_mul] at this
    omega
  have eb : b.toInt = (G : Int) * (c : Int) := by
    have : (b.toInt.natAbs : Int) = ((G * c : Nat) : Int) := by rw [← hc]
    rw [Int.natCast_mul] at this
    omega
  have gp : (0 : Int) < (G : Int) := by omega
  have n0 : (0 : Int) ≤ (n : Int) := by omega
  have cp : (0 : Int) < (c : Int) := by
    rcases Nat.eq_zero_or_pos c with z | z
    · subst z; rw [eb] at hb'; simp at hb'
    · omega
  have na : (n : Int) ≤ a.toInt := by
    rw [ea]; have := Int.mul_le_mul_of_nonneg_right (show (1 : Int) ≤ (G : Int) by omega) n0; omega
  have cb : (c : Int) ≤ b.toInt := by
    rw [eb]; have := Int.mul_le_mul_of_nonneg_right (show (1 : Int) ≤ (G : Int) by omega) (Int.le_of_lt cp); omega
  refine ⟨G, n, c, gp, ea, eb, eg, ?_, ?_, n0, na, cp, cb⟩
  · rw [Int64.toInt_div, eg, Int.tdiv_eq_ediv_of_nonneg ha, ea, Int.mul_ediv_cancel_left _ (by omega), Int.bmod_eq_of_le (by omega) (by omega)]
  · rw [Int64.toInt_div, eg, Int.tdiv_eq_ediv_of_nonneg (by omega), eb, Int.mul_ediv_cancel_left _ (by omega), Int.bmod_eq_of_le (by omega) (by omega)]
