/-! OPEN: the call -/
theorem stV_ok {S : z_Stt} (h : Inv S) {t : Int32} (ht : 0 ≤ t ∧ t < 6) : 0 ≤ stV S t ∧ stV S t ≤ 12 := by
  have q := ixT (k := 2) (by decide +kernel) ht
  have v := vAt_ok h.1 ⟨q.1, q.2.1⟩
  have d := (h.2.2.1.1.1 _ (ix_l ht)).1
  have e : (6 : Int32) * 2 = 12 := rfl
  rw [e] at q v
  unfold stV
  split
  · exact d
  · rw [if_neg (by lia), if_pos (by lia)] at v
    rw [e]; exact v
theorem trV_ok {S : z_Stt} (h : Inv S) {t : Int32} (ht : 0 ≤ t ∧ t < 6) : 0 ≤ trV S t ∧ trV S t ≤ 12 := by
  have q := ixT (k := 1) (by decide +kernel) ht
  have v := vAt_ok h.1 ⟨q.1, q.2.1⟩
  have e : (6 : Int32) * 1 = 6 := rfl
  rw [e] at q v
  unfold trV
  split
  · decide +kernel
  · rw [if_neg (by lia), if_pos (by lia)] at v
    rw [e]; exact v
theorem stP_ok {S : z_Stt} (h : Inv S) {t : Int32} (m : Int32) (ht : 0 ≤ t ∧ t < 6) : 0 ≤ stP S t m ∧ stP S t m ≤ 12 := by
  have := stV_ok h ht
  unfold stP; generalize stV S t = x at *; grind
theorem trP_ok {S : z_Stt} (h : Inv S) {t : Int32} (m : Int32) (ht : 0 ≤ t ∧ t < 6) : 0 ≤ trP S t m ∧ trP S t m ≤ 12 := by
  have := trV_ok h ht
  unfold trP; generalize trV S t = x at *; grind
theorem fV_ok {S : z_Stt} (h : Inv S) {t : Int32} (ht : 0 ≤ t ∧ t < 6) : 0 ≤ vAt S (6 * 0 + t) ∧ vAt S (6 * 0 + t) ≤ 144 := by
  have q := ixT (k := 0) (by decide +kernel) ht
  have v := vAt_ok h.1 ⟨q.1, q.2.1⟩
  have e : (6 : Int32) * 0 = 0 := rfl
  rw [e] at q v ⊢
  rw [if_pos (by lia)] at v
  exact v
theorem mul64 {a b : Int32} (ha : 0 ≤ a ∧ a ≤ 144) (hb : 0 ≤ b ∧ b ≤ 12) : (a.toInt64 * b.toInt64).toInt = a.toInt * b.toInt ∧ 0 ≤ a.toInt * b.toInt ∧ a.toInt * b.toInt ≤ 1728 := by
  have h1 := rg ha
  have h2 := rg hb
  have i144 : (144 : Int32).toInt = 144 := rfl
  have i12 : (12 : Int32).toInt = 12 := rfl
  rw [z0_32, i144] at h1
  rw [z0_32, i12] at h2
  have l : 0 ≤ a.toInt * b.toInt := Int.mul_nonneg h1.1 h2.1
  have u : a.toInt * b.toInt ≤ 144 * 12 := Int.mul_le_mul h1.2 h2.2 h2.1 (by omega)
  refine ⟨?_, l, by omega⟩
  rw [Int64.toInt_mul, Int32.toInt_toInt64, Int32.toInt_toInt64, Int.bmod_eq_of_le (by omega) (by omega)]
theorem opN_ok {S : z_Stt} (h : Inv S) {t : Int32} (m : Int32) (ht : 0 ≤ t ∧ t < 6) : 0 ≤ (opN S t m).toInt ∧ (opN S t m).toInt ≤ 1728 := by
  have q := mul64 (fV_ok h ht) (stP_ok h m ht)
  unfold opN
  rw [q.1]; exact q.2
theorem gV_0 {b : Int64} (hb : 0 < b) : (0 : Int64) / gV 0 b = 0 ∧ b / gV 0 b = 1 := by
  have hb' := hb
  rw [Int64.lt_iff_toInt_lt, z0_64] at hb'
  have e : gV 0 b = b := by
    unfold gV
    rw [z0_64]
    show Int64.ofNat (Nat.gcd 0 b.toInt.natAbs) = b
    rw [Nat.gcd_zero_left]
    exact (abs_p (Int64.le_of_lt hb)).symm
  rw [e]
  refine ⟨Int64.zero_div, ?_⟩
  have j1 : (1 : Int64).toInt = 1 := rfl
  rw [← Int64.toInt_inj, Int64.toInt_div, j1, Int.tdiv_self (by omega)]
  rfl
theorem e_part {x y : Int64} (a : Int32) (S : z_Stt) : f_X4_part 17 a (sJ (sJ S (100 * 17 + 0) x) (100 * 17 + 1) y) = some (if a = 0 then x else y, sJ (sJ S (100 * 17 + 0) x) (100 * 17 + 1) y) := by
  unfold f_X4_part
  split
  · refine some_ext ?_ rfl
    show (if 1700 = 1701 then y else if 1700 = 1700 then x else _) = x
    rw [if_neg (by decide), if_pos rfl]
  · refine some_ext ?_ rfl
    show (if 1701 = 1701 then y else _) = y
    rw [if_pos rfl]
theorem part_same {nn bb : Int64} {a2 : Int32} (hb : 0 < bb) (ha : 0 ≤ a2 ∧ a2 ≤ 1) : (if nn = 0 then a2.toInt64 else if a2 = 0 then nn / gV nn bb else bb / gV nn bb) = if a2 = 0 then nn / gV nn bb else bb / gV nn bb := by
  by_cases z : nn = 0
  · subst z
    rw [if_pos rfl, (gV_0 hb).1, (gV_0 hb).2]
    have c : a2 = 0 ∨ a2 = 1 := by lia
    rcases c with rfl | rfl <;> rfl
  · rw [if_neg z]
theorem e_becomeN {n o : Nat} {a0 a1 : Int64} (h1 : ¬ 0 < a1) (S : z_Stt) : f_X4_become n o a0 a1 S = some (false, sJ (sJ S (100 * o + 0) 0) (100 * o + 1) 1) := by
  simp only [f_X4_become, cmpg, if_neg h1, g_let]
theorem e_isPart (a : Int32) (S : z_Stt) : f_X11_isPart a S = some (decide (0 ≤ a ∧ a ≤ 1), S) := by
  simp only [f_X11_isPart, e_w_0_1, g_bds]
