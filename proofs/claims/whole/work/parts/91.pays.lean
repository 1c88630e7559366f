/-! PAYS: bounds of what is weighed -/
theorem opB_ok {S : z_Stt} (h : Inv S) {t : Int32} (m : Int32) (ht : 0 ≤ t ∧ t < 6) : 0 ≤ (opB S t m).toInt ∧ (opB S t m).toInt ≤ 3456 := by
  have f := fV_ok h ht
  have a := opN_ok h m ht
  have f2 : 0 ≤ 144 - vAt S (6 * 0 + t) ∧ 144 - vAt S (6 * 0 + t) ≤ 144 := by generalize vAt S (6 * 0 + t) = x at f; lia
  have q := mul64 f2 (trP_ok h m ht)
  rw [← opB_e f, Int64.toInt_add, q.1, Int.bmod_eq_of_le (by omega) (by omega)]
  omega
theorem hV_ok {S : z_Stt} (h : Inv S) {t : Int32} (ht : 0 ≤ t ∧ t < 6) : 0 ≤ vAt S (6 * 3 + t) ∧ vAt S (6 * 3 + t) ≤ 999 := by
  have q := ixT (k := 3) (by decide +kernel) ht
  have v := vAt_ok h.1 ⟨q.1, q.2.1⟩
  have e : (6 : Int32) * 3 = 18 := rfl
  rw [e] at q v ⊢
  rw [if_neg (by lia), if_neg (by lia), if_pos (by lia)] at v
  exact v
theorem prV_ok {S : z_Stt} (h : Inv S) {a : Int32} (ha : 0 ≤ a ∧ a ≤ 99) : 0 ≤ (prV S a).toInt ∧ (prV S a).toInt ≤ 19602 := by
  have p := h.1.1.2.1 36 (by decide)
  have e : mostAt 36 = 99 := rfl
  rw [e] at p
  have h1 := rg ha
  have h2 := rg p
  have i99 : (99 : Int32).toInt = 99 := rfl
  have i2 : (2 : Int32).toInt = 2 := rfl
  rw [z0_32, i99] at h1 h2
  have e1 : (2 * a).toInt = 2 * a.toInt := by rw [ti_mul (by rw [i2]; omega), i2]
  unfold prV
  have l : 0 ≤ (2 * a.toInt) * (S.2.2.1 2 36).toInt := Int.mul_nonneg (by omega) h2.1
  have u : (2 * a.toInt) * (S.2.2.1 2 36).toInt ≤ 198 * 99 := Int.mul_le_mul (by omega) h2.2 h2.1 (by omega)
  rw [ti_mul (by rw [e1]; omega), e1]
  omega
