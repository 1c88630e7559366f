/-! PAYS: bounds of what is weighed -/
theorem opB_ok {S : z_Stt} (h : Inv S) {t : Int32} (m : Int32) (ht : 0 ≤ t ∧ t < 6) : 0 ≤ (opB S t m).toInt ∧ (opB S t m).toInt ≤ 3456 := by
  have f := fV_ok h ht
  have a := opN_ok h m ht
  have f2 : 0 ≤ 144 - vAt S (6 * 0 + t) ∧ 144 - vAt S (6 * 0 + t) ≤ 144 := by generalize vAt S (6 * 0 + t) = x at f; lia
  have q := mul64 f2 (trP_ok h m ht)
  rw [← opB_e f, Int64.toInt_add, q.1, Int.bmod_eq_of_le (by omega) (by omega)]
  omega
theorem hV_ok {S : z_Stt} (h : Inv S) {t : Int32} (ht : 0 ≤ t ∧ t < 6) : 0 ≤ vAt S (6 * 3 + t) ∧ vAt S (6 * 3 + t) ≤ 999 := by
  have q := ixT (k := 3) (by decide +kernel) ht
  have v := vAt_ok h.1 ⟨q.1, q.2.1⟩
  have e : (6 : Int32) * 3 = 18 := rfl
  rw [e] at q v ⊢
  rw [if_neg (by lia), if_neg (by lia), if_pos (by lia)] at v
  exact v
theorem prV_ok {S : z_Stt} (h : Inv S) {a : Int32} (ha : 0 ≤ a ∧ a ≤ 99) : 0 ≤ (prV S a).toInt ∧ (prV S a).toInt ≤ 19602 := by
  have p := h.1.1.2.1 36 (by decide)
  have e : mostAt 36 = 99 := rfl
  rw [e] at p
  have h1 := rg ha
  have h2 := rg p
  have i99 : (99 : Int32).toInt = 99 := rfl
  have i2 : (2 : Int32).toInt = 2 := rfl
  rw [z0_32, i99] at h1 h2
  have e1 : (2 * a).toInt = 2 * a.toInt := by rw [ti_mul (by rw [i2]; omega), i2]
  unfold prV
  have l : 0 ≤ (2 * a.toInt) * (S.2.2.1 2 36).toInt := Int.mul_nonneg (by omega) h2.1
  have u : (2 * a.toInt) * (S.2.2.1 2 36).toInt ≤ 198 * 99 := Int.mul_le_mul (by omega) h2.2 h2.1 (by omega)
  rw [ti_mul (by rw [e1]; omega), e1]
  omega
theorem pays_same {nn bb h k : Int64} (hn : 0 ≤ nn.toInt ∧ nn.toInt ≤ 1728) (hb : 0 < bb) (hb2 : bb.toInt ≤ 3456) (hh : 0 ≤ h.toInt ∧ h.toInt ≤ 999) (hk : 0 ≤ k.toInt ∧ k.toInt ≤ 19602) : (0 ≤ lg_cmp (k * (bb / gV nn bb)) ((nn / gV nn bb) * h)) = (nn * h - k * bb ≤ 0) := by
  obtain ⟨g, n, c, gp, ea, eb, eg, en, ec, n0, n1, c0, c1⟩ := divg hn.1 hb
  have m1 : 0 ≤ n * h.toInt := Int.mul_nonneg n0 hh.1
  have m2 : n * h.toInt ≤ 1728 * 999 := Int.mul_le_mul (by omega) hh.2 hh.1 (by omega)
  have m3 : 0 ≤ k.toInt * c := Int.mul_nonneg hk.1 (by omega)
  have m4 : k.toInt * c ≤ 19602 * 3456 := Int.mul_le_mul hk.2 (by omega) (by omega) (by omega)
  have m5 : 0 ≤ nn.toInt * h.toInt := Int.mul_nonneg hn.1 hh.1
  have m6 : nn.toInt * h.toInt ≤ 1728 * 999 := Int.mul_le_mul hn.2 hh.2 hh.1 (by omega)
  have hb' := hb
  rw [Int64.lt_iff_toInt_lt, z0_64] at hb'
  have m7 : 0 ≤ k.toInt * bb.toInt := Int.mul_nonneg hk.1 (by omega)
  have m8 : k.toInt * bb.toInt ≤ 19602 * 3456 := Int.mul_le_mul hk.2 hb2 (by omega) (by omega)
  refine propext (Iff.trans (lg_cmp_ge _ _) ?_)
  rw [Int64.le_iff_toInt_le, Int64.le_iff_toInt_le, z0_64, Int64.toInt_sub, Int64.toInt_mul, Int64.toInt_mul, Int64.toInt_mul, Int64.toInt_mul, en, ec, Int.bmod_eq_of_le (n := n * h.toInt) (by omega) (by omega), Int.bmod_eq_of_le (n := k.toInt * c) (by omega) (by omega), Int.bmod_eq_of_le (n := nn.toInt * h.toInt) (by omega) (by omega), Int.bmod_eq_of_le (n := k.toInt * bb.toInt) (by omega) (by omega), Int.bmod_eq_of_le (by omega) (by omega)]
  rw [ea, eb]
  exact (pay_iff gp).symm
