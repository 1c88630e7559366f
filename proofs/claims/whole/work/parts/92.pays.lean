/-! PAYS: the call -/
theorem e_paysBy {t a1 : Int32} {S : z_Stt} {x y : Int64} (ht : 0 ≤ t ∧ t < S.1 101) : f_X10_paysBy 17 t a1 (sJ (sJ S (100 * 17 + 0) x) (100 * 17 + 1) y) = some (decide (¬ 0 ≤ lg_cmp ((prV S a1).toInt64 * y) (x * (vAt S (6 * 3 + t)).toInt64)), sJ (sJ S (100 * 17 + 0) x) (100 * 17 + 1) y) := by
  have r1 : (sJ (sJ S (100 * 17 + 0) x) (100 * 17 + 1) y).2.1 (100 * 17 + 0) = x := by
    show (if 1700 = 1701 then y else if 1700 = 1700 then x else S.2.1 1700) = x
    rw [if_neg (by decide), if_pos rfl]
  have r2 : (sJ (sJ S (100 * 17 + 0) x) (100 * 17 + 1) y).2.1 (100 * 17 + 1) = y := by
    show (if 1701 = 1701 then y else (if 1701 = 1700 then x else S.2.1 1701)) = y
    rw [if_pos rfl]
  have p : prV (sJ (sJ S (100 * 17 + 0) x) (100 * 17 + 1) y) a1 = prV S a1 := rfl
  have v : vAt (sJ (sJ S (100 * 17 + 0) x) (100 * 17 + 1) y) (6 * 3 + t) = vAt S (6 * 3 + t) := rfl
  unfold f_X10_paysBy
  rw [e_wayBack, g_bds, e_ofT (S := sJ (sJ S (100 * 17 + 0) x) (100 * 17 + 1) y) 3 ht, g_bds, r1, r2, p, v]
  by_cases c : 0 ≤ lg_cmp ((prV S a1).toInt64 * y) (x * (vAt S (6 * 3 + t)).toInt64)
  · rw [if_pos c, decide_eq_false (fun q => q c)]
  · rw [if_neg c, decide_eq_true c]
