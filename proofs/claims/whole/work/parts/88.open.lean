/-! OPEN: the call -/
theorem stV_ok {S : z_Stt} (h : Inv S) {t : Int32} (ht : 0 ≤ t ∧ t < 6) : 0 ≤ stV S t ∧ stV S t ≤ 12 := by
  have q := ixT (k := 2) (by decide +kernel) ht
  have v := vAt_ok h.1 ⟨q.1, q.2.1⟩
  have d := (h.2.2.1.1.1 _ (ix_l ht)).1
  have e : (6 : Int32) * 2 = 12 := rfl
  rw [e] at q v
  unfold stV
  split
  · exact d
  · rw [if_neg (by lia), if_pos (by lia)] at v
    rw [e]; exact v
theorem trV_ok {S : z_Stt} (h : Inv S) {t : Int32} (ht : 0 ≤ t ∧ t < 6) : 0 ≤ trV S t ∧ trV S t ≤ 12 := by
  have q := ixT (k := 1) (by decide +kernel) ht
  have v := vAt_ok h.1 ⟨q.1, q.2.1⟩
  have e : (6 : Int32) * 1 = 6 := rfl
  rw [e] at q v
  unfold trV
  split
  · decide +kernel
  · rw [if_neg (by lia), if_pos (by lia)] at v
    rw [e]; exact v
theorem stP_ok {S : z_Stt} (h : Inv S) {t : Int32} (m : Int32) (ht : 0 ≤ t ∧ t < 6) : 0 ≤ stP S t m ∧ stP S t m ≤ 12 := by
  have := stV_ok h ht
  unfold stP; generalize stV S t = x at *; grind
theorem trP_ok {S : z_Stt} (h : Inv S) {t : Int32} (m : Int32) (ht : 0 ≤ t ∧ t < 6) : 0 ≤ trP S t m ∧ trP S t m ≤ 12 := by
  have := trV_ok h ht
  unfold trP; generalize trV S t = x at *; grind
theorem fV_ok {S : z_Stt} (h : Inv S) {t : Int32} (ht : 0 ≤ t ∧ t < 6) : 0 ≤ vAt S (6 * 0 + t) ∧ vAt S (6 * 0 + t) ≤ 144 := by
  have q := ixT (k := 0) (by decide +kernel) ht
  have v := vAt_ok h.1 ⟨q.1, q.2.1⟩
  have e : (6 : Int32) * 0 = 0 := rfl
  rw [e] at q v ⊢
  rw [if_pos (by lia)] at v
  exact v
theorem mul64 {a b : Int32} (ha : 0 ≤ a ∧ a ≤ 144) (hb : 0 ≤ b ∧ b ≤ 12) : (a.toInt64 * b.toInt64).toInt = a.toInt * b.toInt ∧ 0 ≤ a.toInt * b.toInt ∧ a.toInt * b.toInt ≤ 1728 := by
  have h1 := rg ha
  have h2 := rg hb
  have i144 : (144 : Int32).toInt = 144 := rfl
  have i12 : (12 : Int32).toInt = 12 := rfl
  rw [z0_32, i144] at h1
  rw [z0_32, i12] at h2
  have l : 0 ≤ a.toInt * b.toInt := Int.mul_nonneg h1.1 h2.1
  have u : a.toInt * b.toInt ≤ 144 * 12 := Int.mul_le_mul h1.2 h2.2 h2.1 (by omega)
  refine ⟨?_, l, by omega⟩
  rw [Int64.toInt_mul, Int32.toInt_toInt64, Int32.toInt_toInt64, Int.bmod_eq_of_le (by omega) (by omega)]
theorem opN_ok {S : z_Stt} (h : Inv S) {t : Int32} (m : Int32) (ht : 0 ≤ t ∧ t < 6) : 0 ≤ (opN S t m).toInt ∧ (opN S t m).toInt ≤ 1728 := by
  have q := mul64 (fV_ok h ht) (stP_ok h m ht)
  unfold opN
  rw [q.1]; exact q.2
theorem gV_0 {b : Int64} (hb : 0 < b) : (0 : Int64) / gV 0 b = 0 ∧ b / gV 0 b = 1 := by
  have hb' := hb
  rw [Int64.lt_iff_toInt_lt, z0_64] at hb'
  have e : gV 0 b = b := by
    unfold gV
    rw [z0_64]
    show Int64.ofNat (Nat.gcd 0 b.toInt.natAbs) = b
    rw [Nat.gcd_zero_left]
    exact (abs_p (Int64.le_of_lt hb)).symm
  rw [e]
  refine ⟨Int64.zero_div, ?_⟩
  have j1 : (1 : Int64).toInt = 1 := rfl
  rw [← Int64.toInt_inj, Int64.toInt_div, j1, Int.tdiv_self (by omega)]
  rfl
theorem e_part {x y : Int64} (a : Int32) (S : z_Stt) : f_X4_part 17 a (sJ (sJ S (100 * 17 + 0) x) (100 * 17 + 1) y) = some (if a = 0 then x else y, sJ (sJ S (100 * 17 + 0) x) (100 * 17 + 1) y) := by
  unfold f_X4_part
  split
  · refine some_ext ?_ rfl
    show (if 1700 = 1701 then y else if 1700 = 1700 then x else S.2.1 1700) = x
    rw [if_neg (by decide), if_pos rfl]
  · refine some_ext ?_ rfl
    show (if 1701 = 1701 then y else (if 1701 = 1700 then x else S.2.1 1701)) = y
    rw [if_pos rfl]
theorem part_same {nn bb : Int64} {a2 : Int32} (hb : 0 < bb) (ha : 0 ≤ a2 ∧ a2 ≤ 1) : (if nn = 0 then a2.toInt64 else if a2 = 0 then nn / gV nn bb else bb / gV nn bb) = if a2 = 0 then nn / gV nn bb else bb / gV nn bb := by
  by_cases z : nn = 0
  · subst z
    rw [if_pos rfl, (gV_0 hb).1, (gV_0 hb).2]
    have c : a2 = 0 ∨ a2 = 1 := by lia
    rcases c with rfl | rfl <;> rfl
  · rw [if_neg z]
theorem e_becomeN {n o : Nat} {a0 a1 : Int64} (h1 : ¬ 0 < a1) (S : z_Stt) : f_X4_become n o a0 a1 S = some (false, sJ (sJ S (100 * o + 0) 0) (100 * o + 1) 1) := by
  simp only [f_X4_become, cmpg, if_neg h1, g_let]
theorem e_isPart (a : Int32) (S : z_Stt) : f_X11_isPart a S = some (decide (0 ≤ a ∧ a ≤ 1), S) := by
  simp only [f_X11_isPart, e_w_0_1, g_bds]
theorem e_open10 {n : Nat} {a0 a1 a2 : Int32} {S : z_Stt} (g0 : 0 ≤ a0 ∧ a0 < S.1 101) (h6 : a0 < 6) (g1 : 0 ≤ a1 ∧ a1 ≤ 2) (g2 : 0 ≤ a2 ∧ a2 ≤ 1) {b : Bool} {x y : Int64} (hb : f_X4_become n 17 (opN S a0 a1) (opB S a0 a1) S = some (b, sJ (sJ S (100 * 17 + 0) x) (100 * 17 + 1) y)) : f_X10_open n a0 a1 a2 S = some (if b = true then (if a2 = 0 then x else y) else -2, sJ (sJ S (100 * 17 + 0) x) (100 * 17 + 1) y) := by
  unfold f_X10_open
  rw [e_isThing10, g_bds, decide_eq_true g0, if_pos rfl, e_within10, g_bds, decide_eq_true g1, if_pos rfl, e_within10, g_bds, decide_eq_true g2, if_pos rfl, e_findOpen g0 h6, hb, g_bds]
  cases b with
  | true => rw [if_pos rfl, if_pos rfl, e_part, g_bds]
  | false => rw [if_neg (by decide), if_neg (by decide)]
theorem e_open11 {n : Nat} {a0 a1 a2 : Int32} {T : z_Stt} (h4 : 0 ≤ T.1 4806) (g0 : 0 ≤ a0 ∧ a0 < T.1 4806) (g1 : 0 ≤ a1 ∧ a1 ≤ 2) (g2 : 0 ≤ a2 ∧ a2 ≤ 1) {b : Bool} {x y p : Int64} (hb : f_X11_asksOpen a0 a1 T = some (b, sJ (sJ T 4811 x) 4812 y)) (hp : b = true → ∀ U, f_X11_partOf n x y a2 U = some (p, U)) : f_X11_open n a0 a1 a2 T = some (if b = true then p else -2, sJ (sJ T 4811 x) 4812 y) := by
  have r1 : (sJ (sJ T 4811 x) 4812 y).2.1 4811 = x := by
    show (if 4811 = 4812 then y else if 4811 = 4811 then x else T.2.1 4811) = x
    rw [if_neg (by decide), if_pos rfl]
  have r2 : (sJ (sJ T 4811 x) 4812 y).2.1 4812 = y := by
    show (if 4812 = 4812 then y else (if 4812 = 4811 then x else T.2.1 4812)) = y
    rw [if_pos rfl]
  unfold f_X11_open
  rw [e_isThing11 a0 h4, g_bds, decide_eq_true g0, if_pos rfl, e_w_0_2, g_bds, decide_eq_true g1, if_pos rfl, e_isPart, g_bds, decide_eq_true g2, if_pos rfl, hb, g_bds]
  cases b with
  | true => rw [if_pos rfl, if_pos rfl, r1, r2, hp rfl, g_bds]
  | false => rw [if_neg (by decide), if_neg (by decide)]
theorem E_open (a0 : Int32) (a1 : Int32) (a2 : Int32) {S : z_Stt} (h : Inv S) : ∃ (v : Int64) (S1 S2 : z_Stt), f_X10_open FUEL a0 a1 a2 S = some (v, S1) ∧ f_X11_open FUEL a0 a1 a2 S1 = some (v, S2) ∧ Inv S2 := by
  have f92 : 92 < FUEL := by decide +kernel
  generalize FUEL = F at *
  obtain ⟨hw, e1, e2⟩ := h.1
  have k1 := h.2.2.1.2.1
  by_cases g0 : 0 ≤ a0 ∧ a0 < S.1 101
  · have g0' : 0 ≤ a0 ∧ a0 < S.1 4806 := by rw [e2]; exact g0
    have h4 : 0 ≤ S.1 4806 := by rw [e2]; exact hw.1.1
    by_cases g1 : 0 ≤ a1 ∧ a1 ≤ 2
    · by_cases g2 : 0 ≤ a2 ∧ a2 ≤ 1
      · have t6 : 0 ≤ a0 ∧ a0 < 6 := ⟨g0.1, lt_of6 g0.2 hw.1.2⟩
        have nb := opN_ok h a1 t6
        have ask : ∀ x y, f_X11_asksOpen a0 a1 (sJ (sJ S (100 * 17 + 0) x) (100 * 17 + 1) y) = some (decide (¬ opB S a0 a1 ≤ 0), sJ (sJ (sJ (sJ S (100 * 17 + 0) x) (100 * 17 + 1) y) 4811 (opN S a0 a1)) 4812 (opB S a0 a1)) := fun x y => e_asksOpen (S := S) (T := sJ (sJ S (100 * 17 + 0) x) (100 * 17 + 1) y) e1 k1 t6 (fV_ok h t6)
        have hN : -9223372036854775808 < (opN S a0 a1).toInt := by omega
        have l10 : ∀ b x y, f_X4_become F 17 (opN S a0 a1) (opB S a0 a1) S = some (b, sJ (sJ S (100 * 17 + 0) x) (100 * 17 + 1) y) → f_X10_open F a0 a1 a2 S = some (if b = true then (if a2 = 0 then x else y) else -2, sJ (sJ S (100 * 17 + 0) x) (100 * 17 + 1) y) := fun b x y hb => e_open10 g0 t6.2 g1 g2 hb
        generalize opN S a0 a1 = nn at *
        generalize opB S a0 a1 = bb at *
        by_cases c : 0 < bb
        · have nc : ¬ bb ≤ 0 := Int64.not_le.mpr c
          refine ⟨if a2 = 0 then nn / gV nn bb else bb / gV nn bb, sJ (sJ S (100 * 17 + 0) (nn / gV nn bb)) (100 * 17 + 1) (bb / gV nn bb), sJ (sJ (sJ (sJ S (100 * 17 + 0) (nn / gV nn bb)) (100 * 17 + 1) (bb / gV nn bb)) 4811 nn) 4812 bb, ?_, ?_, ?_⟩
          · rw [l10 true _ _ (e_become4 f92 hN c S), if_pos rfl]
          · have a := ask (nn / gV nn bb) (bb / gV nn bb)
            rw [decide_eq_true nc] at a
            have z := e_open11 (n := F) (a2 := a2) (T := sJ (sJ S (100 * 17 + 0) (nn / gV nn bb)) (100 * 17 + 1) (bb / gV nn bb)) h4 g0' g1 g2 a (fun _ U => e_partOf a2 f92 hN c U)
            rw [if_pos rfl, part_same c g2] at z
            exact z
          · exact ⟨h.1.of rfl rfl rfl rfl, h.2.1.of rfl rfl rfl rfl rfl rfl rfl rfl rfl rfl rfl, h.2.2.1.of rfl rfl rfl rfl rfl rfl rfl rfl rfl rfl rfl rfl rfl rfl rfl, h.2.2.2.1.of rfl rfl rfl rfl rfl rfl rfl rfl rfl rfl rfl rfl, h.2.2.2.2.1.of rfl rfl rfl rfl rfl rfl rfl rfl rfl, h.2.2.2.2.2.1.of rfl rfl rfl rfl rfl rfl rfl rfl, h.2.2.2.2.2.2.of rfl (fun n q1 q2 => by simp only [sI, sJ, sA, sE, sR]; repeat rw [if_neg (by omega)]) (fun n q1 q2 => by simp only [sI, sJ, sA, sE, sR]; repeat rw [if_neg (by omega)]) rfl rfl rfl⟩
        · have nc : ¬ ¬ bb ≤ 0 := fun q => q (Int64.not_lt.mp c)
          refine ⟨-2, sJ (sJ S (100 * 17 + 0) 0) (100 * 17 + 1) 1, sJ (sJ (sJ (sJ S (100 * 17 + 0) 0) (100 * 17 + 1) 1) 4811 nn) 4812 bb, ?_, ?_, ?_⟩
          · rw [l10 false _ _ (e_becomeN c S), if_neg (by decide)]
          · have a := ask 0 1
            rw [decide_eq_false nc] at a
            have z := e_open11 (n := F) (a2 := a2) (p := 0) (T := sJ (sJ S (100 * 17 + 0) 0) (100 * 17 + 1) 1) h4 g0' g1 g2 a (fun q => absurd q (by decide))
            rw [if_neg (by decide)] at z
            exact z
          · exact ⟨h.1.of rfl rfl rfl rfl, h.2.1.of rfl rfl rfl rfl rfl rfl rfl rfl rfl rfl rfl, h.2.2.1.of rfl rfl rfl rfl rfl rfl rfl rfl rfl rfl rfl rfl rfl rfl rfl, h.2.2.2.1.of rfl rfl rfl rfl rfl rfl rfl rfl rfl rfl rfl rfl, h.2.2.2.2.1.of rfl rfl rfl rfl rfl rfl rfl rfl rfl, h.2.2.2.2.2.1.of rfl rfl rfl rfl rfl rfl rfl rfl, h.2.2.2.2.2.2.of rfl (fun n q1 q2 => by simp only [sI, sJ, sA, sE, sR]; repeat rw [if_neg (by omega)]) (fun n q1 q2 => by simp only [sI, sJ, sA, sE, sR]; repeat rw [if_neg (by omega)]) rfl rfl rfl⟩
      · refine ⟨-9223372036854775808, S, S, ?_, ?_, h⟩
        · unfold f_X10_open
          rw [e_isThing10, g_bds, decide_eq_true g0, if_pos rfl, e_within10, g_bds, decide_eq_true g1, if_pos rfl, e_within10, g_bds, decide_eq_false g2, if_neg (by decide)]
        · unfold f_X11_open
          rw [e_isThing11 a0 h4, g_bds, decide_eq_true g0', if_pos rfl, e_w_0_2, g_bds, decide_eq_true g1, if_pos rfl, e_isPart, g_bds, decide_eq_false g2, if_neg (by decide)]
    · refine ⟨-9223372036854775808, S, S, ?_, ?_, h⟩
      · unfold f_X10_open
        rw [e_isThing10, g_bds, decide_eq_true g0, if_pos rfl, e_within10, g_bds, decide_eq_false g1, if_neg (by decide)]
      · unfold f_X11_open
        rw [e_isThing11 a0 h4, g_bds, decide_eq_true g0', if_pos rfl, e_w_0_2, g_bds, decide_eq_false g1, if_neg (by decide)]
  · have g0' : ¬ (0 ≤ a0 ∧ a0 < S.1 4806) := by rw [e2]; exact g0
    have h4 : 0 ≤ S.1 4806 := by rw [e2]; exact hw.1.1
    refine ⟨-9223372036854775808, S, S, ?_, ?_, h⟩
    · unfold f_X10_open
      rw [e_isThing10, g_bds, decide_eq_false g0, if_neg (by decide)]
    · unfold f_X11_open
      rw [e_isThing11 a0 h4, g_bds, decide_eq_false g0', if_neg (by decide)]
