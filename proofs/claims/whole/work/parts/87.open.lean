/-! OPEN: how likely it is, of both sides -/
def stP (S : z_Stt) (t m : Int32) : Int32 := if m = 2 then 1 else if m = 1 then stV S t else 12 - stV S t
def trP (S : z_Stt) (t m : Int32) : Int32 := if m = 2 then 1 else if m = 1 then trV S t else 12 - trV S t
def opN (S : z_Stt) (t m : Int32) : Int64 := (vAt S (6 * 0 + t)).toInt64 * (stP S t m).toInt64
def opB (S : z_Stt) (t m : Int32) : Int64 := opN S t m + (144 - (vAt S (6 * 0 + t)).toInt64) * (trP S t m).toInt64
theorem one64 : (1 : Int32).toInt64 = 1 := rfl
theorem e_findOpen {n o : Nat} {t m : Int32} {S : z_Stt} (ht : 0 ≤ t ∧ t < S.1 101) (h6 : t < 6) : f_X10_findOpen n t m o S = f_X4_become n o (opN S t m) (opB S t m) S := by
  have fin : ∀ r : Option (Bool × z_Stt), (g_bd r fun v12 S13 => some (v12, S13)) = r := by
    intro r
    cases r with
    | none => rfl
    | some q => rfl
  by_cases c2 : m = 2
  · have en : opN S t m = (vAt S (6 * 0 + t)).toInt64 := by unfold opN stP; rw [if_pos c2, one64, Int64.mul_one]
    have eb : opB S t m = 144 := by unfold opB trP; rw [if_pos c2, en, one64]; grind
    rw [en, eb]
    simp only [f_X10_findOpen, e_ofT _ ht, g_bds, if_pos c2, fin]
  · by_cases c1 : m = 1
    · have e1 : stP S t m = stV S t := by unfold stP; rw [if_neg c2, if_pos c1]
      have e2 : trP S t m = trV S t := by unfold trP; rw [if_neg c2, if_pos c1]
      simp only [f_X10_findOpen, f_X10_findOpen_50, f_X10_findOpen_75, e_ofT _ ht, e_trace10 ht, e_stale10 ht h6, g_bds, if_neg c2, if_pos c1, fin, opB, opN, e1, e2]
    · have e1 : stP S t m = 12 - stV S t := by unfold stP; rw [if_neg c2, if_neg c1]
      have e2 : trP S t m = 12 - trV S t := by unfold trP; rw [if_neg c2, if_neg c1]
      simp only [f_X10_findOpen, f_X10_findOpen_50, f_X10_findOpen_75, e_ofT _ ht, e_trace10 ht, e_stale10 ht h6, g_bds, if_neg c2, if_neg c1, fin, opB, opN, e1, e2]
theorem sub144 {a : Int32} (h : 0 ≤ a ∧ a ≤ 144) : (144 - a).toInt64 = 144 - a.toInt64 := by
  have q := rg h
  have i144 : (144 : Int32).toInt = 144 := rfl
  have j144 : (144 : Int64).toInt = 144 := rfl
  rw [z0_32, i144] at q
  rw [← Int64.toInt_inj, Int32.toInt_toInt64, Int32.toInt_sub, Int64.toInt_sub, Int32.toInt_toInt64, i144, j144, Int.bmod_eq_of_le (by omega) (by omega), Int.bmod_eq_of_le (by omega) (by omega)]
theorem e_ask69 {x3 x4 y0 : Int32} {nn bb : Int64} (en : x3.toInt64 * x4.toInt64 = nn) (eb : nn + (144 - x3).toInt64 * y0.toInt64 = bb) (U : z_Stt) : f_X11_asksOpen_69 x3 x4 y0 U = some (decide (¬ bb ≤ 0), sJ (sJ U 4811 nn) 4812 bb) := by
  simp only [f_X11_asksOpen_69, g_let, en, rI, rI2, rJ1, rJ2, rJ3, rA1, rA2, rA3, rA4, rE1, rE2, rE3, rE4, rE5, rR1, rR2, rR3, rR4, rR5, Nat.reduceEqDiff, reduceIte, eb, cmple]
  by_cases c : bb ≤ 0
  · rw [if_pos c, decide_eq_false (fun q => q c)]
  · rw [if_neg c, decide_eq_true c]
theorem opB_e {t m : Int32} {S : z_Stt} (hF : 0 ≤ vAt S (6 * 0 + t) ∧ vAt S (6 * 0 + t) ≤ 144) : opN S t m + (144 - vAt S (6 * 0 + t)).toInt64 * (trP S t m).toInt64 = opB S t m := by
  unfold opB; rw [sub144 hF]
theorem opN_e {t m : Int32} {S : z_Stt} : (vAt S (6 * 0 + t)).toInt64 * (stP S t m).toInt64 = opN S t m := by unfold opN; rfl
theorem e_asksOpen {t m : Int32} {S T : z_Stt} (h1 : T.2.2.1 49 = S.2.2.1 2) (h2 : T.2.2.1 53 = S.2.2.1 8) (ht : 0 ≤ t ∧ t < 6) (hF : 0 ≤ vAt S (6 * 0 + t) ∧ vAt S (6 * 0 + t) ≤ 144) : f_X11_asksOpen t m T = some (decide (¬ opB S t m ≤ 0), sJ (sJ T 4811 (opN S t m)) 4812 (opB S t m)) := by
  have e69 := e_ask69 (opN_e (t := t) (m := m) (S := S)) (opB_e (m := m) hF)
  generalize opB S t m = bb at *
  generalize opN S t m = nn at *
  by_cases c2 : m = 2
  · have e1 : stP S t m = 1 := by unfold stP; rw [if_pos c2]
    have e2 : trP S t m = 1 := by unfold trP; rw [if_pos c2]
    rw [e1, e2] at e69
    unfold f_X11_asksOpen
    rw [e_nrG h1 (k := 0) (by decide +kernel) ht, g_bds, if_pos c2]
    unfold f_X11_asksOpen_37
    rw [if_pos c2, e69]
  · by_cases c1 : m = 1
    · have e1 : stP S t m = stV S t := by unfold stP; rw [if_neg c2, if_pos c1]
      have e2 : trP S t m = trV S t := by unfold trP; rw [if_neg c2, if_pos c1]
      rw [e1, e2] at e69
      unfold f_X11_asksOpen
      rw [e_nrG h1 (k := 0) (by decide +kernel) ht, g_bds, if_neg c2, if_pos c1, e_staleG h1 h2 ht, g_bds]
      unfold f_X11_asksOpen_37
      rw [if_neg c2, if_pos c1, e_traceG h1 ht, g_bds, e69]
    · have e1 : stP S t m = 12 - stV S t := by unfold stP; rw [if_neg c2, if_neg c1]
      have e2 : trP S t m = 12 - trV S t := by unfold trP; rw [if_neg c2, if_neg c1]
      rw [e1, e2] at e69
      unfold f_X11_asksOpen
      rw [e_nrG h1 (k := 0) (by decide +kernel) ht, g_bds, if_neg c2, if_neg c1, e_staleG h1 h2 ht, g_bds]
      unfold f_X11_asksOpen_37
      rw [if_neg c2, if_neg c1, e_traceG h1 ht, g_bds, e69]
