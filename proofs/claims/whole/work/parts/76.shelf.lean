/-! SHELVES: written -/
theorem updL_same (f : Nat → Int64) (k : Nat) (x : Int64) : vp_updL f k x k = x := if_pos rfl
theorem updL_ne {f : Nat → Int64} {k j : Nat} {x : Int64} (h : j ≠ k) : vp_updL f k x j = f j := if_neg h
def lowV (so : Int32) (x : Int64) : Int64 := if so = 0 then Int32.toInt64 (Int8.toInt32 (Int32.toInt8 (Int64.toInt32 x))) else if so = 1 then Int32.toInt64 (Int16.toInt32 (Int32.toInt16 (Int64.toInt32 x))) else if so = 2 then Int32.toInt64 (Int64.toInt32 x) else if so = 3 then x else if lg_cmp x 0 = 0 then 0 else 1
theorem le64 {a b : Int64} : a ≤ b ↔ a.toInt ≤ b.toInt := Int64.le_iff_toInt_le
theorem lowV_ok (so : Int32) (x : Int64) : inSort so (lowV so x) := by
  refine ⟨fun h => ?_, fun h => ?_, fun h => ?_, fun h => ?_⟩
  · subst h
    show -128 ≤ Int32.toInt64 (Int8.toInt32 (Int32.toInt8 (Int64.toInt32 x))) ∧ Int32.toInt64 (Int8.toInt32 (Int32.toInt8 (Int64.toInt32 x))) ≤ 127
    rw [le64, le64, Int32.toInt_toInt64, Int8.toInt_toInt32]
    exact ⟨Int8.le_toInt _, by have := Int8.toInt_lt (Int32.toInt8 (Int64.toInt32 x)); exact Int.lt_add_one_iff.mp this⟩
  · subst h
    show -32768 ≤ Int32.toInt64 (Int16.toInt32 (Int32.toInt16 (Int64.toInt32 x))) ∧ Int32.toInt64 (Int16.toInt32 (Int32.toInt16 (Int64.toInt32 x))) ≤ 32767
    rw [le64, le64, Int32.toInt_toInt64, Int16.toInt_toInt32]
    exact ⟨Int16.le_toInt _, by have := Int16.toInt_lt (Int32.toInt16 (Int64.toInt32 x)); exact Int.lt_add_one_iff.mp this⟩
  · subst h
    show -2147483648 ≤ Int32.toInt64 (Int64.toInt32 x) ∧ Int32.toInt64 (Int64.toInt32 x) ≤ 2147483647
    rw [le64, le64, Int32.toInt_toInt64]
    exact ⟨Int32.le_toInt _, by have := Int32.toInt_lt (Int64.toInt32 x); exact Int.lt_add_one_iff.mp this⟩
  · subst h
    show (if lg_cmp x 0 = 0 then (0 : Int64) else 1) = 0 ∨ (if lg_cmp x 0 = 0 then (0 : Int64) else 1) = 1
    split
    · exact Or.inl rfl
    · exact Or.inr rfl
theorem e_lowestBits {d : Nat} (x : Int64) (S : z_Stt) : f_X8_lowestBits (36 + 2 * d) x S = some (lowV (shS S d) x, S) := by
  have e : S.1 (100 * (36 + 2 * d) + 2) = shS S d := rfl
  simp only [f_X8_lowestBits, e, lowV]
  grind
theorem e_asSort {so : Int32} (h : 0 ≤ so ∧ so ≤ 4) (x : Int64) (S : z_Stt) : f_X11_asSort so x S = some (lowV so x, S) := by
  have c : so = 0 ∨ so = 1 ∨ so = 2 ∨ so = 3 ∨ so = 4 := by grind
  unfold f_X11_asSort lowV
  rcases c with rfl | rfl | rfl | rfl | rfl
  · rfl
  · rfl
  · rfl
  · rfl
  · rw [if_neg (by decide +kernel), if_neg (by decide +kernel), if_neg (by decide +kernel), if_pos rfl, if_neg (by decide +kernel : ¬ (4 : Int32) = 0), if_neg (by decide +kernel : ¬ (4 : Int32) = 1), if_neg (by decide +kernel : ¬ (4 : Int32) = 2), if_neg (by decide +kernel : ¬ (4 : Int32) = 3)]
    split <;> rfl
theorem refV_n {ho sz a : Int32} : refV ho sz a = 0 ∨ refV ho sz a = -11 ∨ refV ho sz a = -12 ∨ refV ho sz a = -13 := by unfold refV; grind
def refR (ms mm a : Int32) : Int32 := if ms < 0 then -11 else if ms < 50 then -12 else if a < 0 ∨ mm ≤ a then -13 else 0
theorem e_refR {a0 : Int32} (a : Int32) (ha : 0 ≤ a0 ∧ a0 ≤ 5) (S : z_Stt) : f_X11_refusal a0 a S = some (refR (S.2.2.1 66 a0.toNatClampNeg) (S.2.2.1 67 a0.toNatClampNeg) a, S) := by
  simp only [f_X11_refusal, e_isShelf11, decide_eq_true ha, g_bd, if_true, vp_6, if_pos (v6 ha), refR]
  generalize S.2.2.1 66 a0.toNatClampNeg = ms
  generalize S.2.2.1 67 a0.toNatClampNeg = mm
  grind
theorem refR_V {bo ho go so sz ms mm : Int32} {el it : Nat → Int64} (a : Int32) (hb : bo ≤ 50) (w : wShelf bo ho go so sz el) (r : rShelf ho go so sz el ms mm it) : refR ms mm a = refV ho sz a := by
  obtain ⟨w1, w2, w3⟩ := w
  obtain ⟨r1, r2, r3⟩ := r
  unfold refR refV
  rcases w1 with c | c | c
  · have := r1 c
    grind
  · have := r2 c
    have := w2 c
    grind
  · obtain ⟨r4, r5, -⟩ := r3 c
    obtain ⟨w4, w5, -⟩ := w3 c
    grind
theorem E_put (a0 : Int32) (a1 : Int32) (a2 : Int64) {S : z_Stt} (h : Inv S) : ∃ (v : Int32) (S1 S2 : z_Stt), f_X10_put a0 a1 a2 S = some (v, S1) ∧ f_X11_put a0 a1 a2 S1 = some (v, S2) ∧ Inv S2 := by
  by_cases ha : 0 ≤ a0 ∧ a0 ≤ 5
  · obtain ⟨w, r⟩ := h.2.2.2.2.2.2 _ (d6 ha)
    have rv := refR_V a1 h.2.2.2.2.2.1.1.1.2 w r
    by_cases c : refV (shH S a0.toNatClampNeg) (shN S a0.toNatClampNeg) a1 = 0
    · have q := refV_0 c
      have z := w.2.2 q.1
      have i60 : 0 ≤ a1 ∧ a1 < 60 := ⟨q.2.1, by lia⟩
      have i := vi60 ha i60
      have i2 := (ix60 ha (b := a1) ⟨q.2.1, by lia⟩).1
      have n60 : a1.toNatClampNeg < 60 := by
        have t := tn q.2.1
        have u := i60.2
        rw [Int32.lt_iff_toInt_lt, i_60] at u
        omega
      have n6 := d6 ha
      have v6a := v6 ha
      have k2 := r.2.2 q.1
      have s50 : 50 + shS S a0.toNatClampNeg - 50 = shS S a0.toNatClampNeg := by lia
      have rf := e_refusalAt (d := a0.toNatClampNeg) (S := S) a1 w
      refine ⟨1, sE S (36 + 2 * a0.toNatClampNeg + 1) (vp_updL (S.2.2.2.1 (36 + 2 * a0.toNatClampNeg + 1)) a1.toNatClampNeg (lowV (shS S a0.toNatClampNeg) a2)), sE (sE S (36 + 2 * a0.toNatClampNeg + 1) (vp_updL (S.2.2.2.1 (36 + 2 * a0.toNatClampNeg + 1)) a1.toNatClampNeg (lowV (shS S a0.toNatClampNeg) a2))) 68 (vp_updL (S.2.2.2.1 68) (60 * a0.toNatClampNeg + a1.toNatClampNeg) (lowV (shS S a0.toNatClampNeg) a2)), ?_, ?_, ?_⟩
      · simp only [f_X10_put, e_isShelf10, decide_eq_true ha, g_bds, if_true, vp_6, if_pos v6a, rf, c, if_pos, f_X8_become, if_neg (by lia : ¬ a1 < 0), if_neg (by lia : ¬ 60 ≤ a1), e_lowestBits, vp_60, if_pos i60, g_let]
      · have e1 : f_X11_refusal a0 a1 (sE S (36 + 2 * a0.toNatClampNeg + 1) (vp_updL (S.2.2.2.1 (36 + 2 * a0.toNatClampNeg + 1)) a1.toNatClampNeg (lowV (shS S a0.toNatClampNeg) a2))) = some (0, sE S (36 + 2 * a0.toNatClampNeg + 1) (vp_updL (S.2.2.2.1 (36 + 2 * a0.toNatClampNeg + 1)) a1.toNatClampNeg (lowV (shS S a0.toNatClampNeg) a2))) := by
          rw [e_refR a1 ha]
          exact some_ext (rv.trans c) rfl
        simp only [f_X11_put, e1, g_bds, if_true, vp_6, if_pos v6a, rI, rI2, rJ1, rJ2, rJ3, rA1, rA2, rA3, rA4, rE1, rE2, rE3, rE4, rE5, rR1, rR2, rR3, rR4, rR5, Nat.reduceEqDiff, reduceIte, k2.1, s50, e_asSort z.1, vp_360, if_pos i, g_let, f_X11_put_37]
        rw [i2, if_neg (by omega)]
      · refine h.ofSh (fun _ _ => rfl) (fun _ _ _ => rfl) rfl (h.2.2.2.2.2.2.set (d := a0.toNatClampNeg) rfl (fun _ _ => rfl) (fun d' d6' hd' => ⟨?_, rfl, rfl, fun i hi => ?_⟩) ?_)
        · show (if 36 + 2 * d' + 1 = 68 then _ else if 36 + 2 * d' + 1 = 36 + 2 * a0.toNatClampNeg + 1 then _ else S.2.2.2.1 (36 + 2 * d' + 1)) = S.2.2.2.1 (36 + 2 * d' + 1)
          rw [if_neg (by omega), if_neg (by omega)]
        · show vp_updL (S.2.2.2.1 68) _ _ (60 * d' + i) = _
          rw [updL_ne (by omega)]
        · have e : shE (sE (sE S (36 + 2 * a0.toNatClampNeg + 1) (vp_updL (S.2.2.2.1 (36 + 2 * a0.toNatClampNeg + 1)) a1.toNatClampNeg (lowV (shS S a0.toNatClampNeg) a2))) 68 (vp_updL (S.2.2.2.1 68) (60 * a0.toNatClampNeg + a1.toNatClampNeg) (lowV (shS S a0.toNatClampNeg) a2))) a0.toNatClampNeg = vp_updL (shE S a0.toNatClampNeg) a1.toNatClampNeg (lowV (shS S a0.toNatClampNeg) a2) := by
            show (if 36 + 2 * a0.toNatClampNeg + 1 = 68 then _ else if 36 + 2 * a0.toNatClampNeg + 1 = 36 + 2 * a0.toNatClampNeg + 1 then _ else _) = _
            rw [if_neg (by omega), if_pos rfl]; rfl
          rw [e]
          refine ⟨⟨w.1, w.2.1, fun hh => ⟨z.1, z.2.1, fun i hi => ?_⟩⟩, r.1, r.2.1, fun hh => ⟨k2.1, k2.2.1, fun i hi => ?_⟩⟩
          · show inSort (shS S a0.toNatClampNeg) _
            by_cases ei : i = a1.toNatClampNeg
            · rw [ei, updL_same]; exact lowV_ok _ _
            · rw [updL_ne ei]; exact z.2.2 i hi
          · show vp_updL (S.2.2.2.1 68) (60 * a0.toNatClampNeg + a1.toNatClampNeg) _ (60 * a0.toNatClampNeg + i) = _
            by_cases ei : i = a1.toNatClampNeg
            · rw [ei, updL_same, updL_same]
            · rw [updL_ne ei, updL_ne (by omega)]; exact k2.2.2 i hi
    · refine ⟨refV (shH S a0.toNatClampNeg) (shN S a0.toNatClampNeg) a1, S, S, ?_, ?_, h⟩
      · simp only [f_X10_put, e_isShelf10, decide_eq_true ha, g_bds, if_true, vp_6, if_pos (v6 ha), e_refusalAt a1 w, if_neg c]
      · simp only [f_X11_put, e_refusal11 a1 ha h, g_bds, if_neg c, f_X11_put_37]
  · refine ⟨-1, S, S, ?_, ?_, h⟩
    · simp only [f_X10_put, e_isShelf10, decide_eq_false ha, g_bds, Bool.false_eq_true, if_false]
    · simp only [f_X11_put, f_X11_put_37, e_refusal11n a1 ha, g_bds, if_neg (by decide +kernel : ¬ (-1 : Int32) = 0)]
