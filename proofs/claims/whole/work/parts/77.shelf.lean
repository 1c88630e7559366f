/-! SHELVES: a goer kept, a row held -/
theorem E_keep (a0 : Int32) (a1 : Int32) {S : z_Stt} (h : Inv S) : ∃ (v : Int32) (S1 S2 : z_Stt), f_X10_keep a0 a1 S = some (v, S1) ∧ f_X11_keep a0 a1 S1 = some (v, S2) ∧ Inv S2 := by
  have g5 : S.1 4836 = S.1 3201 := h.2.2.2.2.2.1.2.2.1
  have g0 := h.2.2.2.2.2.1.1.1
  by_cases ha : 0 ≤ a0 ∧ a0 ≤ 5
  · obtain ⟨w, r⟩ := h.2.2.2.2.2.2 _ (d6 ha)
    have n6 := d6 ha
    have v6a := v6 ha
    by_cases g : a1 = -1 ∨ (0 ≤ a1 ∧ a1 < S.1 3201)
    · have hv : ∃ hv : Int32, hv = (if 0 ≤ a1 then 1 else 0) := ⟨_, rfl⟩
      obtain ⟨hv, ehv⟩ := hv
      have l10 : f_X10_keep a0 a1 S = f_X10_keep_22 a0 a1 S := by
        simp only [f_X10_keep, e_isShelf10, decide_eq_true ha, g_bds, if_true, e_isGoer]
        rcases g with g | g
        · rw [if_pos g]
        · rw [if_neg (by lia), decide_eq_true g, if_pos rfl]
      have l11 : ∀ T : z_Stt, T.1 4836 = S.1 3201 → f_X11_keep a0 a1 T = f_X11_keep_22 a0 a1 T := by
        intro T t
        simp only [f_X11_keep, e_isShelf11, decide_eq_true ha, g_bds, if_true, e_isBody a1 (S := T) (by rw [t]; exact g0.1), t]
        rcases g with g | g
        · rw [if_pos g]
        · rw [if_neg (by lia), decide_eq_true g, if_pos rfl]
      refine ⟨1, sI (sI S (100 * (36 + 2 * a0.toNatClampNeg) + 0) hv) (100 * (36 + 2 * a0.toNatClampNeg) + 1) a1, sA (sA (sI (sI S (100 * (36 + 2 * a0.toNatClampNeg) + 0) hv) (100 * (36 + 2 * a0.toNatClampNeg) + 1) a1) 66 (upd (S.2.2.1 66) a0.toNatClampNeg a1)) 67 (upd (S.2.2.1 67) a0.toNatClampNeg 0), ?_, ?_, ?_⟩
      · rw [l10]
        simp only [f_X10_keep_22, vp_6, if_pos v6a, f_X8_holdGoer, f_X8_holdGoer_10, g_let]
        by_cases c : 0 ≤ a1
        · rw [if_pos c] at ehv ⊢; rw [ehv]; rfl
        · rw [if_neg c] at ehv ⊢; rw [ehv]; rfl
      · rw [l11 _ (by show (if 4836 = 100 * (36 + 2 * a0.toNatClampNeg) + 1 then _ else if 4836 = 100 * (36 + 2 * a0.toNatClampNeg) + 0 then _ else S.1 4836) = _; rw [if_neg (by omega), if_neg (by omega), g5])]
        simp only [f_X11_keep_22, vp_6, if_pos v6a, g_let, rI, rI2, rJ1, rJ2, rJ3, rA1, rA2, rA3, rA4, rE1, rE2, rE3, rE4, rE5, rR1, rR2, rR3, rR4, rR5, Nat.reduceEqDiff, reduceIte]
      · refine h.ofSh (fun n hn => ?_) (fun k k1 k2 => ?_) rfl (h.2.2.2.2.2.2.set (d := a0.toNatClampNeg) ?_ (fun n hn => ?_) (fun d' d6' hd' => ⟨rfl, ?_, ?_, fun _ _ => rfl⟩) ?_)
        · simp only [sI, sA]; rw [if_neg (by omega), if_neg (by omega)]
        · simp only [rA3, rI2]; rw [if_neg (by omega), if_neg (by omega)]
        · simp only [sI, sA]; rw [if_neg (by omega), if_neg (by omega)]
        · simp only [sI, sA]; rw [if_neg (by omega), if_neg (by omega)]
        · exact upd_ne hd'
        · exact upd_ne hd'
        · have e1 : shH (sA (sA (sI (sI S (100 * (36 + 2 * a0.toNatClampNeg) + 0) hv) (100 * (36 + 2 * a0.toNatClampNeg) + 1) a1) 66 (upd (S.2.2.1 66) a0.toNatClampNeg a1)) 67 (upd (S.2.2.1 67) a0.toNatClampNeg 0)) a0.toNatClampNeg = hv := by
            simp only [shH, sI, sA]; rw [if_neg (by omega), if_pos trivial]
          have e2 : shG (sA (sA (sI (sI S (100 * (36 + 2 * a0.toNatClampNeg) + 0) hv) (100 * (36 + 2 * a0.toNatClampNeg) + 1) a1) 66 (upd (S.2.2.1 66) a0.toNatClampNeg a1)) 67 (upd (S.2.2.1 67) a0.toNatClampNeg 0)) a0.toNatClampNeg = a1 := by
            simp only [shG, sI, sA]; rw [if_pos trivial]
          rw [e1, e2]
          have e3 : upd (S.2.2.1 66) a0.toNatClampNeg a1 a0.toNatClampNeg = a1 := upd_same _ _ _
          refine ⟨⟨by grind, fun c => by grind, fun c => by grind⟩, fun c => ?_, fun c => ?_, fun c => by grind⟩
          · show upd (S.2.2.1 66) a0.toNatClampNeg a1 a0.toNatClampNeg = -1
            grind
          · exact e3
    · have g1 : ¬ a1 = -1 := fun q => g (Or.inl q)
      have g2 : ¬ (0 ≤ a1 ∧ a1 < S.1 3201) := fun q => g (Or.inr q)
      refine ⟨-1, S, S, ?_, ?_, h⟩
      · simp only [f_X10_keep, e_isShelf10, decide_eq_true ha, g_bds, if_true, e_isGoer, if_neg g1, decide_eq_false g2, Bool.false_eq_true, if_false]
      · simp only [f_X11_keep, e_isShelf11, decide_eq_true ha, g_bds, if_true, e_isBody a1 (S := S) (by rw [g5]; exact g0.1), g5, if_neg g1, decide_eq_false g2, Bool.false_eq_true, if_false]
  · refine ⟨-1, S, S, ?_, ?_, h⟩
    · simp only [f_X10_keep, e_isShelf10, decide_eq_false ha, g_bds, Bool.false_eq_true, if_false]
    · simp only [f_X11_keep, e_isShelf11, decide_eq_false ha, g_bds, Bool.false_eq_true, if_false]
def zf (f : Nat → Int64) (lo hi : Nat) : Nat → Int64 := fun k => if lo ≤ k ∧ k < hi then 0 else f k
theorem zf_end (f : Nat → Int64) {lo hi : Nat} (h : hi ≤ lo) : zf f lo hi = f := by funext k; unfold zf; rw [if_neg (by omega)]
theorem zf_s (f : Nat → Int64) {lo hi : Nat} (h : lo < hi) : zf (vp_updL f lo 0) (lo + 1) hi = zf f lo hi := by
  funext k
  unfold zf vp_updL
  by_cases c : lo + 1 ≤ k ∧ k < hi
  · rw [if_pos c, if_pos (by omega)]
  · rw [if_neg c]
    by_cases e : k = lo
    · rw [if_pos e, if_pos (by omega)]
    · rw [if_neg e, if_neg (by omega)]
theorem sE_self (S : z_Stt) (k : Nat) : sE S k (S.2.2.2.1 k) = S := by
  refine z_ext rfl rfl rfl ?_ rfl
  funext j
  simp only [rE4]
  split
  · rename_i e; rw [e]
  · rfl
theorem sE_sE (S : z_Stt) (k : Nat) (f g : Nat → Int64) : sE (sE S k f) k g = sE S k g := by
  refine z_ext rfl rfl rfl ?_ rfl
  funext j
  simp only [rE4]
  split <;> rfl
theorem e_zero8 (n o : Nat) : ∀ (m : Nat) (x : Int32) (S : z_Stt), 0 ≤ x → x ≤ 60 → 60 - x.toInt < m → f_X8_holdRow_31 n m o x S = some ((), sE S (o + 1) (zf (S.2.2.2.1 (o + 1)) x.toNatClampNeg 60)) := by
  intro m
  induction m with
  | zero => intro x S h1 h2 h3; rw [Int32.le_iff_toInt_le, i_60] at h2; omega
  | succ m ih =>
    intro x S h1 h2 h3
    have q := tn h1
    unfold f_X8_holdRow_31
    by_cases c : 60 ≤ x
    · rw [if_pos c, zf_end _ (by rw [Int32.le_iff_toInt_le, i_60] at c; omega), sE_self]
    · have i1 : 0 ≤ x ∧ x < 60 := by lia
      have k1 : (x + 1).toInt = x.toInt + 1 := inc32 (K := 60) i1.2
      have k2 := tn (a := x + 1) (by lia)
      have i2 := i1.2
      rw [Int32.lt_iff_toInt_lt, i_60] at i2
      simp only [if_neg c, vp_60, if_pos i1, g_let]
      rw [ih _ _ (by lia) (by lia) (by omega), sE_sE]
      have e : (x + 1).toNatClampNeg = x.toNatClampNeg + 1 := by omega
      simp only [rI, rI2, rJ1, rJ2, rJ3, rA1, rA2, rA3, rA4, rE1, rE2, rE3, rE4, rE5, rR1, rR2, rR3, rR4, rR5, Nat.reduceEqDiff, reduceIte]
      rw [e, zf_s _ (by omega)]
theorem e_zero11 (n : Nat) {a0 : Int32} (ha : 0 ≤ a0 ∧ a0 ≤ 5) : ∀ (m : Nat) (x : Int32) (S : z_Stt), 60 * a0 ≤ x → x ≤ 60 * a0 + 60 → (60 * a0 + 60).toInt - x.toInt < m → f_X11_row_57 n m a0 x S = some (1, sE S 68 (zf (S.2.2.2.1 68) x.toNatClampNeg (60 * a0.toNatClampNeg + 60))) := by
  obtain ⟨p1, p2⟩ := ix60 ha (b := 60) (by decide +kernel)
  obtain ⟨p3, p4⟩ := ix60 ha (b := 0) (by decide +kernel)
  rw [Int32.add_zero] at p3 p4
  have p60 : (60 : Int32).toNatClampNeg = 60 := rfl
  rw [p60] at p1
  have u : 60 * a0 + 60 ≤ 360 := by
    have c := cs06 (v6 ha)
    rcases c with rfl | rfl | rfl | rfl | rfl | rfl <;> decide +kernel
  intro m
  induction m with
  | zero => intro x S h1 h2 h3; rw [Int32.le_iff_toInt_le] at h2; omega
  | succ m ih =>
    intro x S h1 h2 h3
    have x0 : 0 ≤ x := Int32.le_trans p4 h1
    have q := tn x0
    have q2 := tn p2
    unfold f_X11_row_57
    by_cases c : 60 * a0 + 60 ≤ x
    · rw [if_pos c, zf_end _ (by rw [Int32.le_iff_toInt_le] at c; omega), sE_self]
    · have i1 : x < 60 * a0 + 60 := Int32.not_le.mp c
      have i3 : 0 ≤ x ∧ x < 360 := ⟨x0, by lia⟩
      have k1 : (x + 1).toInt = x.toInt + 1 := inc32 i1
      have k2 := tn (a := x + 1) (by lia)
      have i2 := i1
      rw [Int32.lt_iff_toInt_lt] at i2
      simp only [if_neg c, vp_360, if_pos i3, g_let]
      rw [ih _ _ (by lia) (by lia) (by omega), sE_sE]
      have e : (x + 1).toNatClampNeg = x.toNatClampNeg + 1 := by omega
      simp only [rI, rI2, rJ1, rJ2, rJ3, rA1, rA2, rA3, rA4, rE1, rE2, rE3, rE4, rE5, rR1, rR2, rR3, rR4, rR5, Nat.reduceEqDiff, reduceIte]
      rw [e, zf_s _ (by omega)]
theorem e_holdRow8 {F d : Nat} {a1 a2 : Int32} (fz : 60 - (0 : Int32).toInt < F) (c0 : 0 ≤ a2) (c : a2 ≤ 60) (S : z_Stt) : f_X8_holdRow F (36 + 2 * d) a1 a2 S = some ((), sE (sI (sI (sI S (100 * (36 + 2 * d) + 0) 2) (100 * (36 + 2 * d) + 2) a1) (100 * (36 + 2 * d) + 3) a2) (36 + 2 * d + 1) (zf (S.2.2.2.1 (36 + 2 * d + 1)) 0 60)) := by
  simp only [f_X8_holdRow, f_X8_holdRow_26, g_let, if_neg (Int32.not_lt.mpr c0), if_neg (Int32.not_lt.mpr c)]
  exact e_zero8 F (36 + 2 * d) F 0 _ (by decide +kernel) (by decide +kernel) fz
theorem e_row10 {F : Nat} {a0 a1 a2 : Int32} (ha : 0 ≤ a0 ∧ a0 ≤ 5) (g : 0 ≤ a1 ∧ a1 ≤ 4) (fz : 60 - (0 : Int32).toInt < F) (c0 : 0 ≤ a2) (c : a2 ≤ 60) (S : z_Stt) : f_X10_row F a0 a1 a2 S = some (1, sE (sI (sI (sI S (100 * (36 + 2 * a0.toNatClampNeg) + 0) 2) (100 * (36 + 2 * a0.toNatClampNeg) + 2) a1) (100 * (36 + 2 * a0.toNatClampNeg) + 3) a2) (36 + 2 * a0.toNatClampNeg + 1) (zf (S.2.2.2.1 (36 + 2 * a0.toNatClampNeg + 1)) 0 60)) := by
  simp only [f_X10_row, e_isShelf10, decide_eq_true ha, g_bds, if_true, e_within10, decide_eq_true g, if_pos c, if_pos c0, vp_6, if_pos (v6 ha), e_holdRow8 fz c0 c]
theorem E_row (a0 : Int32) (a1 : Int32) (a2 : Int32) {S : z_Stt} (h : Inv S) : ∃ (v : Int32) (S1 S2 : z_Stt), f_X10_row FUEL a0 a1 a2 S = some (v, S1) ∧ f_X11_row FUEL a0 a1 a2 S1 = some (v, S2) ∧ Inv S2 := by
  have fz : 60 - (0 : Int32).toInt < (FUEL : Nat) := by decide +kernel
  have fu' : ∀ a0 : Int32, (0 ≤ a0 ∧ a0 ≤ 5) → (60 * a0 + 60).toInt - (60 * a0).toInt < (FUEL : Nat) := by
    intro a0 ha
    rcases cs06 (v6 ha) with rfl | rfl | rfl | rfl | rfl | rfl <;> decide +kernel
  generalize FUEL = F at *
  by_cases ha : 0 ≤ a0 ∧ a0 ≤ 5
  · obtain ⟨w, r⟩ := h.2.2.2.2.2.2 _ (d6 ha)
    have n6 := d6 ha
    have v6a := v6 ha
    by_cases g : 0 ≤ a1 ∧ a1 ≤ 4
    · by_cases c : a2 ≤ 60
      · by_cases c0 : 0 ≤ a2
        · have zr : ∀ T, f_X8_holdRow_31 F F (36 + 2 * a0.toNatClampNeg) 0 T = some ((), sE T (36 + 2 * a0.toNatClampNeg + 1) (zf (T.2.2.2.1 (36 + 2 * a0.toNatClampNeg + 1)) 0 60)) := fun T => e_zero8 F (36 + 2 * a0.toNatClampNeg) F 0 T (by decide +kernel) (by decide +kernel) fz
          have le60 : 60 * a0 ≤ 60 * a0 + 60 := by
            rcases cs06 (v6 ha) with rfl | rfl | rfl | rfl | rfl | rfl <;> decide +kernel
          have fu := fu' a0 ha
          have p3 := (ix60 ha (b := 0) (by decide +kernel)).1
          rw [Int32.add_zero] at p3
          have p3 : (60 * a0).toNatClampNeg = 60 * a0.toNatClampNeg := p3
          refine ⟨1, sE (sI (sI (sI S (100 * (36 + 2 * a0.toNatClampNeg) + 0) 2) (100 * (36 + 2 * a0.toNatClampNeg) + 2) a1) (100 * (36 + 2 * a0.toNatClampNeg) + 3) a2) (36 + 2 * a0.toNatClampNeg + 1) (zf (S.2.2.2.1 (36 + 2 * a0.toNatClampNeg + 1)) 0 60), sE (sA (sA (sE (sI (sI (sI S (100 * (36 + 2 * a0.toNatClampNeg) + 0) 2) (100 * (36 + 2 * a0.toNatClampNeg) + 2) a1) (100 * (36 + 2 * a0.toNatClampNeg) + 3) a2) (36 + 2 * a0.toNatClampNeg + 1) (zf (S.2.2.2.1 (36 + 2 * a0.toNatClampNeg + 1)) 0 60)) 66 (upd (S.2.2.1 66) a0.toNatClampNeg (50 + a1))) 67 (upd (S.2.2.1 67) a0.toNatClampNeg a2)) 68 (zf (S.2.2.2.1 68) (60 * a0.toNatClampNeg) (60 * a0.toNatClampNeg + 60)), ?_, ?_, ?_⟩
          · exact e_row10 ha g fz c0 c S
          · simp only [f_X11_row, e_isShelf11, decide_eq_true ha, g_bds, if_true, e_w_0_4, decide_eq_true g, if_pos c, if_pos c0, vp_6, if_pos v6a, g_let, e_zero11 F ha F (60 * a0) _ (Int32.le_refl _) le60 fu]
            rw [p3]
            refine some_ext rfl (congrArg (fun f => sE _ 68 f) ?_)
            simp only [rI, rI2, rJ1, rJ2, rJ3, rA1, rA2, rA3, rA4, rE1, rE2, rE3, rE4, rE5, rR1, rR2, rR3, rR4, rR5, Nat.reduceEqDiff, reduceIte]
            rw [if_neg (by omega)]
          · refine h.ofSh (fun n hn => ?_) (fun k k1 k2 => ?_) rfl (h.2.2.2.2.2.2.set (d := a0.toNatClampNeg) ?_ (fun n hn => ?_) (fun d' d6' hd' => ⟨?_, ?_, ?_, fun i hi => ?_⟩) ?_)
            · simp only [sI, sA, sE]; rw [if_neg (by omega), if_neg (by omega), if_neg (by omega)]
            · simp only [rA3, rI2, rE3]; rw [if_neg (by omega), if_neg (by omega)]
            · simp only [sI, sA, sE]; rw [if_neg (by omega), if_neg (by omega), if_neg (by omega)]
            · simp only [sI, sA, sE]; rw [if_neg (by omega), if_neg (by omega), if_neg (by omega)]
            · simp only [shE, rI, rI2, rJ1, rJ2, rJ3, rA1, rA2, rA3, rA4, rE1, rE2, rE3, rE4, rE5, rR1, rR2, rR3, rR4, rR5, Nat.reduceEqDiff, reduceIte]; rw [if_neg (by omega), if_neg (by omega)]
            · exact upd_ne hd'
            · exact upd_ne hd'
            · show zf (S.2.2.2.1 68) _ _ (60 * d' + i) = _
              unfold zf; rw [if_neg (by omega)]
            · have e1 : shH (sE (sA (sA (sE (sI (sI (sI S (100 * (36 + 2 * a0.toNatClampNeg) + 0) 2) (100 * (36 + 2 * a0.toNatClampNeg) + 2) a1) (100 * (36 + 2 * a0.toNatClampNeg) + 3) a2) (36 + 2 * a0.toNatClampNeg + 1) (zf (S.2.2.2.1 (36 + 2 * a0.toNatClampNeg + 1)) 0 60)) 66 (upd (S.2.2.1 66) a0.toNatClampNeg (50 + a1))) 67 (upd (S.2.2.1 67) a0.toNatClampNeg a2)) 68 (zf (S.2.2.2.1 68) (60 * a0.toNatClampNeg) (60 * a0.toNatClampNeg + 60))) a0.toNatClampNeg = 2 := by
                simp only [shH, sI, sA, sE]; rw [if_neg (by omega), if_neg (by omega), if_pos trivial]
              have e2 : shS (sE (sA (sA (sE (sI (sI (sI S (100 * (36 + 2 * a0.toNatClampNeg) + 0) 2) (100 * (36 + 2 * a0.toNatClampNeg) + 2) a1) (100 * (36 + 2 * a0.toNatClampNeg) + 3) a2) (36 + 2 * a0.toNatClampNeg + 1) (zf (S.2.2.2.1 (36 + 2 * a0.toNatClampNeg + 1)) 0 60)) 66 (upd (S.2.2.1 66) a0.toNatClampNeg (50 + a1))) 67 (upd (S.2.2.1 67) a0.toNatClampNeg a2)) 68 (zf (S.2.2.2.1 68) (60 * a0.toNatClampNeg) (60 * a0.toNatClampNeg + 60))) a0.toNatClampNeg = a1 := by
                simp only [shS, sI, sA, sE]; rw [if_neg (by omega), if_pos trivial]
              have e3 : shN (sE (sA (sA (sE (sI (sI (sI S (100 * (36 + 2 * a0.toNatClampNeg) + 0) 2) (100 * (36 + 2 * a0.toNatClampNeg) + 2) a1) (100 * (36 + 2 * a0.toNatClampNeg) + 3) a2) (36 + 2 * a0.toNatClampNeg + 1) (zf (S.2.2.2.1 (36 + 2 * a0.toNatClampNeg + 1)) 0 60)) 66 (upd (S.2.2.1 66) a0.toNatClampNeg (50 + a1))) 67 (upd (S.2.2.1 67) a0.toNatClampNeg a2)) 68 (zf (S.2.2.2.1 68) (60 * a0.toNatClampNeg) (60 * a0.toNatClampNeg + 60))) a0.toNatClampNeg = a2 := by
                simp only [shN, sI, sA, sE]; rw [if_pos trivial]
              have e4 : shE (sE (sA (sA (sE (sI (sI (sI S (100 * (36 + 2 * a0.toNatClampNeg) + 0) 2) (100 * (36 + 2 * a0.toNatClampNeg) + 2) a1) (100 * (36 + 2 * a0.toNatClampNeg) + 3) a2) (36 + 2 * a0.toNatClampNeg + 1) (zf (S.2.2.2.1 (36 + 2 * a0.toNatClampNeg + 1)) 0 60)) 66 (upd (S.2.2.1 66) a0.toNatClampNeg (50 + a1))) 67 (upd (S.2.2.1 67) a0.toNatClampNeg a2)) 68 (zf (S.2.2.2.1 68) (60 * a0.toNatClampNeg) (60 * a0.toNatClampNeg + 60))) a0.toNatClampNeg = zf (S.2.2.2.1 (36 + 2 * a0.toNatClampNeg + 1)) 0 60 := by
                simp only [shE, rI, rI2, rJ1, rJ2, rJ3, rA1, rA2, rA3, rA4, rE1, rE2, rE3, rE4, rE5, rR1, rR2, rR3, rR4, rR5, Nat.reduceEqDiff, reduceIte]; rw [if_neg (by omega)]
              rw [e1, e2, e3, e4]
              have z1 : ∀ i, i < 60 → zf (S.2.2.2.1 (36 + 2 * a0.toNatClampNeg + 1)) 0 60 i = 0 := fun i hi => if_pos ⟨Nat.zero_le _, hi⟩
              refine ⟨⟨Or.inr (Or.inr rfl), fun q => absurd q (by decide +kernel), fun _ => ⟨g, ⟨c0, c⟩, fun i hi => ?_⟩⟩, fun q => absurd q (by decide +kernel), fun q => absurd q (by decide +kernel), fun _ => ⟨upd_same _ _ _, upd_same _ _ _, fun i hi => ?_⟩⟩
              · rw [z1 i hi]
                exact ⟨fun _ => by decide +kernel, fun _ => by decide +kernel, fun _ => by decide +kernel, fun _ => Or.inl rfl⟩
              · rw [z1 i hi]
                exact if_pos ⟨by omega, by omega⟩
        · refine ⟨-14, S, S, ?_, ?_, h⟩
          · simp only [f_X10_row, e_isShelf10, decide_eq_true ha, g_bds, if_true, e_within10, decide_eq_true g, if_pos c, if_neg c0]
          · simp only [f_X11_row, e_isShelf11, decide_eq_true ha, g_bds, if_true, e_w_0_4, decide_eq_true g, if_pos c, if_neg c0]
      · refine ⟨-1, S, S, ?_, ?_, h⟩
        · simp only [f_X10_row, e_isShelf10, decide_eq_true ha, g_bds, if_true, e_within10, decide_eq_true g, if_neg c]
        · simp only [f_X11_row, e_isShelf11, decide_eq_true ha, g_bds, if_true, e_w_0_4, decide_eq_true g, if_neg c]
    · refine ⟨-1, S, S, ?_, ?_, h⟩
      · simp only [f_X10_row, e_isShelf10, decide_eq_true ha, g_bds, if_true, e_within10, decide_eq_false g, Bool.false_eq_true, if_false]
      · simp only [f_X11_row, e_isShelf11, decide_eq_true ha, g_bds, if_true, e_w_0_4, decide_eq_false g, Bool.false_eq_true, if_false]
  · refine ⟨-1, S, S, ?_, ?_, h⟩
    · simp only [f_X10_row, e_isShelf10, decide_eq_false ha, g_bds, Bool.false_eq_true, if_false]
    · simp only [f_X11_row, e_isShelf11, decide_eq_false ha, g_bds, Bool.false_eq_true, if_false]
