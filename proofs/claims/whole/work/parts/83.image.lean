/-! AN IMAGE of the days, and back -/
def cpR (f g : Nat → Int32) (lo hi : Nat) : Nat → Int32 := fun k => if lo ≤ k ∧ k < hi then f k else g k
theorem cpR_end {f g : Nat → Int32} {lo hi : Nat} (h : hi ≤ lo) : cpR f g lo hi = g := by funext k; unfold cpR; rw [if_neg (by omega)]
theorem cpR_next {f g : Nat → Int32} {lo hi : Nat} (h : lo < hi) : cpR f (upd g lo (f lo)) (lo + 1) hi = cpR f g lo hi := by
  funext j; unfold cpR upd
  by_cases q : lo + 1 ≤ j ∧ j < hi
  · rw [if_pos q, if_pos ⟨by omega, q.2⟩]
  · rw [if_neg q]
    by_cases e : j = lo
    · rw [if_pos e, if_pos ⟨by omega, by omega⟩, e]
    · rw [if_neg e, if_neg (fun z => q ⟨by omega, z.2⟩)]
theorem e_copy28 (n x0 x1 : Nat) (hd : x1 + 2 ≠ x0 + 2) : ∀ (m : Nat) (x : Int32) (S : z_Stt), 0 ≤ x → x ≤ 5 → 5 - x.toInt < m → f_X1_copy_28 n m x0 x1 x S = f_X1_copy_28 n 1 x0 x1 5 (sA S (x0 + 2) (cpR (S.2.2.1 (x1 + 2)) (S.2.2.1 (x0 + 2)) x.toNatClampNeg 5)) := by
  intro m
  induction m with
  | zero => intro x S h1 h2 h3; rw [Int32.le_iff_toInt_le, i_5] at h2; omega
  | succ m ih =>
    intro x S h1 h2 h3
    have q := tn h1
    by_cases e : 5 ≤ x
    · have e6 : x = 5 := by lia
      subst e6
      have n5 : (5 : Int32).toNatClampNeg = 5 := rfl
      rw [n5, cpR_end (Nat.le_refl _), sA_self]
      unfold f_X1_copy_28
      rw [if_pos e, if_pos e]
    · have lt : x < 5 := Int32.not_le.mp e
      have lx : 0 ≤ x ∧ x < 5 := ⟨h1, lt⟩
      have q1 : (x + 1).toInt = x.toInt + 1 := inc32 lt
      have q3 := tn (a := x + 1) (by lia)
      have q4 : (x + 1).toNatClampNeg = x.toNatClampNeg + 1 := by omega
      have q5 : x.toNatClampNeg < 5 := lt_nat h1 lt
      rw [f_X1_copy_28, if_neg e]
      simp only [vp_5, if_pos lx, g_let]
      rw [ih _ _ (by lia) (by lia) (by omega), q4]
      simp only [rA3, if_neg hd, if_true]
      rw [sA_sA, cpR_next q5]
theorem e_copy2 (n x0 x1 : Nat) (hd : x1 + 1 ≠ x0 + 1) : ∀ (m : Nat) (x : Int32) (S : z_Stt), 0 ≤ x → x ≤ 6 → 6 - x.toInt < m → f_X1_copy_2 n m x0 x1 x S = f_X1_copy_28 n n x0 x1 0 (sA S (x0 + 1) (cpR (S.2.2.1 (x1 + 1)) (S.2.2.1 (x0 + 1)) x.toNatClampNeg 6)) := by
  intro m
  induction m with
  | zero => intro x S h1 h2 h3; rw [Int32.le_iff_toInt_le, i_6] at h2; omega
  | succ m ih =>
    intro x S h1 h2 h3
    have q := tn h1
    by_cases e : 6 ≤ x
    · have e6 : x = 6 := by lia
      subst e6
      have n5 : (6 : Int32).toNatClampNeg = 6 := rfl
      rw [n5, cpR_end (Nat.le_refl _), sA_self]
      unfold f_X1_copy_2
      rw [if_pos e]
    · have lt : x < 6 := Int32.not_le.mp e
      have lx : 0 ≤ x ∧ x < 6 := ⟨h1, lt⟩
      have q1 : (x + 1).toInt = x.toInt + 1 := inc32 lt
      have q3 := tn (a := x + 1) (by lia)
      have q4 : (x + 1).toNatClampNeg = x.toNatClampNeg + 1 := by omega
      have q5 : x.toNatClampNeg < 6 := ix_l lx
      rw [f_X1_copy_2, if_neg e]
      simp only [vp_6, if_pos lx, g_let]
      rw [ih _ _ (by lia) (by lia) (by omega), q4]
      simp only [rA3, if_neg hd, if_true]
      rw [sA_sA, cpR_next q5]
def cpF (S : z_Stt) : z_Stt := sI (sI (sI (sI (sI S 1001 (S.1 701)) 1002 (S.1 702)) 1003 (S.1 703)) 1005 (S.1 705)) 1006 (S.1 706)
def cpB7 (S : z_Stt) : z_Stt := sI (sI (sI (sI (sI S 701 (S.1 1001)) 702 (S.1 1002)) 703 (S.1 1003)) 705 (S.1 1005)) 706 (S.1 1006)
theorem e_copyTo {n : Nat} {S : z_Stt} (f6 : 6 - (0 : Int32).toInt < n) (f5 : 5 - (0 : Int32).toInt < n) (o : S.1 706 = 0 ∨ S.1 706 = 1) : f_X1_copy n 10 7 S = some ((), cpF (sA (sA S 11 (cpR (S.2.2.1 8) (S.2.2.1 11) 0 6)) 12 (cpR (S.2.2.1 9) (S.2.2.1 12) 0 5))) := by
  have n0 : (0 : Int32).toNatClampNeg = 0 := rfl
  unfold f_X1_copy
  rw [e_copy2 n 10 7 (by decide) n 0 S (by decide +kernel) (by decide +kernel) f6, e_copy28 n 10 7 (by decide) n 0 _ (by decide +kernel) (by decide +kernel) f5, n0]
  rw [f_X1_copy_28, if_pos (Int32.le_refl _)]
  simp only [g_let, Nat.reduceMul, Nat.reduceAdd, rI, rI2, rJ1, rJ2, rJ3, rA1, rA2, rA3, rA4, rE1, rE2, rE3, rE4, rE5, rR1, rR2, rR3, rR4, rR5, Nat.reduceEqDiff, reduceIte, if_pos o]
  rfl
theorem e_copyFrom {n : Nat} {S : z_Stt} (f6 : 6 - (0 : Int32).toInt < n) (f5 : 5 - (0 : Int32).toInt < n) (o : S.1 1006 = 0 ∨ S.1 1006 = 1) : f_X1_copy n 7 10 S = some ((), cpB7 (sA (sA S 8 (cpR (S.2.2.1 11) (S.2.2.1 8) 0 6)) 9 (cpR (S.2.2.1 12) (S.2.2.1 9) 0 5))) := by
  have n0 : (0 : Int32).toNatClampNeg = 0 := rfl
  unfold f_X1_copy
  rw [e_copy2 n 7 10 (by decide) n 0 S (by decide +kernel) (by decide +kernel) f6, e_copy28 n 7 10 (by decide) n 0 _ (by decide +kernel) (by decide +kernel) f5, n0]
  rw [f_X1_copy_28, if_pos (Int32.le_refl _)]
  simp only [g_let, Nat.reduceMul, Nat.reduceAdd, rI, rI2, rJ1, rJ2, rJ3, rA1, rA2, rA3, rA4, rE1, rE2, rE3, rE4, rE5, rR1, rR2, rR3, rR4, rR5, Nat.reduceEqDiff, reduceIte, if_pos o]
  rfl
