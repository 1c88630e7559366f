/-! THINGS: one more, of each side -/
theorem sIA (S : z_Stt) (r a : Nat) (nu nu2 : Nat → Int32) (th th2 : Int32) : sI (sA (sI (sA S a nu) r th) a nu2) r th2 = sI (sA S a nu2) r th2 := by
  refine z_ext ?_ rfl ?_ rfl rfl
  · funext n
    show (if n = r then th2 else if n = r then th else S.1 n) = if n = r then th2 else S.1 n
    split
    · rfl
    · rfl
  · funext n
    show (if n = a then nu2 else if n = a then nu else S.2.2.1 n) = if n = a then nu2 else S.2.2.1 n
    split
    · rfl
    · rfl
theorem e_come {S : z_Stt} (a b c d : Int32) (t6 : 0 ≤ S.1 101 ∧ S.1 101 < 6) : f_X9_come a b c d S = some (S.1 101, sI (sA S 2 (addV (S.2.2.1 2) (S.1 101).toNatClampNeg a b c d)) 101 (S.1 101 + 1)) := by
  have j0 : 0 ≤ 0 + S.1 101 ∧ 0 + S.1 101 < 75 := by lia
  have j6 : 0 ≤ 6 + S.1 101 ∧ 6 + S.1 101 < 75 := by lia
  have j12 : 0 ≤ 12 + S.1 101 ∧ 12 + S.1 101 < 75 := by lia
  have j18 : 0 ≤ 18 + S.1 101 ∧ 18 + S.1 101 < 75 := by lia
  simp only [f_X9_come, g_let, if_true, vp_75, rI, rI2, rJ1, rJ2, rJ3, rA1, rA2, rA3, rA4, rE1, rE2, rE3, rE4, rE5, rR1, rR2, rR3, rR4, rR5, Nat.reduceEqDiff, reduceIte, if_pos t6.2, if_pos j0, if_pos j6, if_pos j12, if_pos j18]
  simp only [ix_0 t6, ix_6 t6, ix_12 t6, ix_18 t6]
  refine some_ext rfl (z_ext rfl rfl ?_ rfl rfl)
  funext j
  simp only [rI, rI2, rJ1, rJ2, rJ3, rA1, rA2, rA3, rA4, rE1, rE2, rE3, rE4, rE5, rR1, rR2, rR3, rR4, rR5, Nat.reduceEqDiff, reduceIte]
  unfold addV
  grind
theorem e_adds {S : z_Stt} (a b c d : Int32) (t6 : 0 ≤ S.1 4806 ∧ S.1 4806 < 6) (z24 : S.2.2.1 49 (24 + (S.1 4806).toNatClampNeg) = 0) (z30 : S.2.2.1 49 (30 + (S.1 4806).toNatClampNeg) = 0) (z53 : S.2.2.1 53 (S.1 4806).toNatClampNeg = 0) (z54 : S.2.2.1 54 (S.1 4806).toNatClampNeg = 0) : f_X11_adds a b c d S = some ((), sI (sA S 49 (addV (S.2.2.1 49) (S.1 4806).toNatClampNeg a b c d)) 4806 (S.1 4806 + 1)) := by
  have n0 : (S.1 4806).toNatClampNeg < 6 := ix_l t6
  have j75 : 0 ≤ S.1 4806 ∧ S.1 4806 < 75 := by lia
  have j6 : 0 ≤ 6 + S.1 4806 ∧ 6 + S.1 4806 < 75 := by lia
  have j12 : 0 ≤ 12 + S.1 4806 ∧ 12 + S.1 4806 < 75 := by lia
  have j18 : 0 ≤ 18 + S.1 4806 ∧ 18 + S.1 4806 < 75 := by lia
  have j24 : 0 ≤ 24 + S.1 4806 ∧ 24 + S.1 4806 < 75 := by lia
  have j30 : 0 ≤ 30 + S.1 4806 ∧ 30 + S.1 4806 < 75 := by lia
  have w24 : upd (addV (S.2.2.1 49) (S.1 4806).toNatClampNeg a b c d) (24 + (S.1 4806).toNatClampNeg) 0 = addV (S.2.2.1 49) (S.1 4806).toNatClampNeg a b c d := upd_id (by unfold addV; rw [upd_ne (by omega), upd_ne (by omega), upd_ne (by omega), upd_ne (by omega)]; exact z24)
  have w30 : upd (addV (S.2.2.1 49) (S.1 4806).toNatClampNeg a b c d) (30 + (S.1 4806).toNatClampNeg) 0 = addV (S.2.2.1 49) (S.1 4806).toNatClampNeg a b c d := upd_id (by unfold addV; rw [upd_ne (by omega), upd_ne (by omega), upd_ne (by omega), upd_ne (by omega)]; exact z30)
  have w53 : upd (S.2.2.1 53) (S.1 4806).toNatClampNeg 0 = S.2.2.1 53 := upd_id z53
  have w54 : upd (S.2.2.1 54) (S.1 4806).toNatClampNeg 0 = S.2.2.1 54 := upd_id z54
  simp only [f_X11_adds, g_let, vp_6, vp_75, rI, rI2, rJ1, rJ2, rJ3, rA1, rA2, rA3, rA4, rE1, rE2, rE3, rE4, rE5, rR1, rR2, rR3, rR4, rR5, Nat.reduceEqDiff, reduceIte, if_pos j75, if_pos t6, if_pos j6, if_pos j12, if_pos j18, if_pos j24, if_pos j30]
  simp only [ix_6 t6, ix_12 t6, ix_18 t6, ix_24 t6, ix_30 t6]
  unfold addV at w24 w30
  rw [w24, w30, w53, w54]
  refine some_ext rfl (z_ext rfl rfl ?_ rfl rfl)
  funext j
  simp only [rI, rI2, rJ1, rJ2, rJ3, rA1, rA2, rA3, rA4, rE1, rE2, rE3, rE4, rE5, rR1, rR2, rR3, rR4, rR5, Nat.reduceEqDiff, reduceIte]
  unfold addV
  grind
def cS (S : z_Stt) (nu : Nat → Int32) (th : Int32) : z_Stt := sI (sA S 2 nu) 101 th
def rS (S : z_Stt) (nu : Nat → Int32) (th : Int32) : z_Stt := sI (sA S 49 nu) 4806 th
theorem cS_come {S : z_Stt} {nu : Nat → Int32} {th : Int32} (a b c d : Int32) (t6 : 0 ≤ th ∧ th < 6) : f_X9_come a b c d (cS S nu th) = some (th, cS S (addV nu th.toNatClampNeg a b c d) (th + 1)) := by
  have q := e_come (S := cS S nu th) a b c d t6
  have e1 : (cS S nu th).1 101 = th := rfl
  have e2 : (cS S nu th).2.2.1 2 = nu := rfl
  rw [e1, e2] at q
  rw [q]
  exact some_ext rfl (sIA _ _ _ _ _ _ _)
theorem rS_adds {S : z_Stt} {nu : Nat → Int32} {th : Int32} (a b c d : Int32) (t6 : 0 ≤ th ∧ th < 6) (w : wTold th nu) (z53 : S.2.2.1 53 th.toNatClampNeg = 0) (z54 : S.2.2.1 54 th.toNatClampNeg = 0) : f_X11_adds a b c d (rS S nu th) = some ((), rS S (addV nu th.toNatClampNeg a b c d) (th + 1)) := by
  obtain ⟨z24, z30⟩ := w.2.2 _ (ix_l t6) (Nat.le_refl _)
  have q := e_adds (S := rS S nu th) a b c d t6 z24 z30 z53 z54
  have e1 : (rS S nu th).1 4806 = th := rfl
  have e2 : (rS S nu th).2.2.1 49 = nu := rfl
  rw [e1, e2] at q
  rw [q]
  exact some_ext rfl (sIA _ _ _ _ _ _ _)
