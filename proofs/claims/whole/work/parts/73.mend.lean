/-! MEND: a thing comes, a number becomes another, undone and done again -/
theorem z_ext {S T : z_Stt} (h1 : S.1 = T.1) (h2 : S.2.1 = T.2.1) (h3 : S.2.2.1 = T.2.2.1) (h4 : S.2.2.2.1 = T.2.2.2.1) (h5 : S.2.2.2.2 = T.2.2.2.2) : S = T :=
  Prod.ext h1 (Prod.ext h2 (Prod.ext h3 (Prod.ext h4 h5)))
theorem some_ext {α : Type} {v w : α} {S T : z_Stt} (h1 : v = w) (h2 : S = T) : some (v, S) = some (w, T) := by rw [h1, h2]
theorem E_redo {S : z_Stt} (h : Inv S) : ∃ (v : Int32) (S1 S2 : z_Stt), f_X10_redo S = some (v, S1) ∧ f_X11_redo S1 = some (v, S2) ∧ Inv S2 := by
  obtain ⟨hw, e1, e2⟩ := h.1
  obtain ⟨⟨c1, c2, c3, c4⟩, c5, c6, c7, c8, c9⟩ := h.2.1
  by_cases z : S.1 304 = S.1 303
  · refine ⟨-5, S, S, ?_, ?_, h⟩
    · simp only [f_X10_redo, if_pos z]
    · simp only [f_X11_redo, c8, c9, if_pos z]
  · have i40 : 0 ≤ S.1 304 ∧ S.1 304 < 40 := by lia
    have ik : (S.1 304).toNatClampNeg < (S.1 303).toNatClampNeg := by
      have t1 := tn i40.1
      have t2 := tn (a := S.1 303) (by lia)
      have t3 : S.1 304 < S.1 303 := by lia
      rw [Int32.lt_iff_toInt_lt] at t3
      omega
    obtain ⟨p1, p2, p3⟩ := c4 _ ik
    have p4 : 0 ≤ S.2.2.1 4 (S.1 304).toNatClampNeg ∧ S.2.2.1 4 (S.1 304).toNatClampNeg < 75 := ⟨p1.1, p1.2.1⟩
    refine ⟨S.1 303 - (S.1 304 + 1), sI (sA S 2 (upd (S.2.2.1 2) (S.2.2.1 4 (S.1 304).toNatClampNeg).toNatClampNeg (S.2.2.1 6 (S.1 304).toNatClampNeg))) 304 (S.1 304 + 1), sI (sA (sI (sA S 2 (upd (S.2.2.1 2) (S.2.2.1 4 (S.1 304).toNatClampNeg).toNatClampNeg (S.2.2.1 6 (S.1 304).toNatClampNeg))) 304 (S.1 304 + 1)) 49 (upd (S.2.2.1 2) (S.2.2.1 4 (S.1 304).toNatClampNeg).toNatClampNeg (S.2.2.1 6 (S.1 304).toNatClampNeg))) 4805 (S.1 304 + 1), ?_, ?_, ?_⟩
    · simp only [f_X10_redo, f_X0_doAgain, f_X9_become, g_let, vp_40, vp_75, rI, rI2, rJ1, rJ2, rJ3, rA1, rA2, rA3, rA4, rE1, rE2, rE3, rE4, rE5, rR1, rR2, rR3, rR4, rR5, Nat.reduceEqDiff, reduceIte, if_neg z, if_neg (by lia : ¬ S.1 303 ≤ S.1 304), if_pos i40, if_neg (by lia : ¬ S.2.2.1 4 (S.1 304).toNatClampNeg < 0), if_neg (by lia : ¬ 75 ≤ S.2.2.1 4 (S.1 304).toNatClampNeg), if_pos p4, g_bd]
    · simp only [f_X11_redo, g_let, vp_40, vp_75, rI, rI2, rJ1, rJ2, rJ3, rA1, rA2, rA3, rA4, rE1, rE2, rE3, rE4, rE5, rR1, rR2, rR3, rR4, rR5, Nat.reduceEqDiff, reduceIte, c8, c9, c5, c7, e1, if_neg z, if_pos i40, if_pos p4]
    · refine ⟨?_, ?_, h.2.2.1.of rfl rfl rfl rfl rfl rfl rfl rfl rfl rfl rfl rfl rfl rfl rfl, h.2.2.2.1.of rfl rfl rfl rfl rfl rfl rfl rfl rfl rfl rfl rfl, h.2.2.2.2.1.of rfl rfl rfl rfl rfl rfl rfl rfl rfl, h.2.2.2.2.2.1.of rfl rfl rfl rfl rfl rfl rfl rfl, h.2.2.2.2.2.2.of rfl (fun n q1 q2 => by simp only [sI, sJ, sA, sE, sR]; repeat rw [if_neg (by omega)]) (fun n q1 q2 => by simp only [sI, sJ, sA, sE, sR]; repeat rw [if_neg (by omega)]) rfl rfl rfl⟩
      · exact ⟨hw.set p1 p3, rfl, e2⟩
      · refine ⟨⟨?_, ?_, c3, c4⟩, c5, c6, c7, c8, rfl⟩
        · show 0 ≤ S.1 304 + 1; lia
        · show S.1 304 + 1 ≤ S.1 303; lia
theorem cs06 {a : Int32} (h : 0 ≤ a ∧ a < 6) : a = 0 ∨ a = 1 ∨ a = 2 ∨ a = 3 ∨ a = 4 ∨ a = 5 := by grind
theorem ix_0 {a : Int32} (h : 0 ≤ a ∧ a < 6) : (0 + a).toNatClampNeg = a.toNatClampNeg := by rw [Int32.zero_add]
theorem ix_6 {a : Int32} (h : 0 ≤ a ∧ a < 6) : (6 + a).toNatClampNeg = 6 + a.toNatClampNeg := by rcases cs06 h with rfl | rfl | rfl | rfl | rfl | rfl <;> decide +kernel
theorem ix_12 {a : Int32} (h : 0 ≤ a ∧ a < 6) : (12 + a).toNatClampNeg = 12 + a.toNatClampNeg := by rcases cs06 h with rfl | rfl | rfl | rfl | rfl | rfl <;> decide +kernel
theorem ix_18 {a : Int32} (h : 0 ≤ a ∧ a < 6) : (18 + a).toNatClampNeg = 18 + a.toNatClampNeg := by rcases cs06 h with rfl | rfl | rfl | rfl | rfl | rfl <;> decide +kernel
theorem ix_24 {a : Int32} (h : 0 ≤ a ∧ a < 6) : (24 + a).toNatClampNeg = 24 + a.toNatClampNeg := by rcases cs06 h with rfl | rfl | rfl | rfl | rfl | rfl <;> decide +kernel
theorem ix_30 {a : Int32} (h : 0 ≤ a ∧ a < 6) : (30 + a).toNatClampNeg = 30 + a.toNatClampNeg := by rcases cs06 h with rfl | rfl | rfl | rfl | rfl | rfl <;> decide +kernel
theorem ix_s {a : Int32} (h : 0 ≤ a ∧ a < 6) : (a + 1).toNatClampNeg = a.toNatClampNeg + 1 := by rcases cs06 h with rfl | rfl | rfl | rfl | rfl | rfl <;> decide +kernel
theorem ix_l {a : Int32} (h : 0 ≤ a ∧ a < 6) : a.toNatClampNeg < 6 := by rcases cs06 h with rfl | rfl | rfl | rfl | rfl | rfl <;> decide +kernel
theorem upd_id {f : Nat → Int32} {k : Nat} {x : Int32} (h : f k = x) : upd f k x = f := by
  funext j; unfold upd; split
  · rename_i e; rw [e, h]
  · rfl
/-- the numbers with one thing more -/
def addV (nu : Nat → Int32) (t : Nat) (a b c d : Int32) : Nat → Int32 := upd (upd (upd (upd nu t a) (6 + t) b) (12 + t) c) (18 + t) d
theorem wTold.more {th : Int32} {nu : Nat → Int32} {a b c d : Int32} (h : wTold th nu) (h6 : th < 6) (ha : 0 ≤ a ∧ a ≤ 144) (hb : 0 ≤ b ∧ b ≤ 12) (hc : 0 ≤ c ∧ c ≤ 12) (hd : 0 ≤ d ∧ d ≤ 999) : wTold (th + 1) (addV nu th.toNatClampNeg a b c d) := by
  obtain ⟨h1, h2, h3⟩ := h
  have l := ix_l ⟨h1.1, h6⟩
  refine ⟨by lia, fun k hk => ?_, fun t ht1 ht2 => ?_⟩
  · have q := h2 k hk
    unfold addV upd
    unfold mostAt at *
    split
    · rw [if_neg (by omega), if_neg (by omega), if_pos (by omega)]; exact hd
    · split
      · rw [if_neg (by omega), if_pos (by omega)]; exact hc
      · split
        · rw [if_neg (by omega), if_pos (by omega)]; exact hb
        · split
          · rw [if_pos (by omega)]; exact ha
          · exact q
  · rw [ix_s ⟨h1.1, h6⟩] at ht2
    unfold addV
    rw [upd_ne (by omega), upd_ne (by omega), upd_ne (by omega), upd_ne (by omega), upd_ne (by omega), upd_ne (by omega), upd_ne (by omega), upd_ne (by omega)]
    exact h3 t ht1 (by omega)
theorem plOk.mono {th th' p : Int32} (h : plOk th p) (q : th ≤ th') : plOk th' p := ⟨h.1, h.2.1, h.2.2.imp id fun r => by lia⟩
theorem wChg.mono {th th' : Int32} {pl ol ne : Nat → Int32} {sz dn : Int32} (h : wChg th pl ol ne sz dn) (q : th ≤ th') : wChg th' pl ol ne sz dn :=
  ⟨h.1, h.2.1, h.2.2.1, fun k hk => ⟨(h.2.2.2 k hk).1.mono q, (h.2.2.2 k hk).2⟩⟩
theorem wDays.mono {th th' : Int32} {us : Nat → Int32} {si va ru thg op : Int32} (h : wDays th us si va ru thg op) (h0 : 0 ≤ th) (q : th ≤ th') : wDays th' us si va ru thg op := by
  obtain ⟨h1, h2, h3, h4, h5⟩ := h
  refine ⟨fun t ht => ⟨(h1 t ht).1, fun r => (h1 t ht).2 ?_⟩, h2, h3, by lia, h5⟩
  have a := tn h0
  have b := tn (a := th') (by lia)
  rw [Int32.le_iff_toInt_le] at q
  omega
theorem l10_0 : (¬ ((0 : Int32) < 0 ∨ 10 ≤ (0 : Int32).toNatClampNeg)) = True := eq_true (by decide +kernel)
theorem l10_3 : (¬ ((3 : Int32) < 0 ∨ 10 ≤ (3 : Int32).toNatClampNeg)) = True := eq_true (by decide +kernel)
theorem E_thing (a0 : Int32) (a1 : Int32) {S : z_Stt} (h : Inv S) : ∃ (v : Int32) (S1 S2 : z_Stt), f_X10_thing a0 a1 S = some (v, S1) ∧ f_X11_thing a0 a1 S1 = some (v, S2) ∧ Inv S2 := by
  obtain ⟨hw, e1, e2⟩ := h.1
  obtain ⟨dw, d1, d2, dr⟩ := h.2.2.1
  have m0 : st_MOST (0 : Int32).toNatClampNeg = 144 := by decide +kernel
  have m3 : st_MOST (3 : Int32).toNatClampNeg = 999 := by decide +kernel
  by_cases g0 : 0 ≤ a0 ∧ a0 ≤ 144
  · by_cases g1 : 0 ≤ a1 ∧ a1 ≤ 999
    · by_cases g6 : S.1 101 < 6
      · have t6 : 0 ≤ S.1 101 ∧ S.1 101 < 6 := ⟨hw.1.1, g6⟩
        have n0 : (fun k => k) (S.1 101).toNatClampNeg < 6 := ix_l t6
        obtain ⟨z24, z30⟩ := hw.2.2 _ n0 (Nat.le_refl _)
        obtain ⟨-, z8⟩ := dw.1 _ n0
        obtain ⟨z8, z9⟩ := z8 (Nat.le_refl _)
        have j0 : 0 ≤ 0 + S.1 101 ∧ 0 + S.1 101 < 75 := by lia
        have j6 : 0 ≤ 6 + S.1 101 ∧ 6 + S.1 101 < 75 := by lia
        have j12 : 0 ≤ 12 + S.1 101 ∧ 12 + S.1 101 < 75 := by lia
        have j18 : 0 ≤ 18 + S.1 101 ∧ 18 + S.1 101 < 75 := by lia
        have j24 : 0 ≤ 24 + S.1 101 ∧ 24 + S.1 101 < 75 := by lia
        have j30 : 0 ≤ 30 + S.1 101 ∧ 30 + S.1 101 < 75 := by lia
        have j75 : 0 ≤ S.1 101 ∧ S.1 101 < 75 := by lia
        have g7 : ¬ S.1 101 = 6 := by lia
        have w24 : upd (addV (S.2.2.1 2) (S.1 101).toNatClampNeg a0 10 3 a1) (24 + (S.1 101).toNatClampNeg) 0 = addV (S.2.2.1 2) (S.1 101).toNatClampNeg a0 10 3 a1 := upd_id (by unfold addV; rw [upd_ne (by omega), upd_ne (by omega), upd_ne (by omega), upd_ne (by omega)]; exact z24)
        have w30 : upd (addV (S.2.2.1 2) (S.1 101).toNatClampNeg a0 10 3 a1) (30 + (S.1 101).toNatClampNeg) 0 = addV (S.2.2.1 2) (S.1 101).toNatClampNeg a0 10 3 a1 := upd_id (by unfold addV; rw [upd_ne (by omega), upd_ne (by omega), upd_ne (by omega), upd_ne (by omega)]; exact z30)
        have w8 : upd (S.2.2.1 8) (S.1 101).toNatClampNeg 0 = S.2.2.1 8 := upd_id z8
        have w54 : upd (S.2.2.1 54) (S.1 101).toNatClampNeg 0 = S.2.2.1 54 := upd_id (by rw [d2 _ n0]; exact z9)
        refine ⟨S.1 101, sI (sA S 2 (addV (S.2.2.1 2) (S.1 101).toNatClampNeg a0 10 3 a1)) 101 (S.1 101 + 1), sI (sA (sA (sA (sI (sA S 2 (addV (S.2.2.1 2) (S.1 101).toNatClampNeg a0 10 3 a1)) 101 (S.1 101 + 1)) 49 (addV (S.2.2.1 2) (S.1 101).toNatClampNeg a0 10 3 a1)) 53 (S.2.2.1 53)) 54 (S.2.2.1 54)) 4806 (S.1 101 + 1), ?_, ?_, ?_⟩
        · simp only [f_X10_thing, e_within10, f_X9_come, g_let, l10_0, l10_3, if_true, vp_75, rI, rI2, rJ1, rJ2, rJ3, rA1, rA2, rA3, rA4, rE1, rE2, rE3, rE4, rE5, rR1, rR2, rR3, rR4, rR5, Nat.reduceEqDiff, reduceIte, m0, m3, g_bd, decide_eq_true g0, decide_eq_true g1, if_pos g6, if_pos j0, if_pos j6, if_pos j12, if_pos j18]
          simp only [ix_0 t6, ix_6 t6, ix_12 t6, ix_18 t6]
          refine some_ext rfl (z_ext rfl rfl ?_ rfl rfl)
          funext j
          simp only [rI, rI2, rJ1, rJ2, rJ3, rA1, rA2, rA3, rA4, rE1, rE2, rE3, rE4, rE5, rR1, rR2, rR3, rR4, rR5, Nat.reduceEqDiff, reduceIte]
          unfold addV
          grind
        · simp only [f_X11_thing, e_w_0_144, e_w_0_999, Bool.false_eq_true, if_false, if_true, f_X11_adds, g_let, vp_6, vp_75, rI, rI2, rJ1, rJ2, rJ3, rA1, rA2, rA3, rA4, rE1, rE2, rE3, rE4, rE5, rR1, rR2, rR3, rR4, rR5, Nat.reduceEqDiff, reduceIte, e1, e2, g_bd, decide_eq_true g0, decide_eq_true g1, if_neg g7, if_pos j75, if_pos t6, if_pos j6, if_pos j12, if_pos j18, if_pos j24, if_pos j30]
          simp only [ix_6 t6, ix_12 t6, ix_18 t6, ix_24 t6, ix_30 t6]
          unfold addV at w24 w30
          rw [w24, w30, d1, w8, w54]
          refine some_ext (by lia) (z_ext rfl rfl ?_ rfl rfl)
          funext j
          simp only [rI, rI2, rJ1, rJ2, rJ3, rA1, rA2, rA3, rA4, rE1, rE2, rE3, rE4, rE5, rR1, rR2, rR3, rR4, rR5, Nat.reduceEqDiff, reduceIte]
          unfold addV
          grind
        · refine ⟨⟨hw.more g6 g0 (by decide +kernel) (by decide +kernel) g1, rfl, rfl⟩, ?_, ?_, ?_, h.2.2.2.2.1.of rfl rfl rfl rfl rfl rfl rfl rfl rfl, h.2.2.2.2.2.1.of rfl rfl rfl rfl rfl rfl rfl rfl, h.2.2.2.2.2.2.of rfl (fun n q1 q2 => by simp only [sI, sJ, sA, sE, sR]; repeat rw [if_neg (by omega)]) (fun n q1 q2 => by simp only [sI, sJ, sA, sE, sR]; repeat rw [if_neg (by omega)]) rfl rfl rfl⟩
          · exact ⟨h.2.1.1.mono (by show S.1 101 ≤ S.1 101 + 1; lia), h.2.1.2⟩
          · exact ⟨dw.mono hw.1.1 (by show S.1 101 ≤ S.1 101 + 1; lia), d1, d2, dr⟩
          · obtain ⟨k1, k2, k3⟩ := h.2.2.2.1
            refine ⟨k1, k2, fun k => ?_⟩
            obtain ⟨k4, k5, k6⟩ := k3 k
            exact ⟨k4.mono hw.1.1 (by show S.1 101 ≤ S.1 101 + 1; lia), ⟨k5.1, by show S.1 4834 ≤ S.1 101 + 1; lia⟩, k6⟩
      · refine ⟨-3, S, S, ?_, ?_, h⟩
        · simp only [f_X10_thing, e_within10, l10_0, l10_3, Bool.false_eq_true, if_false, if_true, m0, m3, g_bd, decide_eq_true g0, decide_eq_true g1, if_neg g6, l10_0, l10_3, if_true]
        · have g7 : S.1 4806 = 6 := by have := hw.1; lia
          simp only [f_X11_thing, e_w_0_144, e_w_0_999, Bool.false_eq_true, if_false, if_true, g_bd, decide_eq_true g0, decide_eq_true g1, if_pos g7, if_true]
    · refine ⟨-1, S, S, ?_, ?_, h⟩
      · simp only [f_X10_thing, e_within10, l10_0, l10_3, Bool.false_eq_true, if_false, if_true, m0, m3, g_bd, decide_eq_true g0, decide_eq_false g1]
      · simp only [f_X11_thing, e_w_0_144, e_w_0_999, Bool.false_eq_true, if_false, if_true, g_bd, decide_eq_true g0, decide_eq_false g1]
  · refine ⟨-1, S, S, ?_, ?_, h⟩
    · simp only [f_X10_thing, e_within10, l10_0, l10_3, Bool.false_eq_true, if_false, if_true, m0, m3, g_bd, decide_eq_false g0]
    · simp only [f_X11_thing, e_w_0_144, e_w_0_999, Bool.false_eq_true, if_false, if_true, g_bd, decide_eq_false g0]
