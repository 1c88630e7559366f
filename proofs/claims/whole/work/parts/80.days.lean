/-! DAYS: what is asked of a thing; going on and back -/
theorem e_ofT (k : Int32) {t : Int32} {S : z_Stt} (ht : 0 ≤ t ∧ t < S.1 101) : f_X9_ofThing k t S = some (vAt S (6 * k + t), S) := by
  rw [e_ofThing, if_pos ht]
/-- an index of a thing's number -/
theorem ixT {k t : Int32} (hk : 0 ≤ k ∧ k ≤ 5) (ht : 0 ≤ t ∧ t < 6) : 0 ≤ 6 * k + t ∧ 6 * k + t < 75 ∧ 6 * k ≤ 6 * k + t ∧ 6 * k + t ≤ 6 * k + 5 := by
  rcases cs06 ⟨hk.1, (by lia : k < 6)⟩ with rfl | rfl | rfl | rfl | rfl | rfl <;> rcases cs06 ht with rfl | rfl | rfl | rfl | rfl | rfl <;> decide +kernel
theorem e_nrT {k t : Int32} {S : z_Stt} (h1 : S.2.2.1 49 = S.2.2.1 2) (hk : 0 ≤ k ∧ k ≤ 5) (ht : 0 ≤ t ∧ t < 6) : f_X11_numberOf t k S = some (vAt S (6 * k + t), S) :=
  e_numberOf t k h1 ⟨(ixT hk ht).1, (ixT hk ht).2.1⟩
theorem vAt_ok {S : z_Stt} (h : iTold S) {p : Int32} (hp : 0 ≤ p ∧ p < 75) : 0 ≤ vAt S p ∧ vAt S p ≤ (if p < 6 then 144 else if p < 18 then 12 else if p < 24 then 999 else if p < 30 then 1 else if p < 36 then 5 else 99) := by
  have q := h.1.2.1 p.toNatClampNeg (by have := lt_nat hp.1 hp.2; have e : (75 : Int32).toNatClampNeg = 75 := rfl; omega)
  rw [mostAt_of hp.1] at q
  unfold vAt
  rw [if_pos hp]
  exact q
def trV (S : z_Stt) (t : Int32) : Int32 := if vAt S (6 * 4 + t) = 1 then 12 else vAt S (6 * 1 + t)
def stV (S : z_Stt) (t : Int32) : Int32 := if vAt S (6 * 4 + t) = 1 then S.2.2.1 8 t.toNatClampNeg else vAt S (6 * 2 + t)
theorem e_marked {t : Int32} {S : z_Stt} (ht : 0 ≤ t ∧ t < S.1 101) : f_X10_isMarked t S = some (decide (vAt S (6 * 4 + t) = 1), S) := by
  simp only [f_X10_isMarked, e_ofT _ ht, g_bds]
  split
  · rename_i c; rw [decide_eq_true c]
  · rename_i c; rw [decide_eq_false c]
theorem e_trace10 {t : Int32} {S : z_Stt} (ht : 0 ≤ t ∧ t < S.1 101) : f_X10_traceOf t S = some (trV S t, S) := by
  simp only [f_X10_traceOf, e_marked ht, g_bds, e_ofT _ ht, trV, decide_eq_true_eq]
  split <;> rfl
theorem e_stale10 {t : Int32} {S : z_Stt} (ht : 0 ≤ t ∧ t < S.1 101) (h6 : t < 6) : f_X10_staleOf t S = some (stV S t, S) := by
  simp only [f_X10_staleOf, f_X10_staleOf_28, e_marked ht, g_bds, e_ofT _ ht, stV, decide_eq_true_eq, e_isThing10, vp_6, if_pos ht, if_pos (⟨ht.1, h6⟩ : 0 ≤ t ∧ t < 6)]
  split <;> rfl
theorem e_trace11 {t : Int32} {S : z_Stt} (h1 : S.2.2.1 49 = S.2.2.1 2) (ht : 0 ≤ t ∧ t < 6) : f_X11_traceOf t S = some (trV S t, S) := by
  simp only [f_X11_traceOf, e_nrT h1 (k := 4) (by decide +kernel) ht, e_nrT h1 (k := 1) (by decide +kernel) ht, g_bds, trV]
  split <;> rfl
theorem e_stale11 {t : Int32} {S : z_Stt} (h1 : S.2.2.1 49 = S.2.2.1 2) (h2 : S.2.2.1 53 = S.2.2.1 8) (ht : 0 ≤ t ∧ t < 6) : f_X11_staleOf t S = some (stV S t, S) := by
  simp only [f_X11_staleOf, e_nrT h1 (k := 4) (by decide +kernel) ht, e_nrT h1 (k := 2) (by decide +kernel) ht, g_bds, stV, vp_6, if_pos ht, h2]
  split <;> rfl
theorem l5_0 : (¬ ((0 : Int32) < 0 ∨ 5 ≤ (0 : Int32).toNatClampNeg)) = True := eq_true (by decide +kernel)
theorem l5_1 : (¬ ((1 : Int32) < 0 ∨ 5 ≤ (1 : Int32).toNatClampNeg)) = True := eq_true (by decide +kernel)
theorem l5_2 : (¬ ((2 : Int32) < 0 ∨ 5 ≤ (2 : Int32).toNatClampNeg)) = True := eq_true (by decide +kernel)
theorem l5_3 : (¬ ((3 : Int32) < 0 ∨ 5 ≤ (3 : Int32).toNatClampNeg)) = True := eq_true (by decide +kernel)
theorem l5_4 : (¬ ((4 : Int32) < 0 ∨ 5 ≤ (4 : Int32).toNatClampNeg)) = True := eq_true (by decide +kernel)
theorem l75_36 : (¬ ((36 : Int32) < 0 ∨ 75 ≤ (36 : Int32).toNatClampNeg)) = True := eq_true (by decide +kernel)
theorem l75_37 : (¬ ((37 : Int32) < 0 ∨ 75 ≤ (37 : Int32).toNatClampNeg)) = True := eq_true (by decide +kernel)
theorem l75_38 : (¬ ((38 : Int32) < 0 ∨ 75 ≤ (38 : Int32).toNatClampNeg)) = True := eq_true (by decide +kernel)
theorem n5_0 : (0 : Int32).toNatClampNeg = 0 := rfl
theorem n5_1 : (1 : Int32).toNatClampNeg = 1 := rfl
theorem n5_2 : (2 : Int32).toNatClampNeg = 2 := rfl
theorem n5_3 : (3 : Int32).toNatClampNeg = 3 := rfl
theorem n5_4 : (4 : Int32).toNatClampNeg = 4 := rfl
def prV (S : z_Stt) (a : Int32) : Int32 := (2 * a) * S.2.2.1 2 36
theorem e_wayBack (a : Int32) (S : z_Stt) : f_X10_wayBack a S = some (prV S a, S) := by
  simp only [f_X10_wayBack, f_X9_price, l75_36, if_true, g_bds]; rfl
theorem e_backCosts (a : Int32) {S : z_Stt} (h1 : S.2.2.1 49 = S.2.2.1 2) : f_X11_backCosts a S = some (prV S a, S) := by
  simp only [f_X11_backCosts, l75_36, if_true, h1]; rfl
/-- led after a morning's end -/
def ledV (f : Nat → Int32) (c b o : Int32) : Nat → Int32 := fun k => if k = 0 then f 0 + 1 else if k = 1 then (if b = 0 then f 1 else f 1 + 1) else if k = 2 then (if b = 0 then f 2 else if o = 0 then f 2 + 1 else f 2) else if k = 3 then f 3 + c else if k = 4 then (if f 4 < c then c else f 4) else f k
def vainV (v b o : Int32) : Int32 := if b = 0 then v else if o = 0 then (if 99 < v + 1 then 99 else v + 1) else v
def endS (S : z_Stt) (c b : Int32) : z_Stt := sI (sI (sA S 9 (ledV (S.2.2.1 9) c b (S.1 706))) 702 (vainV (S.1 702) b (S.1 706))) 705 (-1)
theorem sI_self (S : z_Stt) (k : Nat) : sI S k (S.1 k) = S := by
  refine z_ext ?_ rfl rfl rfl rfl
  funext j
  simp only [rI]
  split
  · rename_i e; rw [e]
  · rfl
theorem e_end (c b : Int32) (S : z_Stt) : f_X1_end 7 c b S = some ((), endS S c b) := by
  simp only [f_X1_end, f_X1_end_50, f_X1_end_86, l5_0, l5_1, l5_2, l5_3, l5_4, if_true, n5_0, n5_1, n5_2, n5_3, n5_4, g_let, rI, rI2, rJ1, rJ2, rJ3, rA1, rA2, rA3, rA4, rE1, rE2, rE3, rE4, rE5, rR1, rR2, rR3, rR4, rR5, Nat.reduceEqDiff, reduceIte, Nat.reduceAdd, Nat.reduceMul]
  by_cases hb : b = 0
  · simp only [if_pos hb]
    refine some_ext rfl (z_ext ?_ rfl ?_ rfl rfl)
    · funext j; simp only [endS, rI, rI2, rJ1, rJ2, rJ3, rA1, rA2, rA3, rA4, rE1, rE2, rE3, rE4, rE5, rR1, rR2, rR3, rR4, rR5, Nat.reduceEqDiff, reduceIte, vainV, hb, if_true]; split <;> first | rfl | (split <;> simp_all)
    · funext j; simp only [endS, rI, rI2, rJ1, rJ2, rJ3, rA1, rA2, rA3, rA4, rE1, rE2, rE3, rE4, rE5, rR1, rR2, rR3, rR4, rR5, Nat.reduceEqDiff, reduceIte]
      split <;> first | rfl | (funext k; simp only [ledV, upd]; grind)
  · simp only [if_neg hb]
    by_cases ho : S.1 706 = 0
    · simp only [if_pos ho]
      refine some_ext rfl (z_ext ?_ rfl ?_ rfl rfl)
      · funext j; simp only [endS, rI, rI2, rJ1, rJ2, rJ3, rA1, rA2, rA3, rA4, rE1, rE2, rE3, rE4, rE5, rR1, rR2, rR3, rR4, rR5, Nat.reduceEqDiff, reduceIte, vainV, hb, ho, if_true, if_false]
      · funext j; simp only [endS, rI, rI2, rJ1, rJ2, rJ3, rA1, rA2, rA3, rA4, rE1, rE2, rE3, rE4, rE5, rR1, rR2, rR3, rR4, rR5, Nat.reduceEqDiff, reduceIte]
        split <;> first | rfl | (funext k; simp only [ledV, upd]; grind)
    · simp only [if_neg ho]
      refine some_ext rfl (z_ext ?_ rfl ?_ rfl rfl)
      · funext j; simp only [endS, rI, rI2, rJ1, rJ2, rJ3, rA1, rA2, rA3, rA4, rE1, rE2, rE3, rE4, rE5, rR1, rR2, rR3, rR4, rR5, Nat.reduceEqDiff, reduceIte, vainV, hb, ho, if_false]; split <;> first | rfl | (split <;> simp_all)
      · funext j; simp only [endS, rI, rI2, rJ1, rJ2, rJ3, rA1, rA2, rA3, rA4, rE1, rE2, rE3, rE4, rE5, rR1, rR2, rR3, rR4, rR5, Nat.reduceEqDiff, reduceIte]
        split <;> first | rfl | (funext k; simp only [ledV, upd]; grind)
theorem e_isOver (c : Int32) (S : z_Stt) : f_X11_isOver c S = some (c, sI (sA S 62 (ledV (S.2.2.1 62) c 0 0)) 4830 (-1)) := by
  simp only [f_X11_isOver, f_X11_isOver_45, l5_0, l5_3, l5_4, if_true, g_let]
  simp only [n5_0, n5_3, n5_4, upd, rI, rI2, rJ1, rJ2, rJ3, rA1, rA2, rA3, rA4, rE1, rE2, rE3, rE4, rE5, rR1, rR2, rR3, rR4, rR5, Nat.reduceEqDiff, reduceIte]
  split
  all_goals
    refine some_ext rfl (z_ext rfl rfl ?_ rfl rfl)
    funext j; simp only [rI, rI2, rJ1, rJ2, rJ3, rA1, rA2, rA3, rA4, rE1, rE2, rE3, rE4, rE5, rR1, rR2, rR3, rR4, rR5, Nat.reduceEqDiff, reduceIte]
    split <;> first | rfl | (funext k; simp only [ledV, upd]; grind)
theorem e_isYards (a : Int32) (S : z_Stt) : f_X11_isYards a.toInt64 S = some (decide (0 ≤ a ∧ a ≤ 99), S) := by
  unfold f_X11_isYards
  rw [e_within11 (l := 0) (h := 99) (by decide +kernel) (by decide +kernel)]
  rfl
theorem E_goOn {S : z_Stt} (h : Inv S) : ∃ (v : Int32) (S1 S2 : z_Stt), f_X10_goOn S = some (v, S1) ∧ f_X11_goOn S1 = some (v, S2) ∧ Inv S2 := by
  obtain ⟨hw, e1, e2⟩ := h.1
  obtain ⟨⟨d1, d2, d3, d4, d5⟩, k1, k2, k3, k4, k5, k6, k7⟩ := h.2.2.1
  by_cases c : 0 ≤ S.1 705
  · have ht : 0 ≤ S.1 705 ∧ S.1 705 < S.1 101 := ⟨c, by lia⟩
    have ht6 : 0 ≤ S.1 705 ∧ S.1 705 < 6 := ⟨c, by have := hw.1.2; lia⟩
    obtain ⟨cs, ecs⟩ : ∃ cs, cs = if S.1 706 = 0 then 0 else vAt S (6 * 3 + S.1 705) := ⟨_, rfl⟩
    refine ⟨cs, endS S cs 0, sI (sA (endS S cs 0) 62 (ledV (S.2.2.1 62) cs 0 0)) 4830 (-1), ?_, ?_, ?_⟩
    · simp only [f_X10_goOn, if_pos c, f_X10_costOf, if_true]
      rw [ecs]
      by_cases o : S.1 706 = 0
      · simp only [if_pos o, g_bds, e_end]
      · simp only [if_neg o, e_ofT _ ht, g_bds, e_end]
    · have r1 : (endS S cs 0).1 4830 = S.1 705 := k6
      have r2 : (endS S cs 0).1 4831 = S.1 706 := k7
      have r3 : (endS S cs 0).2.2.1 49 = (endS S cs 0).2.2.1 2 := e1
      have r4 : vAt (endS S cs 0) (6 * 3 + S.1 705) = vAt S (6 * 3 + S.1 705) := rfl
      have r5 : (endS S cs 0).2.2.1 62 = S.2.2.1 62 := rfl
      simp only [f_X11_goOn, f_X11_goOn_33, r1, r2, if_pos c, e_nrT r3 (k := 3) (by decide +kernel) ht6, g_bds, r4, e_isOver, r5]
      by_cases o : S.1 706 = 0
      · rw [if_pos o] at ecs ⊢; rw [ecs]
      · rw [if_neg o] at ecs ⊢; rw [ecs]
    · unfold endS
      refine ⟨h.1.of rfl rfl rfl rfl, h.2.1.of rfl rfl rfl rfl rfl rfl rfl rfl rfl rfl rfl, ⟨⟨d1, ?_, d3, Or.inr rfl, d5⟩, k1, k2, k3, k4, ?_, rfl, k7⟩, h.2.2.2.1.of rfl rfl rfl rfl rfl rfl rfl rfl rfl rfl rfl rfl, h.2.2.2.2.1.of rfl rfl rfl rfl rfl rfl rfl rfl rfl, h.2.2.2.2.2.1.of rfl rfl rfl rfl rfl rfl rfl rfl, h.2.2.2.2.2.2.of rfl (fun n q1 q2 => by simp only [sI, sJ, sA, sE, sR]; repeat rw [if_neg (by omega)]) (fun n q1 q2 => by simp only [sI, sJ, sA, sE, sR]; repeat rw [if_neg (by omega)]) rfl rfl rfl⟩
      · exact d2
      · show ledV (S.2.2.1 62) cs 0 0 = ledV (S.2.2.1 9) cs 0 (S.1 706)
        rw [k5]; funext k; simp only [ledV, if_true]
  · refine ⟨-5, S, S, ?_, ?_, h⟩
    · simp only [f_X10_goOn, if_neg c]
    · simp only [f_X11_goOn, k6, if_neg c]
theorem E_goBack (a0 : Int32) {S : z_Stt} (h : Inv S) : ∃ (v : Int32) (S1 S2 : z_Stt), f_X10_goBack a0 S = some (v, S1) ∧ f_X11_goBack a0 S1 = some (v, S2) ∧ Inv S2 := by
  obtain ⟨hw, e1, e2⟩ := h.1
  obtain ⟨⟨d1, d2, d3, d4, d5⟩, k1, k2, k3, k4, k5, k6, k7⟩ := h.2.2.1
  by_cases g : 0 ≤ a0 ∧ a0 ≤ 99
  · by_cases c : 0 ≤ S.1 705
    · have vn : (1 : Int32) = 0 ↔ False := ⟨fun q => absurd q (by decide +kernel), False.elim⟩
      refine ⟨prV S a0, endS S (prV S a0) 1, sI (sI (sA (endS S (prV S a0) 1) 62 (ledV (S.2.2.1 9) (prV S a0) 1 (S.1 706))) 4809 (vainV (S.1 702) 1 (S.1 706))) 4830 (-1), ?_, ?_, ?_⟩
      · simp only [f_X10_goBack, e_within10, decide_eq_true g, g_bds, if_true, if_pos c, f_X10_costOf, vn, if_false, e_wayBack, e_end]
      · have r1 : (endS S (prV S a0) 1).1 4830 = S.1 705 := k6
        have r2 : (endS S (prV S a0) 1).1 4831 = S.1 706 := k7
        have r3 : (endS S (prV S a0) 1).2.2.1 49 = (endS S (prV S a0) 1).2.2.1 2 := e1
        have r5 : (endS S (prV S a0) 1).2.2.1 62 = S.2.2.1 9 := k5
        have r6 : (endS S (prV S a0) 1).1 4809 = S.1 702 := k3
        have r7 : ∀ T : z_Stt, T.2.2.1 49 = S.2.2.1 2 → f_X11_backCosts a0 T = some (prV S a0, T) := by
          intro T t
          simp only [f_X11_backCosts, l75_36, if_true, t]; rfl
        generalize hE : endS S (prV S a0) 1 = E at *
        have r8 : E.2.2.1 49 = S.2.2.1 2 := by rw [← hE]; exact e1
        simp only [f_X11_goBack, e_isYards, decide_eq_true g, g_bds, if_true, r1, if_pos c, l5_1, l5_2, g_let, rI, rI2, rJ1, rJ2, rJ3, rA1, rA2, rA3, rA4, rE1, rE2, rE3, rE4, rE5, rR1, rR2, rR3, rR4, rR5, Nat.reduceEqDiff, reduceIte, r2, f_X11_goBack_66, f_X11_goBack_70]
        by_cases o : S.1 706 = 0
        · simp only [if_pos o, r6]
          split
          · rw [r7 _ (by simp only [rI, rI2, rJ1, rJ2, rJ3, rA1, rA2, rA3, rA4, rE1, rE2, rE3, rE4, rE5, rR1, rR2, rR3, rR4, rR5, Nat.reduceEqDiff, reduceIte]; exact r8)]
            simp only [g_bds, e_isOver, rI, rI2, rJ1, rJ2, rJ3, rA1, rA2, rA3, rA4, rE1, rE2, rE3, rE4, rE5, rR1, rR2, rR3, rR4, rR5, Nat.reduceEqDiff, reduceIte]
            refine some_ext rfl (z_ext ?_ rfl ?_ rfl rfl)
            · funext j; simp only [rI, rI2, rJ1, rJ2, rJ3, rA1, rA2, rA3, rA4, rE1, rE2, rE3, rE4, rE5, rR1, rR2, rR3, rR4, rR5, Nat.reduceEqDiff, reduceIte, vainV, vn, if_false, o, if_true]; grind
            · funext j; simp only [rI, rI2, rJ1, rJ2, rJ3, rA1, rA2, rA3, rA4, rE1, rE2, rE3, rE4, rE5, rR1, rR2, rR3, rR4, rR5, Nat.reduceEqDiff, reduceIte]
              split <;> first | rfl | skip
              funext k; simp only [ledV, upd, r5, n5_1, n5_2, vn, if_false, o, if_true, rI, rI2, rJ1, rJ2, rJ3, rA1, rA2, rA3, rA4, rE1, rE2, rE3, rE4, rE5, rR1, rR2, rR3, rR4, rR5, Nat.reduceEqDiff, reduceIte]; grind
          · rw [r7 _ (by simp only [rI, rI2, rJ1, rJ2, rJ3, rA1, rA2, rA3, rA4, rE1, rE2, rE3, rE4, rE5, rR1, rR2, rR3, rR4, rR5, Nat.reduceEqDiff, reduceIte]; exact r8)]
            simp only [g_bds, e_isOver, rI, rI2, rJ1, rJ2, rJ3, rA1, rA2, rA3, rA4, rE1, rE2, rE3, rE4, rE5, rR1, rR2, rR3, rR4, rR5, Nat.reduceEqDiff, reduceIte]
            refine some_ext rfl (z_ext ?_ rfl ?_ rfl rfl)
            · funext j; simp only [rI, rI2, rJ1, rJ2, rJ3, rA1, rA2, rA3, rA4, rE1, rE2, rE3, rE4, rE5, rR1, rR2, rR3, rR4, rR5, Nat.reduceEqDiff, reduceIte, vainV, vn, if_false, o, if_true]; grind
            · funext j; simp only [rI, rI2, rJ1, rJ2, rJ3, rA1, rA2, rA3, rA4, rE1, rE2, rE3, rE4, rE5, rR1, rR2, rR3, rR4, rR5, Nat.reduceEqDiff, reduceIte]
              split <;> first | rfl | skip
              funext k; simp only [ledV, upd, r5, n5_1, n5_2, vn, if_false, o, if_true, rI, rI2, rJ1, rJ2, rJ3, rA1, rA2, rA3, rA4, rE1, rE2, rE3, rE4, rE5, rR1, rR2, rR3, rR4, rR5, Nat.reduceEqDiff, reduceIte]; grind
        · simp only [if_neg o]
          rw [r7 _ (by simp only [rI, rI2, rJ1, rJ2, rJ3, rA1, rA2, rA3, rA4, rE1, rE2, rE3, rE4, rE5, rR1, rR2, rR3, rR4, rR5, Nat.reduceEqDiff, reduceIte]; exact r8)]
          simp only [g_bds, e_isOver, rI, rI2, rJ1, rJ2, rJ3, rA1, rA2, rA3, rA4, rE1, rE2, rE3, rE4, rE5, rR1, rR2, rR3, rR4, rR5, Nat.reduceEqDiff, reduceIte]
          refine some_ext rfl (z_ext ?_ rfl ?_ rfl rfl)
          · funext j; simp only [rI, rI2, rJ1, rJ2, rJ3, rA1, rA2, rA3, rA4, rE1, rE2, rE3, rE4, rE5, rR1, rR2, rR3, rR4, rR5, Nat.reduceEqDiff, reduceIte, vainV, vn, if_false, o, if_true]; grind
          · funext j; simp only [rI, rI2, rJ1, rJ2, rJ3, rA1, rA2, rA3, rA4, rE1, rE2, rE3, rE4, rE5, rR1, rR2, rR3, rR4, rR5, Nat.reduceEqDiff, reduceIte]
            split <;> first | rfl | skip
            funext k; simp only [ledV, upd, r5, n5_1, n5_2, vn, if_false, o, if_true, rI, rI2, rJ1, rJ2, rJ3, rA1, rA2, rA3, rA4, rE1, rE2, rE3, rE4, rE5, rR1, rR2, rR3, rR4, rR5, Nat.reduceEqDiff, reduceIte]; grind
      · unfold endS
        refine ⟨h.1.of rfl rfl rfl rfl, h.2.1.of rfl rfl rfl rfl rfl rfl rfl rfl rfl rfl rfl, ⟨⟨d1, ?_, d3, Or.inr rfl, d5⟩, k1, k2, rfl, k4, rfl, rfl, k7⟩, h.2.2.2.1.of rfl rfl rfl rfl rfl rfl rfl rfl rfl rfl rfl rfl, h.2.2.2.2.1.of rfl rfl rfl rfl rfl rfl rfl rfl rfl, h.2.2.2.2.2.1.of rfl rfl rfl rfl rfl rfl rfl rfl, h.2.2.2.2.2.2.of rfl (fun n q1 q2 => by simp only [sI, sJ, sA, sE, sR]; repeat rw [if_neg (by omega)]) (fun n q1 q2 => by simp only [sI, sJ, sA, sE, sR]; repeat rw [if_neg (by omega)]) rfl rfl rfl⟩
        show 0 ≤ vainV (S.1 702) 1 (S.1 706) ∧ vainV (S.1 702) 1 (S.1 706) ≤ 99
        unfold vainV; grind
    · refine ⟨-5, S, S, ?_, ?_, h⟩
      · simp only [f_X10_goBack, e_within10, decide_eq_true g, g_bds, if_true, if_neg c]
      · simp only [f_X11_goBack, e_isYards, decide_eq_true g, g_bds, if_true, k6, if_neg c]
  · refine ⟨-1, S, S, ?_, ?_, h⟩
    · simp only [f_X10_goBack, e_within10, decide_eq_false g, g_bds, Bool.false_eq_true, if_false]
    · simp only [f_X11_goBack, e_isYards, decide_eq_false g, g_bds, Bool.false_eq_true, if_false]
