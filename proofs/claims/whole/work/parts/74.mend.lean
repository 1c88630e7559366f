/-! MEND: the row of changes moves up by one when it is full -/
def shg (f : Nat → Int32) (i : Nat) : Nat → Int32 := fun k => if i ≤ k + 1 ∧ k + 1 < 40 then f (k + 1) else f k
theorem shg_40 (f : Nat → Int32) : shg f 40 = f := by funext k; unfold shg; rw [if_neg (by omega)]
theorem shg_s (f : Nat → Int32) {i : Nat} (h : 1 ≤ i) (h2 : i < 40) : shg (upd f (i - 1) (f i)) (i + 1) = shg f i := by
  funext k
  unfold shg upd
  by_cases c : i + 1 ≤ k + 1 ∧ k + 1 < 40
  · rw [if_pos c, if_neg (by omega), if_pos (by omega)]
  · rw [if_neg c]
    by_cases e : k = i - 1
    · rw [if_pos e, if_pos (by omega)]
      congr 1; omega
    · rw [if_neg e, if_neg (by omega)]
def shS3 (S : z_Stt) (a b c : Nat) (i : Nat) : z_Stt := sA (sA (sA S a (shg (S.2.2.1 a) i)) b (shg (S.2.2.1 b) i)) c (shg (S.2.2.1 c) i)
theorem e_drop (n : Nat) : ∀ (m : Nat) (x : Int32) (S : z_Stt), 1 ≤ x → x ≤ 40 → 40 - x.toInt < m → f_X0_dropOldest_2 n m x S = some ((), sI (shS3 S 4 5 6 x.toNatClampNeg) 304 39) := by
  intro m
  have e40 : (40 : Int32).toInt = 40 := rfl
  have e1 : (1 : Int32).toInt = 1 := rfl
  induction m with
  | zero => intro x S h1 h2 h3; rw [Int32.le_iff_toInt_le] at h2; omega
  | succ m ih =>
    intro x S h1 h2 h3
    have x0 : 0 ≤ x := by lia
    have q := tn x0
    unfold f_X0_dropOldest_2
    by_cases c : 40 ≤ x
    · have hx : x = 40 := by lia
      subst hx
      rw [if_pos c]
      have : (40 : Int32).toNatClampNeg = 40 := rfl
      unfold shS3
      rw [this, shg_40, shg_40, shg_40]
      refine some_ext rfl (z_ext rfl rfl ?_ rfl rfl)
      funext j
      simp only [rI, rI2, rJ1, rJ2, rJ3, rA1, rA2, rA3, rA4, rE1, rE2, rE3, rE4, rE5, rR1, rR2, rR3, rR4, rR5, Nat.reduceEqDiff, reduceIte]
      grind
    · rw [if_neg c]
      have i1 : 0 ≤ x ∧ x < 40 := by lia
      have i2 : 0 ≤ x - 1 ∧ x - 1 < 40 := by lia
      have k1 : (x + 1).toInt = x.toInt + 1 := inc32 (K := 40) (by lia)
      have k2 : (x + 1).toNatClampNeg = x.toNatClampNeg + 1 := by
        have := tn (a := x + 1) (by lia)
        omega
      have k3 : (x - 1).toNatClampNeg = x.toNatClampNeg - 1 := by
        have a := tn i2.1
        have b : (x - 1 + 1).toInt = (x - 1).toInt + 1 := inc32 (K := 40) (by lia)
        have d : x - 1 + 1 = x := by lia
        rw [d] at b
        omega
      have k4 : 1 ≤ x.toNatClampNeg ∧ x.toNatClampNeg < 40 := by
        have a := h1
        have b := i1.2
        rw [Int32.le_iff_toInt_le] at a
        rw [Int32.lt_iff_toInt_lt] at b
        omega
      simp only [vp_40, if_pos i1, if_pos i2, g_let, rI, rI2, rJ1, rJ2, rJ3, rA1, rA2, rA3, rA4, rE1, rE2, rE3, rE4, rE5, rR1, rR2, rR3, rR4, rR5, Nat.reduceEqDiff, reduceIte]
      rw [ih _ _ (by lia) (by lia) (by omega), k2, k3]
      refine some_ext rfl (z_ext rfl rfl ?_ rfl rfl)
      unfold shS3
      simp only [rI, rI2, rJ1, rJ2, rJ3, rA1, rA2, rA3, rA4, rE1, rE2, rE3, rE4, rE5, rR1, rR2, rR3, rR4, rR5, Nat.reduceEqDiff, reduceIte]
      rw [shg_s _ k4.1 k4.2, shg_s _ k4.1 k4.2, shg_s _ k4.1 k4.2]
      funext j
      simp only [rI, rI2, rJ1, rJ2, rJ3, rA1, rA2, rA3, rA4, rE1, rE2, rE3, rE4, rE5, rR1, rR2, rR3, rR4, rR5, Nat.reduceEqDiff, reduceIte]
      grind
theorem e_becomes26 (n : Nat) (p o y : Int32) : ∀ (m : Nat) (x : Int32) (S : z_Stt), 1 ≤ x → x ≤ 40 → 40 - x.toInt < m → f_X11_becomes_26 n m p o y x S = f_X11_becomes_97 n p o y (sI (shS3 S 50 51 52 x.toNatClampNeg) 4805 (S.1 4805 - 1)) := by
  intro m
  have e40 : (40 : Int32).toInt = 40 := rfl
  have e1 : (1 : Int32).toInt = 1 := rfl
  induction m with
  | zero => intro x S h1 h2 h3; rw [Int32.le_iff_toInt_le] at h2; omega
  | succ m ih =>
    intro x S h1 h2 h3
    have x0 : 0 ≤ x := by lia
    have q := tn x0
    unfold f_X11_becomes_26
    by_cases c : 40 ≤ x
    · have hx : x = 40 := by lia
      subst hx
      rw [if_pos c]
      have : (40 : Int32).toNatClampNeg = 40 := rfl
      unfold shS3 g_let
      rw [this, shg_40, shg_40, shg_40]
      congr 1
      refine z_ext rfl rfl ?_ rfl rfl
      funext j
      simp only [rI, rI2, rJ1, rJ2, rJ3, rA1, rA2, rA3, rA4, rE1, rE2, rE3, rE4, rE5, rR1, rR2, rR3, rR4, rR5, Nat.reduceEqDiff, reduceIte]
      grind
    · rw [if_neg c]
      have i1 : 0 ≤ x ∧ x < 40 := by lia
      have i2 : 0 ≤ x - 1 ∧ x - 1 < 40 := by lia
      have k1 : (x + 1).toInt = x.toInt + 1 := inc32 (K := 40) (by lia)
      have k2 : (x + 1).toNatClampNeg = x.toNatClampNeg + 1 := by
        have := tn (a := x + 1) (by lia)
        omega
      have k3 : (x - 1).toNatClampNeg = x.toNatClampNeg - 1 := by
        have a := tn i2.1
        have b : (x - 1 + 1).toInt = (x - 1).toInt + 1 := inc32 (K := 40) (by lia)
        have d : x - 1 + 1 = x := by lia
        rw [d] at b
        omega
      have k4 : 1 ≤ x.toNatClampNeg ∧ x.toNatClampNeg < 40 := by
        have a := h1
        have b := i1.2
        rw [Int32.le_iff_toInt_le] at a
        rw [Int32.lt_iff_toInt_lt] at b
        omega
      simp only [vp_40, if_pos i1, if_pos i2, g_let, rI, rI2, rJ1, rJ2, rJ3, rA1, rA2, rA3, rA4, rE1, rE2, rE3, rE4, rE5, rR1, rR2, rR3, rR4, rR5, Nat.reduceEqDiff, reduceIte]
      rw [ih _ _ (by lia) (by lia) (by omega), k2, k3]
      congr 1
      refine z_ext rfl rfl ?_ rfl rfl
      unfold shS3
      simp only [rI, rI2, rJ1, rJ2, rJ3, rA1, rA2, rA3, rA4, rE1, rE2, rE3, rE4, rE5, rR1, rR2, rR3, rR4, rR5, Nat.reduceEqDiff, reduceIte]
      rw [shg_s _ k4.1 k4.2, shg_s _ k4.1 k4.2, shg_s _ k4.1 k4.2]
      funext j
      simp only [rI, rI2, rJ1, rJ2, rJ3, rA1, rA2, rA3, rA4, rE1, rE2, rE3, rE4, rE5, rR1, rR2, rR3, rR4, rR5, Nat.reduceEqDiff, reduceIte]
      grind
/-- a change written at d -/
def chS (S : z_Stt) (d p o x : Int32) : z_Stt := sI (sI (sA (sA (sA S 4 (upd (S.2.2.1 4) d.toNatClampNeg p)) 5 (upd (S.2.2.1 5) d.toNatClampNeg o)) 6 (upd (S.2.2.1 6) d.toNatClampNeg x)) 304 (d + 1)) 303 (d + 1)
def chT (S : z_Stt) (d p o x : Int32) : z_Stt := sI (sI (sA (sA (sA S 50 (upd (S.2.2.1 50) d.toNatClampNeg p)) 51 (upd (S.2.2.1 51) d.toNatClampNeg o)) 52 (upd (S.2.2.1 52) d.toNatClampNeg x)) 4805 (d + 1)) 4804 (d + 1)
theorem e_add13 (n : Nat) (p o x : Int32) {S : z_Stt} (h : 0 ≤ S.1 304 ∧ S.1 304 < 40) : f_X0_add_13 n p o x S = some ((), chS S (S.1 304) p o x) := by
  simp only [f_X0_add_13, g_let, vp_40, rI, rI2, rJ1, rJ2, rJ3, rA1, rA2, rA3, rA4, rE1, rE2, rE3, rE4, rE5, rR1, rR2, rR3, rR4, rR5, Nat.reduceEqDiff, reduceIte, if_pos h, chS]
theorem e_becomes97 (n : Nat) (p x o : Int32) {S : z_Stt} (h : 0 ≤ S.1 4805 ∧ S.1 4805 < 40) (hp : 0 ≤ p ∧ p < 75) : f_X11_becomes_97 n p x o S = some (o, sA (chT S (S.1 4805) p o x) 49 (upd (S.2.2.1 49) p.toNatClampNeg x)) := by
  simp only [f_X11_becomes_97, g_let, vp_40, vp_75, rI, rI2, rJ1, rJ2, rJ3, rA1, rA2, rA3, rA4, rE1, rE2, rE3, rE4, rE5, rR1, rR2, rR3, rR4, rR5, Nat.reduceEqDiff, reduceIte, if_pos h, if_pos hp, chT]
theorem wChg.add {th p o x d : Int32} {pl ol ne : Nat → Int32} (hd : 0 ≤ d ∧ d < 40) (h : ∀ k, k < d.toNatClampNeg → plOk th (pl k) ∧ (0 ≤ ol k ∧ ol k ≤ mostAt (pl k).toNatClampNeg) ∧ (0 ≤ ne k ∧ ne k ≤ mostAt (pl k).toNatClampNeg)) (hp : plOk th p) (ho : 0 ≤ o ∧ o ≤ mostAt p.toNatClampNeg) (hx : 0 ≤ x ∧ x ≤ mostAt p.toNatClampNeg) : wChg th (upd pl d.toNatClampNeg p) (upd ol d.toNatClampNeg o) (upd ne d.toNatClampNeg x) (d + 1) (d + 1) := by
  refine ⟨by lia, Int32.le_refl _, by lia, fun k hk => ?_⟩
  have k1 : (d + 1).toInt = d.toInt + 1 := inc32 (K := 40) hd.2
  have k2 := tn hd.1
  have k3 := tn (a := d + 1) (by lia)
  by_cases e : k = d.toNatClampNeg
  · subst e; rw [upd_same, upd_same, upd_same]; exact ⟨hp, ho, hx⟩
  · rw [upd_ne e, upd_ne e, upd_ne e]; exact h k (by omega)
theorem fuel40 : 40 - (1 : Int32).toInt < (FUEL : Nat) := by decide +kernel
theorem E_mend (a0 : Int32) (a1 : Int32) (a2 : Int32) {S : z_Stt} (h : Inv S) : ∃ (v : Int32) (S1 S2 : z_Stt), f_X10_mend FUEL a0 a1 a2 S = some (v, S1) ∧ f_X11_mend FUEL a0 a1 a2 S1 = some (v, S2) ∧ Inv S2 := by
  obtain ⟨hw, e1, e2⟩ := h.1
  obtain ⟨⟨c1, c2, c3, c4⟩, c5, c6, c7, c8, c9⟩ := h.2.1
  have th := hw.1
  rcases placeV_ok (a := a0) (b := a1) th with p | ⟨b0, b9, pk, mo⟩
  · refine ⟨-1, S, S, ?_, ?_, h⟩
    · simp only [f_X10_mend, e_placeOf9, g_bd, p]; rfl
    · simp only [f_X11_mend, e_placeOf11 a0 a1 e2 th.1, g_bd, p]; rfl
  · have pn : ¬ placeV (S.1 101) a0 a1 < 0 := by have := pk.1; lia
    have pr : 0 ≤ placeV (S.1 101) a0 a1 ∧ placeV (S.1 101) a0 a1 < 75 := ⟨pk.1, pk.2.1⟩
    by_cases w : 0 ≤ a2 ∧ a2 ≤ st_MOST a1.toNatClampNeg
    · have vo : vAt S (placeV (S.1 101) a0 a1) = S.2.2.1 2 (placeV (S.1 101) a0 a1).toNatClampNeg := if_pos pr
      have w' : 0 ≤ a2 ∧ a2 ≤ mostAt (placeV (S.1 101) a0 a1).toNatClampNeg := by rw [mo]; exact w
      have l10 : f_X10_mend FUEL a0 a1 a2 S = if S.2.2.1 2 (placeV (S.1 101) a0 a1).toNatClampNeg = a2 then some (S.2.2.1 2 (placeV (S.1 101) a0 a1).toNatClampNeg, S) else g_bd (f_X0_add FUEL (placeV (S.1 101) a0 a1) (S.2.2.1 2 (placeV (S.1 101) a0 a1).toNatClampNeg) a2 S) fun v16 S17 => g_bd (f_X9_become (placeV (S.1 101) a0 a1) a2 S17) fun v19 S20 => some (S.2.2.1 2 (placeV (S.1 101) a0 a1).toNatClampNeg, S20) := by
        simp only [f_X10_mend, e_placeOf9, g_bds, if_neg pn, e_mostOf9 ⟨b0, b9⟩, e_within10, decide_eq_true w, if_true, e_at9, vo]
      have l11 : ∀ T : z_Stt, T.1 4806 = S.1 101 → T.1 101 = S.1 101 → f_X11_mend FUEL a0 a1 a2 T = f_X11_becomes FUEL (placeV (S.1 101) a0 a1) a2 T := by
        intro T t1 t2
        have q := e_placeOf11 a0 a1 (S := T) (by rw [t1, t2]) (by rw [t2]; exact th.1)
        simp only [f_X11_mend, q, t2, g_bds, if_neg pn, e_mostOf11 ⟨b0, b9⟩, e_within11 (a := a2) (l := 0) (h := st_MOST a1.toNatClampNeg) (l' := 0) (by decide +kernel) rfl, decide_eq_true w, if_true]
        cases f_X11_becomes FUEL (placeV (S.1 101) a0 a1) a2 T <;> rfl
      have oo := hw.2.1 (placeV (S.1 101) a0 a1).toNatClampNeg (by have := tn pk.1; have q := pk.2.1; rw [Int32.lt_iff_toInt_lt] at q; have e : (75 : Int32).toInt = 75 := rfl; omega)
      have nt := hw.set pk w'
      generalize placeV (S.1 101) a0 a1 = pv at *
      by_cases z : S.2.2.1 2 pv.toNatClampNeg = a2
      · refine ⟨S.2.2.1 2 pv.toNatClampNeg, S, S, ?_, ?_, h⟩
        · rw [l10, if_pos z]
        · rw [l11 S e2 rfl]
          simp only [f_X11_becomes, vp_75, if_pos pr, e1, if_pos z]
      · generalize hov : S.2.2.1 2 pv.toNatClampNeg = ov at *
        have bec : ∀ T : z_Stt, f_X9_become pv a2 T = some ((), sA T 2 (upd (T.2.2.1 2) pv.toNatClampNeg a2)) := by
          intro T
          simp only [f_X9_become, vp_75, if_neg pn, if_neg (by lia : ¬ 75 ≤ pv), if_pos pr, g_let]
        have bc2 : ∀ T : z_Stt, T.2.2.1 49 = S.2.2.1 2 → f_X11_becomes FUEL pv a2 T = if T.1 4805 = 40 then f_X11_becomes_26 FUEL FUEL pv a2 ov 1 T else f_X11_becomes_97 FUEL pv a2 ov T := by
          intro T t
          simp only [f_X11_becomes, vp_75, if_pos pr, t, hov, if_neg z]
        rw [l10, if_neg z]
        by_cases c : S.1 304 < 40
        · have i40 : 0 ≤ S.1 304 ∧ S.1 304 < 40 := ⟨c1, c⟩
          refine ⟨ov, sA (chS S (S.1 304) pv ov a2) 2 (upd (S.2.2.1 2) pv.toNatClampNeg a2), sA (chT (sA (chS S (S.1 304) pv ov a2) 2 (upd (S.2.2.1 2) pv.toNatClampNeg a2)) (S.1 304) pv ov a2) 49 (upd (S.2.2.1 2) pv.toNatClampNeg a2), ?_, ?_, ?_⟩
          · simp only [f_X0_add, if_pos c, e_add13 _ _ _ _ i40, g_bds, bec]
            rfl
          · rw [l11 (sA (chS S (S.1 304) pv ov a2) 2 (upd (S.2.2.1 2) pv.toNatClampNeg a2)) e2 rfl, bc2 (sA (chS S (S.1 304) pv ov a2) 2 (upd (S.2.2.1 2) pv.toNatClampNeg a2)) e1, if_neg (by show ¬ S.1 4805 = 40; lia)]
            rw [e_becomes97 _ _ _ _ (by show 0 ≤ S.1 4805 ∧ S.1 4805 < 40; lia) pr]
            have r1 : (sA (chS S (S.1 304) pv ov a2) 2 (upd (S.2.2.1 2) pv.toNatClampNeg a2)).1 4805 = S.1 304 := c9
            have r2 : (sA (chS S (S.1 304) pv ov a2) 2 (upd (S.2.2.1 2) pv.toNatClampNeg a2)).2.2.1 49 = S.2.2.1 2 := e1
            rw [r1, r2]
          · refine ⟨⟨nt, rfl, e2⟩, ⟨?_, ?_, ?_, ?_, rfl, rfl⟩, h.2.2.1.of rfl rfl rfl rfl rfl rfl rfl rfl rfl rfl rfl rfl rfl rfl rfl, h.2.2.2.1.of rfl rfl rfl rfl rfl rfl rfl rfl rfl rfl rfl rfl, h.2.2.2.2.1.of rfl rfl rfl rfl rfl rfl rfl rfl rfl, h.2.2.2.2.2.1.of rfl rfl rfl rfl rfl rfl rfl rfl, ?_⟩
            · exact wChg.add i40 (fun k hk => c4 k (by have t1 := tn c1; have t2 := tn (a := S.1 303) (by lia); rw [Int32.le_iff_toInt_le] at c2; omega)) pk oo w'
            · show upd (S.2.2.1 50) _ _ = upd (S.2.2.1 4) _ _; rw [c5]
            · show upd (S.2.2.1 51) _ _ = upd (S.2.2.1 5) _ _; rw [c6]
            · show upd (S.2.2.1 52) _ _ = upd (S.2.2.1 6) _ _; rw [c7]
            · unfold chT chS; exact h.2.2.2.2.2.2.of rfl (fun n q1 q2 => by simp only [sI, sJ, sA, sE, sR]; repeat rw [if_neg (by omega)]) (fun n q1 q2 => by simp only [sI, sJ, sA, sE, sR]; repeat rw [if_neg (by omega)]) rfl rfl rfl
        · have d40 : S.1 304 = 40 := by lia
          have s40 : S.1 303 = 40 := by lia
          refine ⟨ov, sA (chS (sI (shS3 S 4 5 6 1) 304 39) 39 pv ov a2) 2 (upd (S.2.2.1 2) pv.toNatClampNeg a2), sA (chT (sI (shS3 (sA (chS (sI (shS3 S 4 5 6 1) 304 39) 39 pv ov a2) 2 (upd (S.2.2.1 2) pv.toNatClampNeg a2)) 50 51 52 1) 4805 39) 39 pv ov a2) 49 (upd (S.2.2.1 2) pv.toNatClampNeg a2), ?_, ?_, ?_⟩
          · have q1 : (1 : Int32).toNatClampNeg = 1 := rfl
            simp only [f_X0_add, if_neg c, f_X0_dropOldest, e_drop FUEL FUEL 1 S (by decide +kernel) (by decide +kernel) fuel40, g_bds, q1]
            rw [e_add13 _ _ _ _ (by decide +kernel : 0 ≤ (39 : Int32) ∧ (39 : Int32) < 40)]
            simp only [g_bds, bec]
            rfl
          · rw [l11 (sA (chS (sI (shS3 S 4 5 6 1) 304 39) 39 pv ov a2) 2 (upd (S.2.2.1 2) pv.toNatClampNeg a2)) e2 rfl, bc2 (sA (chS (sI (shS3 S 4 5 6 1) 304 39) 39 pv ov a2) 2 (upd (S.2.2.1 2) pv.toNatClampNeg a2)) e1, if_pos (by show S.1 4805 = 40; lia)]
            rw [e_becomes26 FUEL _ _ _ FUEL 1 _ (by decide +kernel) (by decide +kernel) fuel40]
            have r1 : (sA (chS (sI (shS3 S 4 5 6 1) 304 39) 39 pv ov a2) 2 (upd (S.2.2.1 2) pv.toNatClampNeg a2)).1 4805 - 1 = 39 := by show S.1 4805 - 1 = 39; lia
            have q1 : (1 : Int32).toNatClampNeg = 1 := rfl
            rw [r1, q1, e_becomes97 _ _ _ _ (by decide +kernel : 0 ≤ (39 : Int32) ∧ (39 : Int32) < 40) pr]
            have r2 : (sI (shS3 (sA (chS (sI (shS3 S 4 5 6 1) 304 39) 39 pv ov a2) 2 (upd (S.2.2.1 2) pv.toNatClampNeg a2)) 50 51 52 1) 4805 39).2.2.1 49 = S.2.2.1 2 := e1
            rw [r2]
            rfl
          · refine ⟨⟨nt, rfl, e2⟩, ⟨?_, ?_, ?_, ?_, rfl, rfl⟩, h.2.2.1.of rfl rfl rfl rfl rfl rfl rfl rfl rfl rfl rfl rfl rfl rfl rfl, h.2.2.2.1.of rfl rfl rfl rfl rfl rfl rfl rfl rfl rfl rfl rfl, h.2.2.2.2.1.of rfl rfl rfl rfl rfl rfl rfl rfl rfl, h.2.2.2.2.2.1.of rfl rfl rfl rfl rfl rfl rfl rfl, ?_⟩
            · refine wChg.add (d := 39) (by decide +kernel) (fun k hk => ?_) pk oo w'
              have hk : k < 39 := hk
              show plOk _ (shg (S.2.2.1 4) 1 k) ∧ (0 ≤ shg (S.2.2.1 5) 1 k ∧ shg (S.2.2.1 5) 1 k ≤ mostAt (shg (S.2.2.1 4) 1 k).toNatClampNeg) ∧ (0 ≤ shg (S.2.2.1 6) 1 k ∧ shg (S.2.2.1 6) 1 k ≤ mostAt (shg (S.2.2.1 4) 1 k).toNatClampNeg)
              unfold shg
              rw [if_pos (by omega), if_pos (by omega), if_pos (by omega)]
              exact c4 (k + 1) (by rw [s40]; show k + 1 < 40; omega)
            · show upd (shg (S.2.2.1 50) 1) _ _ = upd (shg (S.2.2.1 4) 1) _ _; rw [c5]
            · show upd (shg (S.2.2.1 51) 1) _ _ = upd (shg (S.2.2.1 5) 1) _ _; rw [c6]
            · show upd (shg (S.2.2.1 52) 1) _ _ = upd (shg (S.2.2.1 6) 1) _ _; rw [c7]
            · unfold chT chS shS3; exact h.2.2.2.2.2.2.of rfl (fun n q1 q2 => by simp only [sI, sJ, sA, sE, sR]; repeat rw [if_neg (by omega)]) (fun n q1 q2 => by simp only [sI, sJ, sA, sE, sR]; repeat rw [if_neg (by omega)]) rfl rfl rfl
    · refine ⟨-1, S, S, ?_, ?_, h⟩
      · simp only [f_X10_mend, e_placeOf9, g_bds, if_neg pn, e_mostOf9 ⟨b0, b9⟩, e_within10, decide_eq_false w, Bool.false_eq_true, if_false]
      · simp only [f_X11_mend, e_placeOf11 a0 a1 e2 th.1, g_bds, if_neg pn, e_mostOf11 ⟨b0, b9⟩, e_within11 (a := a2) (l := 0) (h := st_MOST a1.toNatClampNeg) (l' := 0) (by decide +kernel) rfl, decide_eq_false w, Bool.false_eq_true, if_false]
