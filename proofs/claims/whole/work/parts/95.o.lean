/-! CAMERA: both loops -/
def cst (f : Nat → Int) (y : Nat) : Nat → Option Nat
  | 0 => none
  | k + 1 => if y.testBit k = true then (match cst f y k with | none => some k | some s => if f k ≤ f s then some s else some k) else cst f y k
theorem cst_in {w : Nat → Int} {y s : Nat} : ∀ k, cst w y k = some s → s < k ∧ y.testBit s = true
  | 0, h => by cases h
  | k + 1, h => by
    rw [cst] at h
    by_cases c : y.testBit k = true
    · rw [if_pos c] at h
      cases e : cst w y k with
      | none =>
        rw [e] at h
        cases h
        exact ⟨by omega, c⟩
      | some u =>
        rw [e] at h
        have ih := cst_in k e
        by_cases q : w k ≤ w u
        · simp only [if_pos q] at h
          cases h
          exact ⟨by omega, ih.2⟩
        · simp only [if_neg q] at h
          cases h
          exact ⟨by omega, c⟩
    · rw [if_neg c] at h
      have ih := cst_in k h
      exact ⟨by omega, ih.2⟩
theorem cst_end {w : Nat → Int} {y th : Nat} (hyt : y < 2 ^ th) : ∀ j, cst w y (th + j) = cst w y th
  | 0 => rfl
  | j + 1 => by
    show cst w y (th + j + 1) = _
    rw [cst, if_neg (out_th hyt (by omega)), cst_end hyt j]
theorem cst_no {w : Nat → Int} {y : Nat} : ∀ k, cst w y k = none → ∀ t, t < k → ¬ y.testBit t = true
  | 0, _, t, ht => absurd ht (by omega)
  | k + 1, h, t, ht => by
    rw [cst] at h
    by_cases c : y.testBit k = true
    · rw [if_pos c] at h
      cases e : cst w y k with
      | none => rw [e] at h; cases h
      | some u =>
        rw [e] at h
        by_cases q : w k ≤ w u
        · simp only [if_pos q] at h; cases h
        · simp only [if_neg q] at h; cases h
    · rw [if_neg c] at h
      by_cases e : t = k
      · rw [e]; exact c
      · exact cst_no k h t (by omega)
theorem e_cst {C : z_Stt} {y : Nat} {n b g h : Nat → Int} (d : Dok y n b g h) (c : cDt C y n b h) {F : Nat} {way : Int64} {W : Int} (eW : way.toInt = W) (hW : 0 ≤ W ∧ W ≤ 19602) : ∀ (j k m : Nat), k + j = 6 → j < m → f_X2_bestSeen_5 F m way (wI (cst (sv n b h W) y k)) (Int32.ofNat k) C = some (wI (cst (sv n b h W) y 6), C) := by
  intro j
  have hy := d.1
  induction j with
  | zero =>
    intro k m hk hm
    obtain ⟨m, rfl⟩ : ∃ q, m = q + 1 := ⟨m - 1, by omega⟩
    have ek : k = 6 := by omega
    subst ek
    rw [f_X2_bestSeen_5, if_pos (by decide +kernel)]
  | succ j ih =>
    intro k m hk hm
    obtain ⟨m, rfl⟩ : ∃ q, m = q + 1 := ⟨m - 1, by omega⟩
    have hk6 : k < 6 := by omega
    have nx := ih (k + 1) m (by omega) (by omega)
    rw [cst] at nx
    rw [f_X2_bestSeen_5, if_neg (by rw [on_6le (by omega)]; omega), e_has hy hk6 c.1.1, g_bds]
    by_cases hb : y.testBit k = true
    · rw [if_pos hb] at nx
      rw [if_pos hb]
      obtain ⟨v, o1, o2⟩ := e_sb d c hk6 hb eW hW
      cases e : cst (sv n b h W) y k with
      | none =>
        rw [e] at nx
        have n1 : wI none < 0 := by decide +kernel
        rw [if_pos n1, f_X2_bestSeen_42, f_X2_bestSeen_45, on_s k (by omega)]
        exact nx
      | some s =>
        rw [e] at nx
        obtain ⟨s1, s2⟩ := cst_in k e
        have s6 : s < 6 := by omega
        obtain ⟨u, q1, q2⟩ := e_sb d c s6 s2 eW hW
        have n1 : ¬ wI (some s) < 0 := Int32.not_lt.mpr (on_p0 (by omega))
        have es : wI (some s) = Int32.ofNat s := rfl
        rw [if_neg n1, o1, g_bds, es, q1, g_bds]
        have cl : (lg_cmp v u ≤ 0) = (sv n b h W k ≤ sv n b h W s) := by rw [lg_cmp_le, Int64.le_iff_toInt_le, o2, q2]
        by_cases l : sv n b h W k ≤ sv n b h W s
        · simp only [if_pos l] at nx
          rw [if_pos (by rw [cl]; exact l), f_X2_bestSeen_45, on_s k (by omega)]
          exact nx
        · simp only [if_neg l] at nx
          rw [if_neg (by rw [cl]; exact l), f_X2_bestSeen_42, f_X2_bestSeen_45, on_s k (by omega)]
          exact nx
    · rw [if_neg hb] at nx
      rw [if_neg hb, f_X2_bestSeen_45, on_s k (by omega)]
      exact nx
theorem one_b : ∀ t : Fin 6, ((1 : Int32) <<< (Int32.ofNat t.val &&& 31)) = Int32.ofNat (2 ^ t.val) := by decide +kernel
theorem dif_1 {y : Nat} (hy : y < 64) {t : Nat} (ht : t < 6) : (Int32.ofNat y &&& (((1 : Int32) <<< (Int32.ofNat t &&& 31)) ^^^ (-1))) = Int32.ofNat (dif y (2 ^ t)) ∧ dif y (2 ^ t) < 64 := by
  have o := one_b ⟨t, ht⟩
  have p : 2 ^ t < 64 := Nat.pow_lt_pow_right (n := 6) (by decide) ht
  have q := dif_8 ⟨y, hy⟩ ⟨2 ^ t, p⟩
  rw [show ((1 : Int32) <<< (Int32.ofNat t &&& 31)) = Int32.ofNat (2 ^ t) from o]
  exact q
theorem nsel_1 (R : Nat → Int) (t : Nat) : sm (nselR (2 ^ t) R) 6 = smx R t := by
  refine sm_congr 6 (fun s _ => ?_)
  unfold nselR
  rw [Nat.testBit_two_pow]
  by_cases c : s = t
  · rw [if_pos (by simp [c]), if_pos c]
  · rw [if_neg (by simp; exact fun q => c q.symm), if_neg c]
/-- what the reference finds of one -/
theorem e_rsv {S T : z_Stt} {y : Nat} {n b g : Nat → Int} (d : Dok y n b g (hD S)) {th : Nat} (h6 : th ≤ 6) (r : rDt T th n b g) {t : Nat} (ht : t < th) {W : Int} (hW : 0 ≤ W ∧ W ≤ 19602) {back bef ot : Int64} (eb : back.toInt = pr g 6 * (W * pr b 6)) (ef : bef.toInt = pr g 6 * minI (W * pr b 6) (sm (RD n b (hD S)) 6)) (eo : ot.toInt = pr g 6 * smx (RD n b (hD S)) t) {hv : Int32} (eh : hv.toInt = hD S t) : ∃ v16 v21 : Int64, f_X11_lesserOf back (hv.toInt64 * T.2.1 4825 + ot) T = some (v16, T) ∧ f_X11_lesserOf back ot T = some (v21, T) ∧ ¬ T.2.2.2.1 59 t = 0 ∧ ((bef - T.2.2.2.1 58 t * (v16 / T.2.2.2.1 59 t)) - (T.2.2.2.1 59 t - T.2.2.2.1 58 t) * (v21 / T.2.2.2.1 59 t)).toInt = pr g 6 * sv n b (hD S) W t := by
  have ht6 : t < 6 := by omega
  obtain ⟨e0, e1⟩ := svE_ok d ht6
  obtain ⟨s1, s2, s3, s4, s5, s6, s7, s8, s9, ⟨s10, s11⟩, s12, s13⟩ := sv_ok d ht6 hW e0 e1
  obtain ⟨-, p1, p2, p3, p4⟩ := d.l
  obtain ⟨d1, d2, d3, d4, d5, d6', dn⟩ := d.2.1 t ht6
  obtain ⟨r1, r2⟩ := r.2 t ht
  have xg := pr_x g t 6 ht6
  have gx := prx_pos (f := g) (s := t) (fun s hs => (d.2.1 s hs).1)
  have gb : 0 < g t * b t := Int.mul_pos d1 d2
  have GB : 0 < g t * b t * prx g t 6 := Int.mul_pos gb gx
  have r6 := nsel_bd d 0 (Nat.le_refl 6)
  rw [nsel_0] at r6
  have g0 : 0 ≤ pr g 6 * pr b 6 := Int.mul_nonneg (by omega) (by omega)
  have gle : ∀ (k x : Int), x ≤ k * pr b 6 → pr g 6 * x ≤ k * (pr g 6 * pr b 6) := by
    intro k x hx
    have z : pr g 6 * x ≤ pr g 6 * (k * pr b 6) := Int.mul_le_mul_of_nonneg_left hx (by omega)
    have e : pr g 6 * (k * pr b 6) = k * (pr g 6 * pr b 6) := by grind
    omega
  have gnn : ∀ x : Int, 0 ≤ x → 0 ≤ pr g 6 * x := fun x hx => Int.mul_nonneg (by omega) hx
  have esv : sv n b (hD S) W t = svI (pr b 6) (sm (RD n b (hD S)) 6) W (n t) (b t) (prx b t 6) (svE n b (hD S) t) (hD S t) := rfl
  generalize hD S t = h at *
  generalize svE n b (hD S) t = E at *
  generalize prx b t 6 = q at *
  generalize prx g t 6 = Gx at *
  -- back, and what stays when it is open, when it is shut
  have b1 : back.toInt = g t * b t * Gx * (W * q) := by rw [eb, xg, s2]; grind
  have b2 : ot.toInt = g t * b t * Gx * E := by rw [eo, xg, e1]; grind
  have hl0 := gnn _ (show 0 ≤ h * pr b 6 from Int.mul_nonneg d5 (by omega))
  have hl1 := gle 999 (h * pr b 6) (Int.mul_le_mul_of_nonneg_right d6' (by omega))
  have c1e : h * (pr g 6 * pr b 6) = pr g 6 * (h * pr b 6) := by grind
  have c1 : (hv.toInt64 * T.2.1 4825).toInt = pr g 6 * (h * pr b 6) := by
    rw [tj_mul (by rw [Int32.toInt_toInt64, eh, r.1, c1e]; omega), Int32.toInt_toInt64, eh, r.1, c1e]
  have ot0 := gnn (smx (RD n b (hD S)) t) (by rw [e1]; exact Int.mul_nonneg (by omega) e0)
  have ot1 := gle 5994 (smx (RD n b (hD S)) t) (by rw [e1]; exact s8)
  have b3 : (hv.toInt64 * T.2.1 4825 + ot).toInt = g t * b t * Gx * (E + h * q) := by
    rw [tj_add (by rw [c1, eo]; omega), c1, b2, xg, s2]; grind
  obtain ⟨v16, l1, l2⟩ := mn_r GB b1 b3 T
  obtain ⟨v21, l3, l4⟩ := mn_r GB b1 b2 T
  rw [mn_cm] at l2 l4
  have n59 : ¬ T.2.2.2.1 59 t = 0 := by
    intro w
    have := congrArg Int64.toInt w
    rw [r2, z0_64] at this
    omega
  have M1 := mn_bd (a := E + h * q) (b := W * q) (by omega) s3
  have M2 := mn_bd (a := E) (b := W * q) e0 s3
  have f1 : (v16 / T.2.2.2.1 59 t).toInt = Gx * minI (E + h * q) (W * q) := by
    have e : g t * b t * Gx * minI (E + h * q) (W * q) = g t * b t * (Gx * minI (E + h * q) (W * q)) := by grind
    rw [tj_div (by rw [l2]; exact Int.mul_nonneg (Int.le_of_lt GB) M1.1) (by rw [r2]; exact gb), l2, r2, e, Int.mul_ediv_cancel_left _ (by omega)]
  have f2 : (v21 / T.2.2.2.1 59 t).toInt = Gx * minI E (W * q) := by
    have e : g t * b t * Gx * minI E (W * q) = g t * b t * (Gx * minI E (W * q)) := by grind
    rw [tj_div (by rw [l4]; exact Int.mul_nonneg (Int.le_of_lt GB) M2.1) (by rw [r2]; exact gb), l4, r2, e, Int.mul_ediv_cancel_left _ (by omega)]
  have k1 := gnn _ s10
  have k2 := gle 19602 _ s11
  have k3 := gnn _ s12
  have k4 := gle 19602 _ s13
  have f3e : g t * n t * (Gx * minI (E + h * q) (W * q)) = pr g 6 * (n t * minI (E + h * q) (W * q)) := by rw [xg]; grind
  have f3 : (T.2.2.2.1 58 t * (v16 / T.2.2.2.1 59 t)).toInt = pr g 6 * (n t * minI (E + h * q) (W * q)) := by
    rw [tj_mul (by rw [r1, f1, f3e]; omega), r1, f1, f3e]
  have gn : 0 ≤ g t * n t ∧ g t * n t ≤ g t * b t := ⟨Int.mul_nonneg (Int.le_of_lt d1) d3, Int.mul_le_mul_of_nonneg_left d4 (Int.le_of_lt d1)⟩
  have gbM : g t * b t ≤ 8916100448256 := by
    have z := pr_x (fun t => g t * b t) t 6 ht6
    have zp : 0 < prx (fun t => g t * b t) t 6 := prx_pos (fun t ht => Int.mul_pos (d.2.1 t ht).1 (d.2.1 t ht).2.1)
    have z2 : g t * b t * 1 ≤ g t * b t * prx (fun t => g t * b t) t 6 := Int.mul_le_mul_of_nonneg_left (by omega) (Int.le_of_lt gb)
    have z3 := d.2.2
    omega
  have f4 : (T.2.2.2.1 59 t - T.2.2.2.1 58 t).toInt = g t * b t - g t * n t := by rw [tj_sub (by rw [r1, r2]; omega), r1, r2]
  have f5e : (g t * b t - g t * n t) * (Gx * minI E (W * q)) = pr g 6 * ((b t - n t) * minI E (W * q)) := by rw [xg]; grind
  have f5 : ((T.2.2.2.1 59 t - T.2.2.2.1 58 t) * (v21 / T.2.2.2.1 59 t)).toInt = pr g 6 * ((b t - n t) * minI E (W * q)) := by
    rw [tj_mul (by rw [f4, f2, f5e]; omega), f4, f2, f5e]
  have wl0 : 0 ≤ W * pr b 6 := Int.mul_nonneg hW.1 (by omega)
  have wl : W * pr b 6 ≤ 19602 * pr b 6 := Int.mul_le_mul_of_nonneg_right hW.2 (by omega)
  have mb := mn_bd (a := W * pr b 6) (b := sm (RD n b (hD S)) 6) wl0 r6.1
  have k5 := gnn _ mb.1
  have k6 := gle 19602 (minI (W * pr b 6) (sm (RD n b (hD S)) 6)) (by omega)
  have f6 : (bef - T.2.2.2.1 58 t * (v16 / T.2.2.2.1 59 t)).toInt = pr g 6 * minI (W * pr b 6) (sm (RD n b (hD S)) 6) - pr g 6 * (n t * minI (E + h * q) (W * q)) := by rw [tj_sub (by rw [ef, f3]; omega), ef, f3]
  refine ⟨v16, v21, l1, l3, n59, ?_⟩
  rw [tj_sub (by rw [f6, f5]; omega), f6, f5]
  rw [esv]
  unfold svI
  grind
