/-! PLAN: what ringing costs, on both sides -/
def nf (n b : Nat → Int) (s t : Nat) : Int := if s.testBit t = true then b t - n t else b t
def UD (n b h : Nat → Int) (s t : Nat) : Int := if s.testBit t = true then 0 else h t * (n t * prx (nf n b s) t 6)
theorem nf_ok {y : Nat} {n b g h : Nat → Int} (d : Dok y n b g h) (s : Nat) {t : Nat} (ht : t < 6) : 0 ≤ nf n b s t ∧ nf n b s t ≤ b t := by
  obtain ⟨d1, d2, d3, d4, d5, d6', dn⟩ := d.2.1 t ht
  unfold nf; split <;> omega
theorem prnf {y : Nat} {n b g h : Nat → Int} (d : Dok y n b g h) (s : Nat) {k : Nat} (hk : k ≤ 6) : 0 ≤ pr (nf n b s) k ∧ pr (nf n b s) k ≤ pr b 6 := by
  have a := pr_mono (f := nf n b s) (g := b) k (fun t ht => nf_ok d s (by omega))
  have c := pr_le' (f := b) (n := 6) (k := k) (fun t ht => (d.2.1 t ht).2.1) hk
  exact ⟨a.1, by omega⟩
theorem UD_ok {y : Nat} {n b g h : Nat → Int} (d : Dok y n b g h) (s : Nat) {t : Nat} (ht : t < 6) : 0 ≤ UD n b h s t ∧ UD n b h s t ≤ 999 * pr b 6 ∧ (¬ s.testBit t = true → UD n b h s t = h t * (n t * (pr (nf n b s) 6 / b t)) ∧ pr (nf n b s) 6 = b t * prx (nf n b s) t 6) := by
  obtain ⟨d1, d2, d3, d4, d5, d6', dn⟩ := d.2.1 t ht
  obtain ⟨-, p1, p2, p3, p4⟩ := d.l
  obtain ⟨q1, q2⟩ := prnf d s (Nat.le_refl 6)
  unfold UD
  by_cases hs : s.testBit t = true
  · rw [if_pos hs]
    exact ⟨by omega, by omega, fun q => absurd hs q⟩
  · rw [if_neg hs]
    have x := pr_x (nf n b s) t 6 ht
    have e : nf n b s t = b t := by unfold nf; rw [if_neg hs]
    rw [e] at x
    have e2 : pr (nf n b s) 6 / b t = prx (nf n b s) t 6 := by rw [x, Int.mul_ediv_cancel_left _ (by omega)]
    obtain ⟨u1, u2⟩ := n_div d3 d2 d4 q1
    rw [e2] at u1 u2 ⊢
    exact ⟨Int.mul_nonneg d5 u1, Int.mul_le_mul d6' (by omega) u1 (by omega), fun _ => ⟨rfl, x⟩⟩
theorem UD_bd {y : Nat} {n b g h : Nat → Int} (d : Dok y n b g h) (s : Nat) {k : Nat} (hk : k ≤ 6) : 0 ≤ sm (UD n b h s) k ∧ sm (UD n b h s) k ≤ 5994 * pr b 6 := by
  obtain ⟨-, p1, p2, p3, p4⟩ := d.l
  have sb := sm_bd (f := UD n b h s) (M := 999 * pr b 6) k (fun t ht => ⟨(UD_ok d s (by omega)).1, (UD_ok d s (by omega)).2.1⟩)
  have kb : (k : Int) * (999 * pr b 6) ≤ 6 * (999 * pr b 6) := Int.mul_le_mul_of_nonneg_right (by omega) (by omega)
  omega
def minI (a b : Int) : Int := if a < b then a else b
/-- ringing, in whole numbers -/
def ringI (l no SU st W Rg rg : Int) : Int := 12 * l * Rg + (12 - rg) * (W * (l - no) + SU) + rg * minI (W * l) st
theorem e_rg92 {C : z_Stt} {y : Nat} {n b g h : Nat → Int} (d : Dok y n b g h) (c : cDt C y n b h) {s : Nat} (hs : s < 64) (F : Nat) {way no : Int64} {rgw pk : Int32} {W Rg rg : Int} (eW : way.toInt = W) (hW : 0 ≤ W ∧ W ≤ 19602) (eR : rgw.toInt = Rg) (hR : 0 ≤ Rg ∧ Rg ≤ 99) (eP : pk.toInt = 12 - rg) (hP : 0 ≤ rg ∧ rg ≤ 12) (eno : no.toInt = pr (nf n b s) 6) : ∀ (j k m : Nat) (x8 : Int64), k + j = 6 → j < m → x8.toInt = W * (pr b 6 - pr (nf n b s) 6) + sm (UD n b h s) k → ∃ v : Int64, f_X2_costOfRinging_92 F m way rgw pk (Int32.ofNat s) no x8 (Int32.ofNat k) C = some (v, C) ∧ v.toInt = ringI (pr b 6) (pr (nf n b s) 6) (sm (UD n b h s) 6) (sm (RD n b h) 6) W Rg rg := by
  intro j
  have hy := d.1
  obtain ⟨-, p1, p2, p3, p4⟩ := d.l
  obtain ⟨q1, q2⟩ := prnf d s (Nat.le_refl 6)
  have w0 : 0 ≤ W * (pr b 6 - pr (nf n b s) 6) := Int.mul_nonneg hW.1 (by omega)
  have w1 : W * (pr b 6 - pr (nf n b s) 6) ≤ 19602 * 8916100448256 := Int.mul_le_mul hW.2 (by omega) (by omega) (by omega)
  induction j with
  | zero =>
    intro k m x8 hk hm hx
    obtain ⟨m, rfl⟩ : ∃ q, m = q + 1 := ⟨m - 1, by omega⟩
    have ek : k = 6 := by omega
    subst ek
    have i12 : (12 : Int64).toInt = 12 := rfl
    have j12 : (12 : Int32).toInt = 12 := rfl
    have u6 := UD_bd d s (Nat.le_refl 6)
    have r6 := nsel_bd d 0 (Nat.le_refl 6)
    rw [nsel_0] at r6
    have a1 : (12 * C.2.1 1804).toInt = 12 * pr b 6 := by rw [tj_mul (by rw [i12, c.2.1]; omega), i12, c.2.1]
    have lR0 : 0 ≤ 12 * pr b 6 * Rg := Int.mul_nonneg (by omega) hR.1
    have lR1 : 12 * pr b 6 * Rg ≤ 12 * 8916100448256 * 99 := Int.mul_le_mul (by omega) hR.2 hR.1 (by omega)
    have a2 : (12 * C.2.1 1804 * rgw.toInt64).toInt = 12 * pr b 6 * Rg := by rw [tj_mul (by rw [a1, Int32.toInt_toInt64, eR]; omega), a1, Int32.toInt_toInt64, eR]
    have h0 : 0 ≤ (12 - rg) * (W * (pr b 6 - pr (nf n b s) 6) + sm (UD n b h s) 6) := Int.mul_nonneg (by omega) (by omega)
    have h1 : (12 - rg) * (W * (pr b 6 - pr (nf n b s) 6) + sm (UD n b h s) 6) ≤ 12 * (25596 * 8916100448256) := Int.mul_le_mul (by omega) (by omega) (by omega) (by omega)
    have a3 : (pk.toInt64 * x8).toInt = (12 - rg) * (W * (pr b 6 - pr (nf n b s) 6) + sm (UD n b h s) 6) := by rw [tj_mul (by rw [Int32.toInt_toInt64, eP, hx]; omega), Int32.toInt_toInt64, eP, hx]
    have wl0 : 0 ≤ W * pr b 6 := Int.mul_nonneg hW.1 (by omega)
    have wl1 : W * pr b 6 ≤ 19602 * 8916100448256 := Int.mul_le_mul hW.2 (by omega) (by omega) (by omega)
    have a4 : (way * C.2.1 1804).toInt = W * pr b 6 := by rw [tj_mul (by rw [eW, c.2.1]; omega), eW, c.2.1]
    have a5 : (12 - pk).toInt = rg := by
      rw [Int32.toInt_sub, j12, eP, Int.bmod_eq_of_le (by omega) (by omega)]; omega
    have a6 : (if way * C.2.1 1804 < C.2.1 1805 then way * C.2.1 1804 else C.2.1 1805).toInt = minI (W * pr b 6) (sm (RD n b h) 6) := by
      unfold minI
      by_cases q : way * C.2.1 1804 < C.2.1 1805
      · have q' := q
        rw [Int64.lt_iff_toInt_lt, a4, c.2.2.1] at q'
        rw [if_pos q, if_pos q', a4]
      · have q' := q
        rw [Int64.lt_iff_toInt_lt, a4, c.2.2.1] at q'
        rw [if_neg q, if_neg q', c.2.2.1]
    have mb : 0 ≤ minI (W * pr b 6) (sm (RD n b h) 6) ∧ minI (W * pr b 6) (sm (RD n b h) 6) ≤ 19602 * 8916100448256 := by unfold minI; split <;> omega
    generalize emn : (if way * C.2.1 1804 < C.2.1 1805 then way * C.2.1 1804 else C.2.1 1805) = mn at *
    have m0 : 0 ≤ rg * minI (W * pr b 6) (sm (RD n b h) 6) := Int.mul_nonneg hP.1 mb.1
    have m1 : rg * minI (W * pr b 6) (sm (RD n b h) 6) ≤ 12 * (19602 * 8916100448256) := Int.mul_le_mul hP.2 mb.2 mb.1 (by omega)
    have a7 : ((12 - pk).toInt64 * mn).toInt = rg * minI (W * pr b 6) (sm (RD n b h) 6) := by rw [tj_mul (by rw [Int32.toInt_toInt64, a5, a6]; omega), Int32.toInt_toInt64, a5, a6]
    have a8 : (12 * C.2.1 1804 * rgw.toInt64 + pk.toInt64 * x8).toInt = 12 * pr b 6 * Rg + (12 - rg) * (W * (pr b 6 - pr (nf n b s) 6) + sm (UD n b h s) 6) := by rw [tj_add (by rw [a2, a3]; omega), a2, a3]
    refine ⟨12 * C.2.1 1804 * rgw.toInt64 + pk.toInt64 * x8 + (12 - pk).toInt64 * mn, ?_, ?_⟩
    · rw [f_X2_costOfRinging_92, if_pos (by decide +kernel), emn]
    · rw [tj_add (by rw [a8, a7]; omega), a8, a7]; rfl
  | succ j ih =>
    intro k m x8 hk hm hx
    obtain ⟨m, rfl⟩ : ∃ q, m = q + 1 := ⟨m - 1, by omega⟩
    have hk6 : k < 6 := by omega
    have u1 := UD_bd d s (k := k) (by omega)
    have u2 := UD_bd d s (k := k + 1) (by omega)
    have e1 : sm (UD n b h s) (k + 1) = sm (UD n b h s) k + UD n b h s k := rfl
    obtain ⟨v1, v2, v3⟩ := UD_ok d s hk6
    have keep : UD n b h s k = 0 → ∃ v : Int64, f_X2_costOfRinging_140 F (f_X2_costOfRinging_92 F m) way rgw pk (Int32.ofNat s) no x8 (Int32.ofNat k) C = some (v, C) ∧ v.toInt = ringI (pr b 6) (pr (nf n b s) 6) (sm (UD n b h s) 6) (sm (RD n b h) 6) W Rg rg := by
      intro e0
      obtain ⟨v, z1, z2⟩ := ih (k + 1) m x8 (by omega) (by omega) (by rw [hx, e1, e0]; omega)
      exact ⟨v, by rw [f_X2_costOfRinging_140, on_s k (by omega)]; exact z1, z2⟩
    by_cases hb : y.testBit k = true
    · by_cases hb2 : s.testBit k = true
      · obtain ⟨v, z1, z2⟩ := keep (by unfold UD; rw [if_pos hb2])
        refine ⟨v, ?_, z2⟩
        rw [f_X2_costOfRinging_92, if_neg (by rw [on_6le (by omega)]; omega), e_has hy hk6 c.1.1, g_bds, if_pos hb, if_neg (fun q => (inZ hs hk6).mp q hb2)]
        exact z1
      · obtain ⟨c1, c2, c3⟩ := c.1.2 k hk6 hb
        obtain ⟨w, y1, y2⟩ := e_chance d c.1 hk6 hb (N := no) (by rw [eno]; exact q1)
        obtain ⟨v4, v5⟩ := v3 hb2
        have ex : ((C.2.2.1 20 k).toInt64 * w).toInt = UD n b h s k := by
          have e : (C.2.2.1 20 k).toInt64.toInt * w.toInt = UD n b h s k := by rw [Int32.toInt_toInt64, c3, y2, eno, v4]
          rw [tj_mul (by rw [e]; omega), e]
        obtain ⟨v, z1, z2⟩ := ih (k + 1) m (x8 + (C.2.2.1 20 k).toInt64 * w) (by omega) (by omega) (by rw [tj_add (by rw [hx, ex]; omega), hx, ex, e1]; omega)
        refine ⟨v, ?_, z2⟩
        rw [f_X2_costOfRinging_92, if_neg (by rw [on_6le (by omega)]; omega), e_has hy hk6 c.1.1, g_bds, if_pos hb, if_pos ((inZ hs hk6).mpr hb2), if_pos (v6n hk6), on_tn (by omega), y1, g_bds, f_X2_costOfRinging_140, on_s k (by omega)]
        exact z1
    · obtain ⟨d1, d2, d3, d4, d5, d6', dn⟩ := d.2.1 k hk6
      obtain ⟨v, z1, z2⟩ := keep (by unfold UD; rw [(dn hb).1]; split <;> omega)
      refine ⟨v, ?_, z2⟩
      rw [f_X2_costOfRinging_92, if_neg (by rw [on_6le (by omega)]; omega), e_has hy hk6 c.1.1, g_bds, if_neg hb]
      exact z1
theorem e_rg6 {C : z_Stt} {y : Nat} {n b g h : Nat → Int} (d : Dok y n b g h) (c : cDt C y n b h) {s : Nat} (hs : s < 64) {F : Nat} (hF : 6 < F) {way : Int64} {rgw pk : Int32} {W Rg rg : Int} (eW : way.toInt = W) (hW : 0 ≤ W ∧ W ≤ 19602) (eR : rgw.toInt = Rg) (hR : 0 ≤ Rg ∧ Rg ≤ 99) (eP : pk.toInt = 12 - rg) (hP : 0 ≤ rg ∧ rg ≤ 12) : ∀ (j k m : Nat) (no : Int64), k + j = 6 → j < m → no.toInt = pr (nf n b s) k → ∃ v : Int64, f_X2_costOfRinging_6 F m way rgw pk (Int32.ofNat s) no (Int32.ofNat k) C = some (v, C) ∧ v.toInt = ringI (pr b 6) (pr (nf n b s) 6) (sm (UD n b h s) 6) (sm (RD n b h) 6) W Rg rg := by
  intro j
  have hy := d.1
  obtain ⟨-, p1, p2, p3, p4⟩ := d.l
  induction j with
  | zero =>
    intro k m no hk hm hx
    obtain ⟨m, rfl⟩ : ∃ q, m = q + 1 := ⟨m - 1, by omega⟩
    have ek : k = 6 := by omega
    subst ek
    obtain ⟨q1, q2⟩ := prnf d s (Nat.le_refl 6)
    have e1 : (C.2.1 1804 - no).toInt = pr b 6 - pr (nf n b s) 6 := by rw [tj_sub (by rw [c.2.1, hx]; omega), c.2.1, hx]
    have w0 : 0 ≤ W * (pr b 6 - pr (nf n b s) 6) := Int.mul_nonneg hW.1 (by omega)
    have w1 : W * (pr b 6 - pr (nf n b s) 6) ≤ 19602 * 8916100448256 := Int.mul_le_mul hW.2 (by omega) (by omega) (by omega)
    obtain ⟨v, z1, z2⟩ := e_rg92 d c hs F eW hW eR hR eP hP hx 6 0 F (way * (C.2.1 1804 - no)) (by omega) hF (by
      rw [tj_mul (by rw [eW, e1]; omega), eW, e1]; show _ = _ + (0 : Int); omega)
    exact ⟨v, by rw [f_X2_costOfRinging_6, if_pos (by decide +kernel)]; exact z1, z2⟩
  | succ j ih =>
    intro k m no hk hm hx
    obtain ⟨m, rfl⟩ : ∃ q, m = q + 1 := ⟨m - 1, by omega⟩
    have hk6 : k < 6 := by omega
    obtain ⟨d1, d2, d3, d4, d5, d6', dn⟩ := d.2.1 k hk6
    obtain ⟨q1, q2⟩ := prnf d s (k := k) (by omega)
    obtain ⟨q3, q4⟩ := prnf d s (k := k + 1) (by omega)
    have e1 : pr (nf n b s) (k + 1) = pr (nf n b s) k * nf n b s k := rfl
    have stp : ∀ x : Int64, x.toInt = nf n b s k → ∃ v : Int64, f_X2_costOfRinging_69 F (f_X2_costOfRinging_6 F m) way rgw pk (Int32.ofNat s) (Int32.ofNat k) x no C = some (v, C) ∧ v.toInt = ringI (pr b 6) (pr (nf n b s) 6) (sm (UD n b h s) 6) (sm (RD n b h) 6) W Rg rg := by
      intro x hxn
      obtain ⟨v, z1, z2⟩ := ih (k + 1) m (no * x) (by omega) (by omega) (by rw [tj_mul (by rw [hx, hxn, ← e1]; omega), hx, hxn, e1])
      exact ⟨v, by rw [f_X2_costOfRinging_69, f_X2_costOfRinging_72, on_s k (by omega)]; exact z1, z2⟩
    by_cases hb : y.testBit k = true
    · obtain ⟨c1, c2, c3⟩ := c.1.2 k hk6 hb
      by_cases hb2 : s.testBit k = true
      · have bm : (C.2.1 (100 * (22 + k) + 1)).toInt ≤ pr b 6 := by
          rw [c2, pr_x b k 6 hk6]
          have : 0 < prx b k 6 := pr_pos 6 (fun t ht => by
            by_cases e : t = k
            · show 0 < (if t = k then (1 : Int) else b t); rw [if_pos e]; omega
            · show 0 < (if t = k then (1 : Int) else b t); rw [if_neg e]; exact (d.2.1 t ht).2.1)
          have z : b k * 1 ≤ b k * prx b k 6 := Int.mul_le_mul_of_nonneg_left (by omega) (by omega)
          omega
        obtain ⟨v, z1, z2⟩ := stp (C.2.1 (100 * (22 + k) + 1) - C.2.1 (100 * (22 + k) + 0)) (by
          rw [tj_sub (by rw [c1]; rw [c2] at bm ⊢; omega), c1, c2]; unfold nf; rw [if_pos hb2])
        refine ⟨v, ?_, z2⟩
        rw [f_X2_costOfRinging_6, if_neg (by rw [on_6le (by omega)]; omega), e_has hy hk6 c.1.1, g_bds, if_pos hb, if_pos ((inN hs hk6).mpr hb2), if_pos (v6n hk6), if_pos (v6n hk6), on_tn (by omega)]
        exact z1
      · obtain ⟨v, z1, z2⟩ := stp (C.2.1 (100 * (22 + k) + 1)) (by rw [c2]; unfold nf; rw [if_neg hb2])
        refine ⟨v, ?_, z2⟩
        rw [f_X2_costOfRinging_6, if_neg (by rw [on_6le (by omega)]; omega), e_has hy hk6 c.1.1, g_bds, if_pos hb, if_neg (fun q => hb2 ((inN hs hk6).mp q)), if_pos (v6n hk6), on_tn (by omega)]
        exact z1
    · have e0 : nf n b s k = 1 := by unfold nf; rw [(dn hb).1, (dn hb).2.1]; split <;> omega
      obtain ⟨v, z1, z2⟩ := ih (k + 1) m no (by omega) (by omega) (by rw [hx, e1, e0]; omega)
      refine ⟨v, ?_, z2⟩
      rw [f_X2_costOfRinging_6, if_neg (by rw [on_6le (by omega)]; omega), e_has hy hk6 c.1.1, g_bds, if_neg hb, f_X2_costOfRinging_72, on_s k (by omega)]
      exact z1
theorem q_rg {C : z_Stt} {y : Nat} {n b g h : Nat → Int} (d : Dok y n b g h) (c : cDt C y n b h) {s : Nat} (hs : s < 64) {F : Nat} (hF : 6 < F) {way : Int64} {rgw pk : Int32} {W Rg rg : Int} (eW : way.toInt = W) (hW : 0 ≤ W ∧ W ≤ 19602) (eR : rgw.toInt = Rg) (hR : 0 ≤ Rg ∧ Rg ≤ 99) (eP : pk.toInt = 12 - rg) (hP : 0 ≤ rg ∧ rg ≤ 12) : ∃ v : Int64, f_X2_costOfRinging F way rgw pk (Int32.ofNat s) C = some (v, C) ∧ v.toInt = ringI (pr b 6) (pr (nf n b s) 6) (sm (UD n b h s) 6) (sm (RD n b h) 6) W Rg rg :=
  e_rg6 d c hs hF eW hW eR hR eP hP 6 0 F 1 (by omega) hF rfl
