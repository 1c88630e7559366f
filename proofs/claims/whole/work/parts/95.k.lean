/-! PLAN: ringing, the reference -/
theorem and_8 : ∀ y s : Fin 64, (Int32.ofNat y.val &&& Int32.ofNat s.val) = Int32.ofNat (y.val &&& s.val) ∧ y.val &&& s.val < 64 := by decide +kernel
def mix (n b : Nat → Int) (s k t : Nat) : Int := if t < k then nf n b s t else b t
theorem prx_pos {f : Nat → Int} {s : Nat} (h : ∀ t, t < 6 → 0 < f t) : 0 < prx f s 6 := pr_pos 6 (fun t ht => by
  by_cases e : t = s
  · show 0 < (if t = s then (1 : Int) else f t); rw [if_pos e]; omega
  · show 0 < (if t = s then (1 : Int) else f t); rw [if_neg e]; exact h t ht)
theorem prx_nn {f : Nat → Int} {s : Nat} (h : ∀ t, t < 6 → 0 ≤ f t) : 0 ≤ prx f s 6 := (pr_mono (f := fun t => if t = s then 1 else f t) (g := fun t => if t = s then 1 else f t) 6 (fun t ht => by
  by_cases e : t = s
  · show 0 ≤ (if t = s then (1 : Int) else f t) ∧ _ ≤ _; rw [if_pos e]; exact ⟨by omega, Int.le_refl _⟩
  · show 0 ≤ (if t = s then (1 : Int) else f t) ∧ _ ≤ _; rw [if_neg e]; exact ⟨h t ht, Int.le_refl _⟩)).1
theorem mix_0 (n b : Nat → Int) (s : Nat) : pr (mix n b s 0) 6 = pr b 6 := pr_congr 6 (fun t _ => if_neg (by omega))
theorem mix_th {y : Nat} {n b g h : Nat → Int} (d : Dok y n b g h) (s : Nat) {th : Nat} (hyt : y < 2 ^ th) : pr (mix n b s th) 6 = pr (nf n b s) 6 := by
  refine pr_congr 6 (fun t ht => ?_)
  unfold mix
  by_cases c : t < th
  · rw [if_pos c]
  · rw [if_neg c]
    obtain ⟨d1, d2, d3, d4, d5, d6', dn⟩ := d.2.1 t ht
    have e := dn (out_th hyt (by omega))
    unfold nf
    rw [e.1]; split <;> omega
theorem mix_s (n b : Nat → Int) (s k : Nat) (hk : k < 6) : pr (mix n b s (k + 1)) 6 = nf n b s k * prx (mix n b s k) k 6 ∧ pr (mix n b s k) 6 = b k * prx (mix n b s k) k 6 := by
  have a := pr_x (mix n b s (k + 1)) k 6 hk
  have c := pr_x (mix n b s k) k 6 hk
  have e1 : mix n b s (k + 1) k = nf n b s k := if_pos (by omega)
  have e2 : mix n b s k k = b k := if_neg (by omega)
  have e3 : prx (mix n b s (k + 1)) k 6 = prx (mix n b s k) k 6 := by
    refine pr_congr 6 (fun t _ => ?_)
    show (if t = k then (1 : Int) else mix n b s (k + 1) t) = if t = k then 1 else mix n b s k t
    by_cases c : t = k
    · rw [if_pos c, if_pos c]
    · rw [if_neg c, if_neg c]
      unfold mix
      by_cases l : t < k
      · rw [if_pos (by omega), if_pos l]
      · rw [if_neg (by omega), if_neg l]
  rw [e1, e3] at a
  rw [e2] at c
  exact ⟨a, c⟩
theorem mix_nn {y : Nat} {n b g h : Nat → Int} (d : Dok y n b g h) (s k : Nat) : (∀ t, t < 6 → 0 ≤ mix n b s k t) ∧ 0 ≤ pr (mix n b s k) 6 ∧ pr (mix n b s k) 6 ≤ pr b 6 := by
  have q : ∀ t, t < 6 → 0 ≤ mix n b s k t ∧ mix n b s k t ≤ b t := by
    intro t ht
    have a := nf_ok d s ht
    have c := (d.2.1 t ht).2.1
    unfold mix; split <;> omega
  exact ⟨fun t ht => (q t ht).1, pr_mono 6 q⟩
theorem e_r94 {S T : z_Stt} (h : Inv S) (a : agQ S T) {y : Nat} {n b g : Nat → Int} (d : Dok y n b g (hD S)) {th : Nat} (hth : S.1 101 = Int32.ofNat th) (h6 : th ≤ 6) (hyt : y < 2 ^ th) (r : rDt T th n b g) {s : Nat} (hs : s < 64) (F : Nat) {x3 : Int32} {back stays shut : Int64} {W Rg rg : Int} (eW : (prV S x3).toInt = W) (hW : 0 ≤ W ∧ W ≤ 19602) (eR : (S.2.2.1 2 38).toInt = Rg) (hR : 0 ≤ Rg ∧ Rg ≤ 99) (eP : (S.1 703).toInt = rg) (hP : 0 ≤ rg ∧ rg ≤ 12) (eb : back.toInt = pr g 6 * (W * pr b 6)) (es : stays.toInt = pr g 6 * sm (RD n b (hD S)) 6) (ex : shut.toInt = pr g 6 * pr (nf n b s) 6) : ∀ (j k m : Nat) (acc : Int64), k + j = th → j < m → acc.toInt = pr g 6 * sm (UD n b (hD S) s) k → ∃ v : Int64, f_X11_ringCosts_94 F m (Int32.ofNat y) (Int32.ofNat s) x3 back stays shut acc (Int32.ofNat k) T = some (v, T) ∧ v.toInt = pr g 6 * ringI (pr b 6) (pr (nf n b s) 6) (sm (UD n b (hD S) s) 6) (sm (RD n b (hD S)) 6) W Rg rg := by
  intro j
  have hy := d.1
  obtain ⟨-, p1, p2, p3, p4⟩ := d.l
  obtain ⟨q1, q2⟩ := prnf d s (Nat.le_refl 6)
  obtain ⟨df1, df2⟩ := dif_8 ⟨y, hy⟩ ⟨s, hs⟩
  have df1' : (Int32.ofNat y &&& (Int32.ofNat s ^^^ (-1))) = Int32.ofNat (dif y s) := df1
  have df2' : dif y s < 64 := df2
  have gl0 : 0 ≤ pr g 6 * pr b 6 := Int.mul_nonneg (by omega) (by omega)
  have gle : ∀ x : Int, x ≤ pr b 6 → pr g 6 * x ≤ pr g 6 * pr b 6 := fun x hx => Int.mul_le_mul_of_nonneg_left hx (by omega)
  induction j with
  | zero =>
    intro k m acc hk hm hac
    obtain ⟨m, rfl⟩ : ∃ q, m = q + 1 := ⟨m - 1, by omega⟩
    have ek : k = th := by omega
    subst ek
    have su : sm (UD n b (hD S) s) 6 = sm (UD n b (hD S) s) k := sm_t6 h6 (fun t h1 h2 => by
      obtain ⟨d1, d2, d3, d4, d5, d6', dn⟩ := d.2.1 t h2
      unfold UD
      rw [(dn (out_th hyt h1)).1]; split <;> omega)
    rw [← su] at hac
    have u6 := UD_bd d s (Nat.le_refl 6)
    have r6 := nsel_bd d 0 (Nat.le_refl 6)
    rw [nsel_0] at r6
    have i12 : (12 : Int32).toInt = 12 := rfl
    have n38 : (38 : Int32).toNatClampNeg = 38 := rfl
    have l38 : ¬ ((38 : Int32) < 0 ∨ 75 ≤ (38 : Int32).toNatClampNeg) := by decide +kernel
    have t703 : T.1 4810 = S.1 703 := (a.1 _ (by decide)).trans h.2.2.1.2.2.2.2.1
    -- the lesser of both
    have mnE : ∃ mn : Int64, f_X11_lesserOf back stays T = some (mn, T) ∧ mn.toInt = pr g 6 * minI (W * pr b 6) (sm (RD n b (hD S)) 6) := by
      unfold minI
      by_cases c : 0 ≤ lg_cmp back stays
      · have c' := c
        rw [lg_cmp_ge, Int64.le_iff_toInt_le, eb, es, G_le p1] at c'
        exact ⟨stays, less_ge c T, by rw [if_neg (by omega), es]⟩
      · have c' := c
        rw [lg_cmp_ge, Int64.le_iff_toInt_le, eb, es, G_le p1] at c'
        exact ⟨back, less_lt c T, by rw [if_pos (by omega), eb]⟩
    obtain ⟨mn, m1, m2⟩ := mnE
    have a1 : (12 * S.2.2.1 2 38).toInt = 12 * Rg := by rw [ti_mul (by rw [i12, eR]; omega), i12, eR]
    have e1 : (12 * S.2.2.1 2 38).toInt64.toInt * (T.2.1 4825).toInt = pr g 6 * (12 * pr b 6 * Rg) := by rw [Int32.toInt_toInt64, a1, r.1]; grind
    have R1 : pr g 6 * (12 * pr b 6 * Rg) ≤ 1188 * 8916100448256 := by
      have e : pr g 6 * (12 * pr b 6 * Rg) = (12 * Rg) * (pr g 6 * pr b 6) := by grind
      rw [e]; exact Int.mul_le_mul (by omega) p4 gl0 (by omega)
    have R0 : 0 ≤ pr g 6 * (12 * pr b 6 * Rg) := Int.mul_nonneg (by omega) (Int.mul_nonneg (by omega) hR.1)
    have a2 : ((12 * S.2.2.1 2 38).toInt64 * T.2.1 4825).toInt = pr g 6 * (12 * pr b 6 * Rg) := by rw [tj_mul (by rw [e1]; omega), e1]
    have gno := gle _ q2
    have gno0 : 0 ≤ pr g 6 * pr (nf n b s) 6 := Int.mul_nonneg (by omega) q1
    have a3 : (T.2.1 4825 - shut).toInt = pr g 6 * (pr b 6 - pr (nf n b s) 6) := by
      have e : pr g 6 * (pr b 6 - pr (nf n b s) 6) = pr g 6 * pr b 6 - pr g 6 * pr (nf n b s) 6 := Int.mul_sub _ _ _
      rw [tj_sub (by rw [r.1, ex]; omega), r.1, ex, e]
    have d0 : 0 ≤ pr g 6 * (pr b 6 - pr (nf n b s) 6) := Int.mul_nonneg (by omega) (by omega)
    have d1 : pr g 6 * (pr b 6 - pr (nf n b s) 6) ≤ 8916100448256 := by have := gle (pr b 6 - pr (nf n b s) 6) (by omega); omega
    have w0 : 0 ≤ W * (pr g 6 * (pr b 6 - pr (nf n b s) 6)) := Int.mul_nonneg hW.1 d0
    have w1 : W * (pr g 6 * (pr b 6 - pr (nf n b s) 6)) ≤ 19602 * 8916100448256 := Int.mul_le_mul hW.2 d1 d0 (by omega)
    have a4 : ((prV S x3).toInt64 * (T.2.1 4825 - shut)).toInt = W * (pr g 6 * (pr b 6 - pr (nf n b s) 6)) := by rw [tj_mul (by rw [Int32.toInt_toInt64, eW, a3]; omega), Int32.toInt_toInt64, eW, a3]
    have gu0 : 0 ≤ pr g 6 * sm (UD n b (hD S) s) 6 := Int.mul_nonneg (by omega) u6.1
    have gu1 : pr g 6 * sm (UD n b (hD S) s) 6 ≤ 5994 * 8916100448256 := by
      have z : pr g 6 * sm (UD n b (hD S) s) 6 ≤ pr g 6 * (5994 * pr b 6) := Int.mul_le_mul_of_nonneg_left u6.2 (by omega)
      have e : pr g 6 * (5994 * pr b 6) = 5994 * (pr g 6 * pr b 6) := by grind
      omega
    have a5 : ((prV S x3).toInt64 * (T.2.1 4825 - shut) + acc).toInt = W * (pr g 6 * (pr b 6 - pr (nf n b s) 6)) + pr g 6 * sm (UD n b (hD S) s) 6 := by rw [tj_add (by rw [a4, hac]; omega), a4, hac]
    have a6 : (12 - S.1 703).toInt = 12 - rg := by rw [Int32.toInt_sub, i12, eP]; exact Int.bmod_eq_of_le (by omega) (by omega)
    have k0 : 0 ≤ (12 - rg) * (W * (pr g 6 * (pr b 6 - pr (nf n b s) 6)) + pr g 6 * sm (UD n b (hD S) s) 6) := Int.mul_nonneg (by omega) (by omega)
    have k1 : (12 - rg) * (W * (pr g 6 * (pr b 6 - pr (nf n b s) 6)) + pr g 6 * sm (UD n b (hD S) s) 6) ≤ 12 * (25596 * 8916100448256) := Int.mul_le_mul (by omega) (by omega) (by omega) (by omega)
    have a7 : ((12 - S.1 703).toInt64 * ((prV S x3).toInt64 * (T.2.1 4825 - shut) + acc)).toInt = (12 - rg) * (W * (pr g 6 * (pr b 6 - pr (nf n b s) 6)) + pr g 6 * sm (UD n b (hD S) s) 6) := by rw [tj_mul (by rw [Int32.toInt_toInt64, a6, a5]; omega), Int32.toInt_toInt64, a6, a5]
    have wl0 : 0 ≤ W * pr b 6 := Int.mul_nonneg hW.1 (by omega)
    have wl1 : W * pr b 6 ≤ 19602 * pr b 6 := Int.mul_le_mul_of_nonneg_right hW.2 (by omega)
    have mb : 0 ≤ minI (W * pr b 6) (sm (RD n b (hD S)) 6) ∧ minI (W * pr b 6) (sm (RD n b (hD S)) 6) ≤ 19602 * pr b 6 := by unfold minI; split <;> omega
    have gm0 : 0 ≤ pr g 6 * minI (W * pr b 6) (sm (RD n b (hD S)) 6) := Int.mul_nonneg (by omega) mb.1
    have gm1 : pr g 6 * minI (W * pr b 6) (sm (RD n b (hD S)) 6) ≤ 19602 * 8916100448256 := by
      have z : pr g 6 * minI (W * pr b 6) (sm (RD n b (hD S)) 6) ≤ pr g 6 * (19602 * pr b 6) := Int.mul_le_mul_of_nonneg_left mb.2 (by omega)
      have e : pr g 6 * (19602 * pr b 6) = 19602 * (pr g 6 * pr b 6) := by grind
      omega
    have o0 : 0 ≤ rg * (pr g 6 * minI (W * pr b 6) (sm (RD n b (hD S)) 6)) := Int.mul_nonneg hP.1 gm0
    have o1 : rg * (pr g 6 * minI (W * pr b 6) (sm (RD n b (hD S)) 6)) ≤ 12 * (19602 * 8916100448256) := Int.mul_le_mul hP.2 gm1 gm0 (by omega)
    have a8 : ((S.1 703).toInt64 * mn).toInt = rg * (pr g 6 * minI (W * pr b 6) (sm (RD n b (hD S)) 6)) := by rw [tj_mul (by rw [Int32.toInt_toInt64, eP, m2]; omega), Int32.toInt_toInt64, eP, m2]
    have a9 : ((12 * S.2.2.1 2 38).toInt64 * T.2.1 4825 + (12 - S.1 703).toInt64 * ((prV S x3).toInt64 * (T.2.1 4825 - shut) + acc)).toInt = pr g 6 * (12 * pr b 6 * Rg) + (12 - rg) * (W * (pr g 6 * (pr b 6 - pr (nf n b s) 6)) + pr g 6 * sm (UD n b (hD S) s) 6) := by rw [tj_add (by rw [a2, a7]; omega), a2, a7]
    refine ⟨(12 * S.2.2.1 2 38).toInt64 * T.2.1 4825 + (12 - S.1 703).toInt64 * ((prV S x3).toInt64 * (T.2.1 4825 - shut) + acc) + (S.1 703).toInt64 * mn, ?_, ?_⟩
    · rw [f_X11_ringCosts_94, if_pos (by rw [q_4806 h a, hth]; exact Int32.le_refl _), e_backG (S := S) x3 (q_49 h a), g_bds, if_pos l38, m1, g_bds, n38, q_49 h a, t703]
    · rw [tj_add (by rw [a9, a8]; omega), a9, a8]
      unfold ringI
      grind
  | succ j ih =>
    intro k m acc hk hm hac
    obtain ⟨m, rfl⟩ : ∃ q, m = q + 1 := ⟨m - 1, by omega⟩
    have hk6 : k < 6 := by omega
    have c : ¬ T.1 4806 ≤ Int32.ofNat k := by rw [q_4806 h a, hth, on_le (by omega) (by omega)]; omega
    obtain ⟨d1, d2, d3, d4, d5, d6', dn⟩ := d.2.1 k hk6
    have e1 : pr g 6 * sm (UD n b (hD S) s) (k + 1) = pr g 6 * sm (UD n b (hD S) s) k + pr g 6 * UD n b (hD S) s k := Int.mul_add _ _ _
    have bb : ∀ i, i ≤ 6 → 0 ≤ pr g 6 * sm (UD n b (hD S) s) i ∧ pr g 6 * sm (UD n b (hD S) s) i ≤ 5994 * 8916100448256 := by
      intro i hi
      have u6 := UD_bd d s hi
      have z : pr g 6 * sm (UD n b (hD S) s) i ≤ pr g 6 * (5994 * pr b 6) := Int.mul_le_mul_of_nonneg_left u6.2 (by omega)
      have e : pr g 6 * (5994 * pr b 6) = 5994 * (pr g 6 * pr b 6) := by grind
      exact ⟨Int.mul_nonneg (by omega) u6.1, by omega⟩
    have b1 := bb k (by omega)
    have b2 := bb (k + 1) (by omega)
    have stp : ∀ x : Int64, x.toInt = pr g 6 * UD n b (hD S) s k → ∃ v : Int64, f_X11_ringCosts_149 F (f_X11_ringCosts_94 F m) (Int32.ofNat y) (Int32.ofNat s) x3 back stays shut (Int32.ofNat k) x acc T = some (v, T) ∧ v.toInt = pr g 6 * ringI (pr b 6) (pr (nf n b s) 6) (sm (UD n b (hD S) s) 6) (sm (RD n b (hD S)) 6) W Rg rg := by
      intro x hx
      obtain ⟨v, z1, z2⟩ := ih (k + 1) m (acc + x) (by omega) (by omega) (by rw [tj_add (by rw [hac, hx]; omega), hac, hx, e1])
      exact ⟨v, by rw [f_X11_ringCosts_149, on_s k (by omega)]; exact z1, z2⟩
    have inb := e_isIn df2' hk6 T
    rw [dif_b] at inb
    by_cases hb : y.testBit k = true ∧ ¬ s.testBit k = true
    · obtain ⟨hb1, hb2⟩ := hb
      rw [hb1, Bool.eq_false_iff.mpr hb2] at inb
      obtain ⟨r1, r2⟩ := r.2 k (by omega)
      obtain ⟨-, -, v3⟩ := UD_ok d s hk6
      obtain ⟨v4, v5⟩ := v3 hb2
      have xg := pr_x g k 6 hk6
      have gx := prx_pos (f := g) (s := k) (fun t ht => (d.2.1 t ht).1)
      have nx := prx_nn (f := nf n b s) (s := k) (fun t ht => (nf_ok d s ht).1)
      have eX : shut.toInt = g k * b k * (prx g k 6 * prx (nf n b s) k 6) := by rw [ex, xg, v5]; grind
      have gno := gle _ q2
      have z := e_term d1 d2 d3 d4 d5 d6' (Int.mul_nonneg (Int.le_of_lt gx) nx) eX (by rw [← eX, ex]; omega) r2 r1 (H := (vAt S (6 * 3 + Int32.ofNat k)).toInt64) (by rw [Int32.toInt_toInt64]; rfl)
      have nr := e_nrG (S := S) (T := T) (q_49 h a) (k := 3) (by decide +kernel) (on_06 hk6)
      have ne : ¬ T.2.2.2.1 59 k = 0 := by
        intro q
        have := congrArg Int64.toInt q
        rw [r2, z0_64] at this
        have p := Int.mul_pos d1 d2
        omega
      obtain ⟨v, z1, z2⟩ := stp (shut / T.2.2.2.1 59 k * T.2.2.2.1 58 k * (vAt S (6 * 3 + Int32.ofNat k)).toInt64) (by
        rw [z.1, xg]; unfold UD; rw [if_neg hb2]; grind)
      refine ⟨v, ?_, z2⟩
      rw [f_X11_ringCosts_94, if_neg c, df1', inb, g_bds, if_pos (by decide), if_pos (v6n hk6), on_tn (by omega), if_pos ne, if_pos (v6m hk6), nr, g_bds]
      exact z1
    · have u0 : UD n b (hD S) s k = 0 := by
        unfold UD
        by_cases hs2 : s.testBit k = true
        · rw [if_pos hs2]
        · have hy2 : ¬ y.testBit k = true := fun q => hb ⟨q, hs2⟩
          rw [if_neg hs2, (dn hy2).1]; omega
      have inb' : (y.testBit k && !s.testBit k) = false := by
        cases e1 : y.testBit k <;> cases e2 : s.testBit k
        · rfl
        · rfl
        · exact absurd ⟨e1, by rw [e2]; decide⟩ hb
        · rfl
      rw [inb'] at inb
      obtain ⟨v, z1, z2⟩ := stp 0 (by rw [u0, Int.mul_zero]; rfl)
      refine ⟨v, ?_, z2⟩
      rw [f_X11_ringCosts_94, if_neg c, df1', inb, g_bds, if_neg (by decide)]
      exact z1
