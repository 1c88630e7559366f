/-! PLAN: the call -/
theorem e_pl10 {C : z_Stt} {F : Nat} {a2 : Int32} {c : Int32} {x u : Int64} (h : (∃ C' C'', f_X4_become F 17 x (12 * C.2.1 1804) C = some (true, C') ∧ f_X4_part 17 a2 C' = some (u, C''))) : ∃ C'', f_X10_plan_172 F a2 c x C = some (if a2 = 2 then c.toInt64 else u, C'') := by
  obtain ⟨C', C'', h1, h2⟩ := h
  unfold f_X10_plan_172
  by_cases q : a2 = 2
  · rw [if_pos q, if_pos q]; exact ⟨C, rfl⟩
  · rw [if_neg q, if_neg q, h1, g_bds, h2, g_bds]; exact ⟨C'', rfl⟩
theorem e_pl11 {T : z_Stt} {F : Nat} {a2 : Int32} {c : Int32} {x9 x12 x u : Int64} (hl : f_X11_lesserOf x9 x12 T = some (x, T)) (h : ∃ T', f_X11_partOf F x (12 * T.2.1 4825) a2 T = some (u, T')) : ∃ T', f_X11_plan_155 F a2 x9 x12 c T = some (if a2 = 2 then c.toInt64 else u, T') := by
  obtain ⟨T', h1⟩ := h
  unfold f_X11_plan_155
  rw [hl, g_bds]
  by_cases q : a2 = 2
  · rw [if_pos q, if_pos q]; exact ⟨T, rfl⟩
  · rw [if_neg q, if_neg q, h1, g_bds]; exact ⟨T', rfl⟩
/-- choice and least of both -/
def plC (A B R : Int) : Int32 := if (if A ≤ B then A else B) ≤ R then (if A ≤ B then 0 else 1) else 2
def plX (A B R : Int) : Int := if (if A ≤ B then A else B) ≤ R then (if A ≤ B then A else B) else R
theorem lge {a b : Int64} : (0 ≤ lg_cmp a b) = (b.toInt ≤ a.toInt) := by rw [lg_cmp_ge, Int64.le_iff_toInt_le]
theorem pl_c {C : z_Stt} {F : Nat} {x2 a2 : Int32} {way : Int64} {rgw pk : Int32} {s : Nat} (em : x2 % 64 = Int32.ofNat s) {ra : Int64} {A B R : Int} (hra : f_X2_costOfRinging F way rgw pk (Int32.ofNat s) C = some (ra, C)) (eR : ra.toInt = R) (hr : f_X9_ring C = some (rgw, C)) (ep : 12 - C.1 703 = pk) {st bk : Int64} (eA : st.toInt = A) (eB : bk.toInt = B) : ∃ x : Int64, x.toInt = plX A B R ∧ (if 0 ≤ lg_cmp bk st then f_X10_plan_125 F x2 a2 way 0 st C else f_X10_plan_125 F x2 a2 way 1 bk C) = f_X10_plan_172 F a2 (plC A B R) x C := by
  have p125 : ∀ (c : Int32) (x7 : Int64), f_X10_plan_125 F x2 a2 way c x7 C = if 0 ≤ lg_cmp ra x7 then f_X10_plan_172 F a2 c x7 C else f_X10_plan_172 F a2 2 ra C := by
    intro c x7
    unfold f_X10_plan_125
    rw [hr, g_bds, em, ep, hra, g_bds]
  rw [p125, p125]
  simp only [lge, eA, eB, eR]
  unfold plX plC
  by_cases c1 : A ≤ B
  · simp only [if_pos c1, eA]
    by_cases c2 : A ≤ R
    · simp only [if_pos c2]; exact ⟨st, eA, rfl⟩
    · simp only [if_neg c2]; exact ⟨ra, eR, rfl⟩
  · simp only [if_neg c1, eB]
    by_cases c2 : B ≤ R
    · simp only [if_pos c2]; exact ⟨bk, eB, rfl⟩
    · simp only [if_neg c2]; exact ⟨ra, eR, rfl⟩
theorem pl_r {T : z_Stt} {F : Nat} {a2 : Int32} {st bk ra : Int64} {G A B R : Int} (hG : 0 < G) (eA : st.toInt = G * A) (eB : bk.toInt = G * B) (eR : ra.toInt = G * R) : ∃ x x12 : Int64, x.toInt = G * plX A B R ∧ f_X11_lesserOf ra x12 T = some (x, T) ∧ (if 0 ≤ lg_cmp bk st then f_X11_plan_130 F a2 st bk ra 0 T else f_X11_plan_130 F a2 st bk ra 1 T) = f_X11_plan_155 F a2 ra x12 (plC A B R) T := by
  -- the lesser of staying and going
  have l1 : ∃ v1 : Int64, f_X11_lesserOf st bk T = some (v1, T) ∧ v1.toInt = G * (if A ≤ B then A else B) := by
    by_cases c : 0 ≤ lg_cmp st bk
    · have c' := c
      rw [lge, eA, eB, G_le hG] at c'
      refine ⟨bk, less_ge c T, ?_⟩
      by_cases q : A ≤ B
      · rw [if_pos q, eB, show A = B by omega]
      · rw [if_neg q, eB]
    · have c' := c
      rw [lge, eA, eB, G_le hG] at c'
      refine ⟨st, less_lt c T, ?_⟩
      rw [if_pos (by omega), eA]
  obtain ⟨v1, m1, m2⟩ := l1
  have p130 : ∀ c : Int32, f_X11_plan_130 F a2 st bk ra c T = if 0 ≤ lg_cmp ra v1 then f_X11_plan_155 F a2 ra v1 c T else f_X11_plan_155 F a2 ra v1 2 T := by
    intro c
    unfold f_X11_plan_130
    rw [m1, g_bds]
  rw [p130, p130]
  by_cases c2 : (if A ≤ B then A else B) ≤ R
  · have c3 : 0 ≤ lg_cmp ra v1 := by rw [lge, m2, eR, G_le hG]; exact c2
    refine ⟨v1, v1, ?_, less_ge c3 T, ?_⟩
    · unfold plX; rw [if_pos c2]; exact m2
    · rw [if_pos c3, if_pos c3]
      unfold plC
      rw [if_pos c2]
      by_cases c1 : A ≤ B
      · rw [if_pos (by rw [lge, eA, eB, G_le hG]; exact c1), if_pos c1]
      · rw [if_neg (by rw [lge, eA, eB, G_le hG]; exact c1), if_neg c1]
  · have c3 : ¬ 0 ≤ lg_cmp ra v1 := by rw [lge, m2, eR, G_le hG]; exact c2
    refine ⟨ra, v1, ?_, less_lt c3 T, ?_⟩
    · unfold plX; rw [if_neg c2]; exact eR
    · rw [if_neg c3, if_neg c3]
      unfold plC
      rw [if_neg c2]
      split <;> rfl
theorem E_plan (a0 : Int32) (a1 : Int32) (a2 : Int32) {S : z_Stt} (h : Inv S) : ∃ (v : Int64) (S1 S2 : z_Stt), f_X10_plan FUEL a0 a1 a2 S = some (v, S1) ∧ f_X11_plan FUEL a0 a1 a2 S1 = some (v, S2) ∧ Inv S2 := by
  have hF : 92 < FUEL := by decide +kernel
  suffices z : ∃ v S1, f_X10_plan FUEL a0 a1 a2 S = some (v, S1) ∧ (agQ S S1 → ∃ S2, f_X11_plan FUEL a0 a1 a2 S1 = some (v, S2)) by
    obtain ⟨v, S1, z1, z2⟩ := z
    have a := fq_X10_plan _ _ _ _ z1
    obtain ⟨S2, z3⟩ := z2 a
    exact ⟨v, S1, S2, z1, z3, (h.quiet a).quiet (fq_X11_plan _ _ _ _ z3)⟩
  rcases D_cases h a0 with ⟨k10, k11⟩ | ⟨N, th, y, z, edr, hN, ey, ez, hz, hc, hth, h6, hyt, k10, k11⟩
  · refine ⟨-9223372036854775808, S, ?_, fun a => ⟨S, ?_⟩⟩
    · unfold f_X10_plan
      rw [k10 S (agQ.rfl S), g_bds, if_neg (by decide)]
    · unfold f_X11_plan
      rw [k11 S a, g_bds, if_neg (by decide)]
  · by_cases n0 : a1 < 0
    · refine ⟨-9223372036854775808, S, ?_, fun a => ⟨S, ?_⟩⟩
      · unfold f_X10_plan
        rw [k10 S (agQ.rfl S), g_bds, if_pos rfl, if_pos n0]
      · unfold f_X11_plan
        rw [k11 S a, g_bds, if_pos rfl, if_pos n0]
    · have e1 : 0 ≤ a1.toInt := by rw [Int32.lt_iff_toInt_lt, z0_32] at n0; omega
      have e2 := a1.toInt_lt
      obtain ⟨P, eP⟩ : ∃ P : Nat, a1.toInt = P := ⟨a1.toInt.toNat, by omega⟩
      have hP : P < 2147483648 := by omega
      have eap : a1 = Int32.ofNat P := by rw [← Int32.toInt_inj, eP, ti_on hP]
      obtain ⟨s, es⟩ : ∃ s, s = P % 64 := ⟨_, rfl⟩
      have hs : s < 64 := by omega
      have em : a1 % 64 = Int32.ofNat s := by rw [eap, mod64 hP, ← es]
      by_cases g1 : 0 ≤ a1 / 64 ∧ a1 / 64 ≤ 99
      · by_cases g3 : s < 2 ^ th
        · have ar10 : ∀ C, agQ S C → f_X10_areThings (a1 % 64) C = some (true, C) := by
            intro C a
            rw [em, e_areT hs h6 (by rw [q_101 a]; exact hth), decide_eq_true g3]
          have ar11 : ∀ T, agQ S T → ¬ 1 <<< (T.1 4806 &&& 31) ≤ a1 % 64 := by
            intro T a q
            rw [em, q_4806 h a, hth] at q
            exact (arR ⟨s, hs⟩ ⟨th, by omega⟩).mp q g3
          by_cases g2 : 0 ≤ a2 ∧ a2 ≤ 2
          · have hy : y < 64 := by omega
            have d := D_ok h z hy hc
            obtain ⟨-, p1, p2, p3, p4⟩ := d.l
            obtain ⟨b, C, f1, f2, f3, f4⟩ := q_fd h (agQ.rfl S) hF hN ey ez hz hc hth h6 hyt
            rw [← edr] at f1
            have r11 : ∀ T, agQ S T → ∃ (b' : Bool) (T' : z_Stt), f_X11_asksAll FUEL a0 T = some (b', T') ∧ (b' = true ↔ allP S y z) ∧ (allP S y z → rDt T' th (nD S y z) (bD S y z) (gD S y z)) ∧ agQ S T' := by
              intro T a
              rw [edr]
              exact q_aa h a hF hN ey ez hz hc hth h6 hyt
            by_cases P' : allP S y z
            · have eb := f2.mpr P'
              subst eb
              have pv := prV_ok h g1
              have l38 := pr37 h (k := 38) (by decide) (by decide)
              have rgb := rg h.2.2.1.1.2.2.1
              have i12 : (12 : Int32).toInt = 12 := rfl
              have j12 : (12 : Int64).toInt = 12 := rfl
              rw [z0_32, i12] at rgb
              have wbC : f_X10_wayBack (a1 / 64) C = some (prV S (a1 / 64), C) := by rw [e_wayBack, q_prV f4]
              have l38' : ¬ ((38 : Int32) < 0 ∨ 75 ≤ (38 : Int32).toNatClampNeg) := by decide +kernel
              have rgC : f_X9_ring C = some (S.2.2.1 2 38, C) := by
                have e : C.2.2.1 2 = S.2.2.1 2 := f4.2.1 2 (by decide)
                unfold f_X9_ring
                rw [if_pos l38', e]; rfl
              have c703 : C.1 703 = S.1 703 := f4.1 _ (by decide)
              have ePk : (12 - C.1 703).toInt = 12 - (S.1 703).toInt := by
                rw [c703, Int32.toInt_sub, i12]; exact Int.bmod_eq_of_le (by omega) (by omega)
              obtain ⟨ra, ra1, ra2⟩ := q_rg d f3 hs (F := FUEL) (by omega) (way := (prV S (a1 / 64)).toInt64) (Int32.toInt_toInt64 _) pv (rgw := S.2.2.1 2 38) rfl l38 (pk := 12 - C.1 703) ePk rgb
              obtain ⟨w0, w1, w2, w3⟩ := wl_bd d pv
              have r6 := nsel_bd d 0 (Nat.le_refl 6)
              rw [nsel_0] at r6
              have cA : (12 * C.2.1 1805).toInt = 12 * sm (RD (nD S y z) (bD S y z) (hD S)) 6 := by rw [tj_mul (by rw [j12, f3.2.2.1]; omega), j12, f3.2.2.1]
              have cs : (12 * C.2.1 1804).toInt = 12 * pr (bD S y z) 6 := by rw [tj_mul (by rw [j12, f3.2.1]; omega), j12, f3.2.1]
              have eBB : 12 * pr (bD S y z) 6 * (prV S (a1 / 64)).toInt = 12 * ((prV S (a1 / 64)).toInt * pr (bD S y z) 6) := by grind
              have cB : (12 * C.2.1 1804 * (prV S (a1 / 64)).toInt64).toInt = 12 * ((prV S (a1 / 64)).toInt * pr (bD S y z) 6) := by
                rw [tj_mul (by rw [cs, Int32.toInt_toInt64, eBB]; omega), cs, Int32.toInt_toInt64, eBB]
              obtain ⟨x, x1, x2⟩ := pl_c (C := C) (F := FUEL) (a2 := a2) em ra1 ra2 rgC rfl cA cB
              -- nothing here is below nothing
              have R0 : 0 ≤ ringI (pr (bD S y z) 6) (pr (nf (nD S y z) (bD S y z) s) 6) (sm (UD (nD S y z) (bD S y z) (hD S) s) 6) (sm (RD (nD S y z) (bD S y z) (hD S)) 6) (prV S (a1 / 64)).toInt (S.2.2.1 2 38).toInt (S.1 703).toInt := by
                obtain ⟨q1, q2⟩ := prnf d s (Nat.le_refl 6)
                have u6 := UD_bd d s (Nat.le_refl 6)
                have t1 : 0 ≤ 12 * pr (bD S y z) 6 * (S.2.2.1 2 38).toInt := Int.mul_nonneg (by omega) l38.1
                have t2 : 0 ≤ (prV S (a1 / 64)).toInt * (pr (bD S y z) 6 - pr (nf (nD S y z) (bD S y z) s) 6) := Int.mul_nonneg pv.1 (by omega)
                have t3 : 0 ≤ (12 - (S.1 703).toInt) * ((prV S (a1 / 64)).toInt * (pr (bD S y z) 6 - pr (nf (nD S y z) (bD S y z) s) 6) + sm (UD (nD S y z) (bD S y z) (hD S) s) 6) := Int.mul_nonneg (by omega) (by omega)
                have t4 : 0 ≤ minI ((prV S (a1 / 64)).toInt * pr (bD S y z) 6) (sm (RD (nD S y z) (bD S y z) (hD S)) 6) := by unfold minI; split <;> omega
                have t5 : 0 ≤ (S.1 703).toInt * minI ((prV S (a1 / 64)).toInt * pr (bD S y z) 6) (sm (RD (nD S y z) (bD S y z) (hD S)) 6) := Int.mul_nonneg rgb.1 t4
                unfold ringI; omega
              have r11' : ∀ T, agQ S T → ∃ (T' : z_Stt) (xr x12 rr : Int64), agQ S T' ∧ xr.toInt = pr (gD S y z) 6 * x.toInt ∧ f_X11_lesserOf rr x12 T' = some (xr, T') ∧ (T'.2.1 4825).toInt = pr (gD S y z) 6 * pr (bD S y z) 6 ∧ f_X11_plan FUEL a0 a1 a2 T = f_X11_plan_155 FUEL a2 rr x12 (plC (12 * sm (RD (nD S y z) (bD S y z) (hD S)) 6) (12 * ((prV S (a1 / 64)).toInt * pr (bD S y z) 6)) (ringI (pr (bD S y z) 6) (pr (nf (nD S y z) (bD S y z) s) 6) (sm (UD (nD S y z) (bD S y z) (hD S) s) 6) (sm (RD (nD S y z) (bD S y z) (hD S)) 6) (prV S (a1 / 64)).toInt (S.2.2.1 2 38).toInt (S.1 703).toInt)) T' := by
                intro T a
                obtain ⟨b', T', t1, t2, t3, t4⟩ := r11 T a
                have eb' := t2.mpr P'
                subst eb'
                have rd := t3 P'
                obtain ⟨st, s1, s2⟩ := q_sf h t4 d hth h6 hyt rd hy (F := FUEL) (by omega)
                rw [sel_y d] at s2
                obtain ⟨rr, rr1, rr2⟩ := q_ring h t4 d hth h6 hyt rd hs (F := FUEL) (by omega) (x3 := a1 / 64) rfl pv rfl l38 rfl rgb
                have gs0 : 0 ≤ pr (gD S y z) 6 * sm (RD (nD S y z) (bD S y z) (hD S)) 6 := Int.mul_nonneg (by omega) r6.1
                have gs1 : pr (gD S y z) 6 * sm (RD (nD S y z) (bD S y z) (hD S)) 6 ≤ 5994 * 8916100448256 := by
                  have zz : pr (gD S y z) 6 * sm (RD (nD S y z) (bD S y z) (hD S)) 6 ≤ pr (gD S y z) 6 * (5994 * pr (bD S y z) 6) := Int.mul_le_mul_of_nonneg_left r6.2 (by omega)
                  have e : pr (gD S y z) 6 * (5994 * pr (bD S y z) 6) = 5994 * (pr (gD S y z) 6 * pr (bD S y z) 6) := by grind
                  omega
                have rA : (12 * st).toInt = pr (gD S y z) 6 * (12 * sm (RD (nD S y z) (bD S y z) (hD S)) 6) := by
                  have e : 12 * (pr (gD S y z) 6 * sm (RD (nD S y z) (bD S y z) (hD S)) 6) = pr (gD S y z) 6 * (12 * sm (RD (nD S y z) (bD S y z) (hD S)) 6) := by grind
                  rw [tj_mul (by rw [j12, s2]; omega), j12, s2, e]
                have rB1 : (12 * prV S (a1 / 64)).toInt = 12 * (prV S (a1 / 64)).toInt := by rw [ti_mul (by rw [i12]; omega), i12]
                have rB : ((12 * prV S (a1 / 64)).toInt64 * T'.2.1 4825).toInt = pr (gD S y z) 6 * (12 * ((prV S (a1 / 64)).toInt * pr (bD S y z) 6)) := by
                  have e : 12 * (prV S (a1 / 64)).toInt * (pr (gD S y z) 6 * pr (bD S y z) 6) = 12 * (pr (gD S y z) 6 * ((prV S (a1 / 64)).toInt * pr (bD S y z) 6)) := by grind
                  have e2 : 12 * (pr (gD S y z) 6 * ((prV S (a1 / 64)).toInt * pr (bD S y z) 6)) = pr (gD S y z) 6 * (12 * ((prV S (a1 / 64)).toInt * pr (bD S y z) 6)) := by grind
                  rw [tj_mul (by rw [Int32.toInt_toInt64, rB1, rd.1, e]; omega), Int32.toInt_toInt64, rB1, rd.1, e, e2]
                obtain ⟨xr, x12, y1, y2, y3⟩ := pl_r (T := T') (F := FUEL) (a2 := a2) p1 rA rB rr2
                refine ⟨T', xr, x12, rr, t4, by rw [y1, x1], y2, rd.1, ?_⟩
                have em0 : a0 % 64 = Int32.ofNat y := by rw [edr, mod64 hN, ← ey]
                unfold f_X11_plan
                rw [k11 T a, g_bds, if_pos rfl, if_neg n0, e_isYards, g_bds, decide_eq_true g1, if_pos rfl, if_neg (ar11 T a), e_w_0_2, g_bds, decide_eq_true g2, if_pos rfl, t1, g_bds, if_pos rfl, em0, s1, g_bds, e_backG (S := S) (a1 / 64) (q_49 h t4), g_bds, em, rr1, g_bds]
                exact y3
              have X0 : 0 ≤ x.toInt := by
                rw [x1]
                unfold plX
                repeat (first | omega | split)
              have u0 : 0 ≤ pr (gD S y z) 6 * x.toInt := Int.mul_nonneg (by omega) X0
              have gp : 0 < pr (gD S y z) 6 * pr (bD S y z) 6 := Int.mul_pos p1 p2
              have k10' : ∀ rr, f_X10_plan_172 FUEL a2 (plC (12 * sm (RD (nD S y z) (bD S y z) (hD S)) 6) (12 * ((prV S (a1 / 64)).toInt * pr (bD S y z) 6)) (ringI (pr (bD S y z) 6) (pr (nf (nD S y z) (bD S y z) s) 6) (sm (UD (nD S y z) (bD S y z) (hD S) s) 6) (sm (RD (nD S y z) (bD S y z) (hD S)) 6) (prV S (a1 / 64)).toInt (S.2.2.1 2 38).toInt (S.1 703).toInt)) x C = rr → f_X10_plan FUEL a0 a1 a2 S = rr := by
                rintro rr rfl
                unfold f_X10_plan
                rw [k10 S (agQ.rfl S), g_bds, if_pos rfl, if_neg n0, e_within10, g_bds, decide_eq_true g1, if_pos rfl, ar10 S (agQ.rfl S), g_bds, if_pos rfl, e_within10, g_bds, decide_eq_true g2, if_pos rfl, f1, g_bds, if_pos rfl, wbC, g_bds]
                exact x2
              generalize plC (12 * sm (RD (nD S y z) (bD S y z) (hD S)) 6) (12 * ((prV S (a1 / 64)).toInt * pr (bD S y z) 6)) (ringI (pr (bD S y z) 6) (pr (nf (nD S y z) (bD S y z) s) 6) (sm (UD (nD S y z) (bD S y z) (hD S) s) 6) (sm (RD (nD S y z) (bD S y z) (hD S)) 6) (prV S (a1 / 64)).toInt (S.2.2.1 2 38).toInt (S.1 703).toInt) = ch at *
              have own : ∃ u C' C'', f_X4_become FUEL 17 x (12 * C.2.1 1804) C = some (true, C') ∧ f_X4_part 17 a2 C' = some (u, C'') :=
                ⟨_, _, _, e_fr10 hF (by omega) (by rw [i64lt, cs]; omega) C, e_ptf x (12 * C.2.1 1804) a2 C⟩
              obtain ⟨u, C', C'', o1, o2⟩ := own
              obtain ⟨C3, fin⟩ := e_pl10 (c := ch) ⟨C', C'', o1, o2⟩
              refine ⟨_, C3, k10' _ fin, fun a => ?_⟩
              obtain ⟨T', xr, x12, rr, t4, hx, hl, hln, e⟩ := r11' C3 a
              rw [e]
              by_cases q : a2 = 2
              · have : ∃ T'', f_X11_plan_155 FUEL a2 rr x12 ch T' = some (if a2 = 2 then ch.toInt64 else u, T'') := by
                  unfold f_X11_plan_155
                  rw [hl, g_bds, if_pos q, if_pos q]; exact ⟨T', rfl⟩
                exact this
              · have ha : 0 ≤ a2 ∧ a2 ≤ 1 := ⟨g2.1, by have := g2.2; lia⟩
                have l12 : (12 * T'.2.1 4825).toInt = pr (gD S y z) 6 * (12 * C.2.1 1804).toInt := by
                  have e : 12 * (pr (gD S y z) 6 * pr (bD S y z) 6) = pr (gD S y z) 6 * (12 * pr (bD S y z) 6) := by grind
                  rw [tj_mul (by rw [j12, hln]; omega), j12, hln, cs, e]
                have lp : 0 < (12 * T'.2.1 4825).toInt := by
                  rw [tj_mul (by rw [j12, hln]; omega), j12, hln]; omega
                obtain ⟨u', ⟨D', D'', m1, m2⟩, m3⟩ := pt_both p1 hx l12 lp (by rw [hx]; omega) (by omega) hF ha C T'
                rw [o1] at m1
                cases m1
                rw [o2] at m2
                cases m2
                exact e_pl11 hl m3
            · have eb : b = false := by
                cases b with
                | false => rfl
                | true => exact absurd (f2.mp rfl) P'
              subst eb
              refine ⟨-2, C, ?_, fun a => ?_⟩
              · unfold f_X10_plan
                rw [k10 S (agQ.rfl S), g_bds, if_pos rfl, if_neg n0, e_within10, g_bds, decide_eq_true g1, if_pos rfl, ar10 S (agQ.rfl S), g_bds, if_pos rfl, e_within10, g_bds, decide_eq_true g2, if_pos rfl, f1, g_bds, if_neg (by decide)]
              · obtain ⟨b', T', t1, t2, t3, t4⟩ := r11 C a
                have eb' : b' = false := by
                  cases b' with
                  | false => rfl
                  | true => exact absurd (t2.mp rfl) P'
                subst eb'
                refine ⟨T', ?_⟩
                unfold f_X11_plan
                rw [k11 C a, g_bds, if_pos rfl, if_neg n0, e_isYards, g_bds, decide_eq_true g1, if_pos rfl, if_neg (ar11 C a), e_w_0_2, g_bds, decide_eq_true g2, if_pos rfl, t1, g_bds, if_neg (by decide)]
          · refine ⟨-9223372036854775808, S, ?_, fun a => ⟨S, ?_⟩⟩
            · unfold f_X10_plan
              rw [k10 S (agQ.rfl S), g_bds, if_pos rfl, if_neg n0, e_within10, g_bds, decide_eq_true g1, if_pos rfl, ar10 S (agQ.rfl S), g_bds, if_pos rfl, e_within10, g_bds, decide_eq_false g2, if_neg (by decide)]
            · unfold f_X11_plan
              rw [k11 S a, g_bds, if_pos rfl, if_neg n0, e_isYards, g_bds, decide_eq_true g1, if_pos rfl, if_neg (ar11 S a), e_w_0_2, g_bds, decide_eq_false g2, if_neg (by decide)]
        · refine ⟨-9223372036854775808, S, ?_, fun a => ⟨S, ?_⟩⟩
          · unfold f_X10_plan
            rw [k10 S (agQ.rfl S), g_bds, if_pos rfl, if_neg n0, e_within10, g_bds, decide_eq_true g1, if_pos rfl, em, e_areT hs h6 hth, decide_eq_false g3, g_bds, if_neg (by decide)]
          · unfold f_X11_plan
            rw [k11 S a, g_bds, if_pos rfl, if_neg n0, e_isYards, g_bds, decide_eq_true g1, if_pos rfl, em, q_4806 h a, hth, if_pos ((arR ⟨s, hs⟩ ⟨th, by omega⟩).mpr g3)]
      · refine ⟨-9223372036854775808, S, ?_, fun a => ⟨S, ?_⟩⟩
        · unfold f_X10_plan
          rw [k10 S (agQ.rfl S), g_bds, if_pos rfl, if_neg n0, e_within10, g_bds, decide_eq_false g1, if_neg (by decide)]
        · unfold f_X11_plan
          rw [k11 S a, g_bds, if_pos rfl, if_neg n0, e_isYards, g_bds, decide_eq_false g1, if_neg (by decide)]
