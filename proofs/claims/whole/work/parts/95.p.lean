/-! CAMERA: the call -/
def xmV (G : Int) (f : Nat → Int) (o : Option Nat) (x : Int64) : Prop := match o with | none => True | some s => x.toInt = G * f s
theorem e_cam {S T : z_Stt} (h : Inv S) (a : agQ S T) {y : Nat} {n b g : Nat → Int} (d : Dok y n b g (hD S)) {th : Nat} (hth : S.1 101 = Int32.ofNat th) (h6 : th ≤ 6) (hyt : y < 2 ^ th) (r : rDt T th n b g) {F : Nat} (hF : 92 < F) {x3 : Int32} {W : Int} (hW : 0 ≤ W ∧ W ≤ 19602) {back bef : Int64} (eb : back.toInt = pr g 6 * (W * pr b 6)) (ef : bef.toInt = pr g 6 * minI (W * pr b 6) (sm (RD n b (hD S)) 6)) : ∀ (j k m : Nat) (x10 : Int64), k + j = th → j < m → xmV (pr g 6) (sv n b (hD S) W) (cst (sv n b (hD S) W) y k) x10 → ∃ x : Int64, xmV (pr g 6) (sv n b (hD S) W) (cst (sv n b (hD S) W) y th) x ∧ f_X11_camera_90 F m x3 (Int32.ofNat y) back bef (wI (cst (sv n b (hD S) W) y k)) x10 (Int32.ofNat k) T = if x3 = 2 then some ((wI (cst (sv n b (hD S) W) y th)).toInt64, T) else g_bd (f_X11_partOf F x (T.2.1 4825) x3 T) fun v3 S4 => some (v3, S4) := by
  intro j
  have hy := d.1
  obtain ⟨-, p1, p2, p3, p4⟩ := d.l
  induction j with
  | zero =>
    intro k m x10 hk hm hx
    obtain ⟨m, rfl⟩ : ∃ q, m = q + 1 := ⟨m - 1, by omega⟩
    have ek : k = th := by omega
    subst ek
    refine ⟨x10, hx, ?_⟩
    rw [f_X11_camera_90, if_pos (by rw [q_4806 h a, hth]; exact Int32.le_refl _)]
  | succ j ih =>
    intro k m x10 hk hm hx
    obtain ⟨m, rfl⟩ : ∃ q, m = q + 1 := ⟨m - 1, by omega⟩
    have hk6 : k < 6 := by omega
    have c : ¬ T.1 4806 ≤ Int32.ofNat k := by rw [q_4806 h a, hth, on_le (by omega) (by omega)]; omega
    have nx := fun x => ih (k + 1) m x (by omega) (by omega)
    rw [cst] at nx
    by_cases hb : y.testBit k = true
    · rw [if_pos hb] at nx
      obtain ⟨q1, q2⟩ := dif_1 hy hk6
      obtain ⟨ot, o1, o2⟩ := q_sf h a d hth h6 hyt r q2 (F := F) (by omega)
      rw [sel_dif d, nsel_1] at o2
      have nr := e_nrG (S := S) (T := T) (q_49 h a) (k := 3) (by decide +kernel) (on_06 hk6)
      obtain ⟨v16, v21, l1, l2, n59, l3⟩ := e_rsv d h6 r (t := k) (by omega) hW eb ef o2 (hv := vAt S (6 * 3 + Int32.ofNat k)) rfl
      have go : ∀ rr, (if wI (cst (sv n b (hD S) W) y k) < 0 then f_X11_camera_219 F (f_X11_camera_90 F m) x3 (Int32.ofNat y) back bef x10 (Int32.ofNat k) ((bef - T.2.2.2.1 58 k * (v16 / T.2.2.2.1 59 k)) - (T.2.2.2.1 59 k - T.2.2.2.1 58 k) * (v21 / T.2.2.2.1 59 k)) T else if lg_cmp ((bef - T.2.2.2.1 58 k * (v16 / T.2.2.2.1 59 k)) - (T.2.2.2.1 59 k - T.2.2.2.1 58 k) * (v21 / T.2.2.2.1 59 k)) x10 ≤ 0 then f_X11_camera_226 F (f_X11_camera_90 F m) x3 (Int32.ofNat y) back bef x10 (Int32.ofNat k) ((bef - T.2.2.2.1 58 k * (v16 / T.2.2.2.1 59 k)) - (T.2.2.2.1 59 k - T.2.2.2.1 58 k) * (v21 / T.2.2.2.1 59 k)) (wI (cst (sv n b (hD S) W) y k)) T else f_X11_camera_219 F (f_X11_camera_90 F m) x3 (Int32.ofNat y) back bef x10 (Int32.ofNat k) ((bef - T.2.2.2.1 58 k * (v16 / T.2.2.2.1 59 k)) - (T.2.2.2.1 59 k - T.2.2.2.1 58 k) * (v21 / T.2.2.2.1 59 k)) T) = rr → f_X11_camera_90 F (m + 1) x3 (Int32.ofNat y) back bef (wI (cst (sv n b (hD S) W) y k)) x10 (Int32.ofNat k) T = rr := by
        rintro rr rfl
        rw [f_X11_camera_90, if_neg c, e_isIn hy hk6, g_bds, if_pos hb, q1, o1, g_bds, nr, g_bds, l1, g_bds, if_pos (v6n hk6), on_tn (by omega), if_pos n59, l2, g_bds, if_pos (v6m hk6), if_pos n59, if_pos (v6m hk6), if_pos (v6m hk6), if_pos (v6m hk6)]
      generalize (bef - T.2.2.2.1 58 k * (v16 / T.2.2.2.1 59 k)) - (T.2.2.2.1 59 k - T.2.2.2.1 58 k) * (v21 / T.2.2.2.1 59 k) = V at *
      have tk : f_X11_camera_219 F (f_X11_camera_90 F m) x3 (Int32.ofNat y) back bef x10 (Int32.ofNat k) V T = f_X11_camera_90 F m x3 (Int32.ofNat y) back bef (Int32.ofNat k) V (Int32.ofNat (k + 1)) T := by
        rw [f_X11_camera_219, f_X11_camera_226, if_pos rfl, f_X11_camera_242, f_X11_camera_244, on_s k (by omega)]
      cases e : cst (sv n b (hD S) W) y k with
      | none =>
        rw [e] at nx go
        obtain ⟨x, x1, x2⟩ := nx V l3
        refine ⟨x, x1, go _ ?_⟩
        rw [if_pos (by decide +kernel), tk]
        exact x2
      | some s =>
        rw [e] at nx go hx
        obtain ⟨s1, s2⟩ := cst_in k e
        have hx' : x10.toInt = pr g 6 * sv n b (hD S) W s := hx
        have n1 : ¬ wI (some s) < 0 := Int32.not_lt.mpr (on_p0 (by omega))
        have cl : (lg_cmp V x10 ≤ 0) = (sv n b (hD S) W k ≤ sv n b (hD S) W s) := by rw [lg_cmp_le, Int64.le_iff_toInt_le, l3, hx', G_le p1]
        by_cases l : sv n b (hD S) W k ≤ sv n b (hD S) W s
        · simp only [if_pos l] at nx
          obtain ⟨x, x1, x2⟩ := nx x10 hx'
          refine ⟨x, x1, go _ ?_⟩
          have ne : ¬ wI (some s) = Int32.ofNat k := by
            intro q
            have q' := congrArg Int32.toInt q
            have es : (wI (some s)).toInt = s := on_ti (k := s) (by omega)
            rw [es, on_ti (by omega)] at q'
            omega
          rw [if_neg n1, if_pos (by rw [cl]; exact l), f_X11_camera_226, if_neg ne, f_X11_camera_242, f_X11_camera_244, on_s k (by omega)]
          exact x2
        · simp only [if_neg l] at nx
          obtain ⟨x, x1, x2⟩ := nx V l3
          refine ⟨x, x1, go _ ?_⟩
          rw [if_neg n1, if_neg (by rw [cl]; exact l), tk]
          exact x2
    · rw [if_neg hb] at nx
      obtain ⟨x, x1, x2⟩ := nx x10 hx
      refine ⟨x, x1, ?_⟩
      rw [f_X11_camera_90, if_neg c, e_isIn hy hk6, g_bds, if_neg hb, f_X11_camera_244, on_s k (by omega)]
      exact x2
theorem E_camera (a0 : Int32) (a1 : Int32) (a2 : Int32) {S : z_Stt} (h : Inv S) : ∃ (v : Int64) (S1 S2 : z_Stt), f_X10_camera FUEL a0 a1 a2 S = some (v, S1) ∧ f_X11_camera FUEL a0 a1 a2 S1 = some (v, S2) ∧ Inv S2 := by
  have hF : 92 < FUEL := by decide +kernel
  suffices z : ∃ v S1, f_X10_camera FUEL a0 a1 a2 S = some (v, S1) ∧ (agQ S S1 → ∃ S2, f_X11_camera FUEL a0 a1 a2 S1 = some (v, S2)) by
    obtain ⟨v, S1, z1, z2⟩ := z
    have a := fq_X10_camera _ _ _ _ z1
    obtain ⟨S2, z3⟩ := z2 a
    exact ⟨v, S1, S2, z1, z3, (h.quiet a).quiet (fq_X11_camera _ _ _ _ z3)⟩
  rcases D_cases h a0 with ⟨k10, k11⟩ | ⟨N, th, y, z, edr, hN, ey, ez, hz, hc, hth, h6, hyt, k10, k11⟩
  · refine ⟨-9223372036854775808, S, ?_, fun a => ⟨S, ?_⟩⟩
    · unfold f_X10_camera
      rw [k10 S (agQ.rfl S), g_bds, if_neg (by decide)]
    · unfold f_X11_camera
      rw [k11 S a, g_bds, if_neg (by decide)]
  · by_cases g1 : 0 ≤ a1 ∧ a1 ≤ 99
    · by_cases g2 : 0 ≤ a2 ∧ a2 ≤ 2
      · have hy : y < 64 := by omega
        have d := D_ok h z hy hc
        obtain ⟨-, p1, p2, p3, p4⟩ := d.l
        obtain ⟨b, C, f1, f2, f3, f4⟩ := q_fd h (agQ.rfl S) hF hN ey ez hz hc hth h6 hyt
        rw [← edr] at f1
        have em0 : a0 % 64 = Int32.ofNat y := by rw [edr, mod64 hN, ← ey]
        have r11 : ∀ T, agQ S T → ∃ (b' : Bool) (T' : z_Stt), f_X11_asksAll FUEL a0 T = some (b', T') ∧ (b' = true ↔ allP S y z) ∧ (allP S y z → rDt T' th (nD S y z) (bD S y z) (gD S y z)) ∧ agQ S T' := by
          intro T a
          rw [edr]
          exact q_aa h a hF hN ey ez hz hc hth h6 hyt
        by_cases P : allP S y z
        · have eb := f2.mpr P
          subst eb
          have pv := prV_ok h g1
          have eway : (prV S a1).toInt64.toInt = (prV S a1).toInt := Int32.toInt_toInt64 _
          have bl := e_cst d f3 (F := FUEL) (way := (prV S a1).toInt64) eway pv 6 0 FUEL (by omega) (by omega)
          have bl' : f_X2_bestSeen FUEL (prV S a1).toInt64 C = some (wI (cst (sv (nD S y z) (bD S y z) (hD S) (prV S a1).toInt) y 6), C) := bl
          have wbC : f_X10_wayBack a1 C = some (prV S a1, C) := by rw [e_wayBack, q_prV f4]
          have bend := cst_end (w := sv (nD S y z) (bD S y z) (hD S) (prV S a1).toInt) hyt (6 - th)
          rw [show th + (6 - th) = 6 by omega] at bend
          rw [bend] at bl'
          obtain ⟨w0, w1, w2, w3⟩ := wl_bd d pv
          have r6 := nsel_bd d 0 (Nat.le_refl 6)
          rw [nsel_0] at r6
          have c11 : ∀ T, agQ S T → ¬ a0 % 64 = 0 → ∃ (T' : z_Stt) (x : Int64), agQ S T' ∧ xmV (pr (gD S y z) 6) (sv (nD S y z) (bD S y z) (hD S) (prV S a1).toInt) (cst (sv (nD S y z) (bD S y z) (hD S) (prV S a1).toInt) y th) x ∧ (T'.2.1 4825).toInt = pr (gD S y z) 6 * pr (bD S y z) 6 ∧ f_X11_camera FUEL a0 a1 a2 T = if a2 = 2 then some ((wI (cst (sv (nD S y z) (bD S y z) (hD S) (prV S a1).toInt) y th)).toInt64, T') else g_bd (f_X11_partOf FUEL x (T'.2.1 4825) a2 T') fun v3 S4 => some (v3, S4) := by
            intro T a n64
            obtain ⟨b', T', t1, t2, t3, t4⟩ := r11 T a
            have eb' := t2.mpr P
            subst eb'
            have rd := t3 P
            obtain ⟨s, s1, s2⟩ := q_sf h t4 d hth h6 hyt rd hy (F := FUEL) (by omega)
            rw [sel_y d] at s2
            have bk : ((prV S a1).toInt64 * T'.2.1 4825).toInt = pr (gD S y z) 6 * ((prV S a1).toInt * pr (bD S y z) 6) := by
              have e : (prV S a1).toInt * (pr (gD S y z) 6 * pr (bD S y z) 6) = pr (gD S y z) 6 * ((prV S a1).toInt * pr (bD S y z) 6) := by grind
              rw [tj_mul (by rw [eway, rd.1, e]; omega), eway, rd.1, e]
            obtain ⟨bf, b1, b2⟩ := mn_r p1 bk s2 T'
            obtain ⟨x, x1, x2⟩ := e_cam h t4 d hth h6 hyt rd hF (x3 := a2) pv bk b2 th 0 FUEL 0 (by omega) (by omega) trivial
            refine ⟨T', x, t4, x1, rd.1, ?_⟩
            unfold f_X11_camera
            rw [k11 T a, g_bds, if_pos rfl, e_isYards, g_bds, decide_eq_true g1, if_pos rfl, e_w_0_2, g_bds, decide_eq_true g2, if_pos rfl, t1, g_bds, if_pos rfl, if_neg n64, e_backG (S := S) a1 (q_49 h t4), g_bds, em0, s1, g_bds, b1, g_bds]
            exact x2
          cases e : cst (sv (nD S y z) (bD S y z) (hD S) (prV S a1).toInt) y th with
          | none =>
            rw [e] at bl'
            have y0 : a0 % 64 = 0 := by
              have no := cst_no th e
              have : y = 0 := by
                refine Nat.eq_of_testBit_eq (fun i => ?_)
                rw [Nat.zero_testBit]
                by_cases l : i < th
                · exact Bool.eq_false_iff.mpr (no i l)
                · exact Bool.eq_false_iff.mpr (out_th hyt (by omega))
              rw [em0, this]; rfl
            refine ⟨-2, C, ?_, fun a => ?_⟩
            · unfold f_X10_camera
              rw [k10 S (agQ.rfl S), g_bds, if_pos rfl, e_within10, g_bds, decide_eq_true g1, if_pos rfl, e_within10, g_bds, decide_eq_true g2, if_pos rfl, f1, g_bds, if_pos rfl, wbC, g_bds, bl', g_bds, if_neg (by decide +kernel)]
            · obtain ⟨b', T', t1, t2, t3, t4⟩ := r11 C a
              have eb' := t2.mpr P
              subst eb'
              refine ⟨T', ?_⟩
              unfold f_X11_camera
              rw [k11 C a, g_bds, if_pos rfl, e_isYards, g_bds, decide_eq_true g1, if_pos rfl, e_w_0_2, g_bds, decide_eq_true g2, if_pos rfl, t1, g_bds, if_pos rfl, if_pos y0]
          | some s =>
            rw [e] at bl' c11
            obtain ⟨s1, s2⟩ := cst_in th e
            have s6 : s < 6 := by omega
            have n64 : ¬ a0 % 64 = 0 := by
              intro q
              rw [em0] at q
              have q' := congrArg Int32.toInt q
              rw [on_ti (by omega), z0_32] at q'
              have y0 : y = 0 := by omega
              rw [y0, Nat.zero_testBit] at s2
              cases s2
            have es : wI (some s) = Int32.ofNat s := rfl
            rw [es] at bl' c11
            obtain ⟨v, v1, v2⟩ := e_sb d f3 s6 s2 eway pv
            have svb := sv_bd d s6 pv
            have c10 : ∀ rr, (if a2 = 2 then some ((Int32.ofNat s).toInt64, C) else g_bd (f_X4_become FUEL 17 v (C.2.1 1804) C) fun _ S32 => g_bd (f_X4_part 17 a2 S32) fun v34 S35 => some (v34, S35)) = rr → f_X10_camera FUEL a0 a1 a2 S = rr := by
              rintro rr rfl
              unfold f_X10_camera
              rw [k10 S (agQ.rfl S), g_bds, if_pos rfl, e_within10, g_bds, decide_eq_true g1, if_pos rfl, e_within10, g_bds, decide_eq_true g2, if_pos rfl, f1, g_bds, if_pos rfl, wbC, g_bds, bl', g_bds, if_pos (on_p0 (by omega)), wbC, g_bds, v1, g_bds]
            by_cases q : a2 = 2
            · rw [if_pos q] at c10
              refine ⟨_, _, c10 _ rfl, fun a => ?_⟩
              obtain ⟨T', x, -, -, -, cc⟩ := c11 C a n64
              rw [if_pos q] at cc
              exact ⟨T', cc⟩
            · have ha : 0 ≤ a2 ∧ a2 ≤ 1 := ⟨g2.1, by have := g2.2; lia⟩
              rw [if_neg q] at c10
              have gp : 0 < pr (gD S y z) 6 * pr (bD S y z) 6 := Int.mul_pos p1 p2
              have own : ∃ u C' C'', f_X4_become FUEL 17 v (C.2.1 1804) C = some (true, C') ∧ f_X4_part 17 a2 C' = some (u, C'') :=
                ⟨_, _, _, e_fr10 hF (by rw [v2]; omega) (by rw [i64lt, f3.2.1]; exact p2) C, e_ptf v (C.2.1 1804) a2 C⟩
              obtain ⟨u, C', C'', o1, o2⟩ := own
              rw [o1, g_bds, o2, g_bds] at c10
              refine ⟨u, C'', c10 _ rfl, fun a => ?_⟩
              obtain ⟨T', x, t4, hx, hl, cc⟩ := c11 C'' a n64
              have hx' : x.toInt = pr (gD S y z) 6 * v.toInt := by rw [v2]; exact hx
              have lo : -39204 * (pr (gD S y z) 6 * pr (bD S y z) 6) ≤ pr (gD S y z) 6 * sv (nD S y z) (bD S y z) (hD S) (prV S a1).toInt s := by
                have zz := Int.mul_le_mul_of_nonneg_left svb.1 (show 0 ≤ pr (gD S y z) 6 by omega)
                have e : pr (gD S y z) 6 * (-39204 * pr (bD S y z) 6) = -39204 * (pr (gD S y z) 6 * pr (bD S y z) 6) := by grind
                omega
              obtain ⟨u', ⟨D', D'', m1, m2⟩, T'', m3⟩ := pt_both (Y := T'.2.1 4825) (Y' := C.2.1 1804) p1 hx' (by rw [hl, f3.2.1]) (by rw [hl]; exact gp) (by rw [hx', v2]; omega) (by rw [v2]; omega) hF ha C T'
              rw [o1] at m1
              cases m1
              rw [o2] at m2
              cases m2
              rw [if_neg q, m3, g_bds] at cc
              exact ⟨T'', cc⟩
        · have eb : b = false := by
            cases b with
            | false => rfl
            | true => exact absurd (f2.mp rfl) P
          subst eb
          refine ⟨-2, C, ?_, fun a => ?_⟩
          · unfold f_X10_camera
            rw [k10 S (agQ.rfl S), g_bds, if_pos rfl, e_within10, g_bds, decide_eq_true g1, if_pos rfl, e_within10, g_bds, decide_eq_true g2, if_pos rfl, f1, g_bds, if_neg (by decide)]
          · obtain ⟨b', T', t1, t2, t3, t4⟩ := r11 C a
            have eb' : b' = false := by
              cases b' with
              | false => rfl
              | true => exact absurd (t2.mp rfl) P
            subst eb'
            refine ⟨T', ?_⟩
            unfold f_X11_camera
            rw [k11 C a, g_bds, if_pos rfl, e_isYards, g_bds, decide_eq_true g1, if_pos rfl, e_w_0_2, g_bds, decide_eq_true g2, if_pos rfl, t1, g_bds, if_neg (by decide)]
      · refine ⟨-9223372036854775808, S, ?_, fun a => ⟨S, ?_⟩⟩
        · unfold f_X10_camera
          rw [k10 S (agQ.rfl S), g_bds, if_pos rfl, e_within10, g_bds, decide_eq_true g1, if_pos rfl, e_within10, g_bds, decide_eq_false g2, if_neg (by decide)]
        · unfold f_X11_camera
          rw [k11 S a, g_bds, if_pos rfl, e_isYards, g_bds, decide_eq_true g1, if_pos rfl, e_w_0_2, g_bds, decide_eq_false g2, if_neg (by decide)]
    · refine ⟨-9223372036854775808, S, ?_, fun a => ⟨S, ?_⟩⟩
      · unfold f_X10_camera
        rw [k10 S (agQ.rfl S), g_bds, if_pos rfl, e_within10, g_bds, decide_eq_false g1, if_neg (by decide)]
      · unfold f_X11_camera
        rw [k11 S a, g_bds, if_pos rfl, e_isYards, g_bds, decide_eq_false g1, if_neg (by decide)]
