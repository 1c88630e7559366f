/-! BEST: the call -/
theorem D_cases {S : z_Stt} (h : Inv S) (dr : Int32) : ((∀ C, agQ S C → f_X10_isDoubt dr C = some (false, C)) ∧ ∀ T, agQ S T → f_X11_isDr FUEL dr T = some (false, T)) ∨ ∃ N th y z : Nat, dr = Int32.ofNat N ∧ N < 2147483648 ∧ y = N % 64 ∧ z = N / 64 ∧ z < 64 ∧ pcN y ≤ 4 ∧ S.1 101 = Int32.ofNat th ∧ th ≤ 6 ∧ y < 2 ^ th ∧ (∀ C, agQ S C → f_X10_isDoubt dr C = some (true, C)) ∧ ∀ T, agQ S T → f_X11_isDr FUEL dr T = some (true, T) := by
  have f8 : 8 ≤ FUEL := by decide +kernel
  by_cases d0 : dr < 0
  · refine Or.inl ⟨fun C _ => ?_, fun T _ => ?_⟩
    · unfold f_X10_isDoubt; rw [if_pos d0]
    · unfold f_X11_isDr; rw [if_pos d0]
  · have d1 : 0 ≤ dr.toInt := by rw [Int32.lt_iff_toInt_lt, z0_32] at d0; omega
    have d2 := dr.toInt_lt
    obtain ⟨N, eN⟩ : ∃ N : Nat, dr.toInt = N := ⟨dr.toInt.toNat, by omega⟩
    have hN : N < 2147483648 := by omega
    have edr : dr = Int32.ofNat N := by rw [← Int32.toInt_inj, eN, ti_on hN]
    have t6 := h.1.1.1
    have tt := tn t6.1
    have tr := rg t6
    rw [z0_32, i_6] at tr
    obtain ⟨th, eth⟩ : ∃ th, th = (S.1 101).toNatClampNeg := ⟨_, rfl⟩
    have h6 : th ≤ 6 := by omega
    have hth : S.1 101 = Int32.ofNat th := by rw [eth]; exact tn_on t6.1 (by have := t6.2; lia)
    subst edr
    by_cases ok : okD th (N % 64) (N / 64)
    · refine Or.inr ⟨N, th, N % 64, N / 64, rfl, hN, rfl, rfl, sub6 (by omega) (by omega) ok.1, ok.2.2, hth, h6, ok.2.1, fun C a => ?_, fun T a => ?_⟩
      · obtain ⟨b, b1, b2⟩ := e_isDb hN h6 (S := C) (by rw [q_101 a]; exact hth)
        rw [b2, b1.mpr ok]
      · obtain ⟨b, b1, b2⟩ := e_isDr f8 hN h6 (S := T) (by rw [q_4806 h a]; exact hth)
        rw [b2, b1.mpr ok]
    · refine Or.inl ⟨fun C a => ?_, fun T a => ?_⟩
      · obtain ⟨b, b1, b2⟩ := e_isDb hN h6 (S := C) (by rw [q_101 a]; exact hth)
        rw [b2]
        cases b with
        | false => rfl
        | true => exact absurd (b1.mp rfl) ok
      · obtain ⟨b, b1, b2⟩ := e_isDr f8 hN h6 (S := T) (by rw [q_4806 h a]; exact hth)
        rw [b2]
        cases b with
        | false => rfl
        | true => exact absurd (b1.mp rfl) ok
theorem pr37 {S : z_Stt} (h : Inv S) {k : Nat} (h1 : 36 ≤ k) (h2 : k < 75) : 0 ≤ (S.2.2.1 2 k).toInt ∧ (S.2.2.1 2 k).toInt ≤ 99 := by
  have p := h.1.1.2.1 k h2
  have e : mostAt k = 99 := by
    unfold mostAt
    rw [if_neg (by omega), if_neg (by omega), if_neg (by omega), if_neg (by omega), if_neg (by omega)]
  rw [e] at p
  have r := rg p
  have i99 : (99 : Int32).toInt = 99 := rfl
  rw [z0_32, i99] at r
  exact r
/-- a fraction of both: reduced over the reference's line and the class's -/
theorem pt_both {X Y X' Y' : Int64} {G : Int} (hG : 0 < G) (hX : X.toInt = G * X'.toInt) (hY : Y.toInt = G * Y'.toInt) (hp : 0 < Y.toInt) (hm : -9223372036854775808 < X.toInt) (hm' : -9223372036854775808 < X'.toInt) {F : Nat} (hF : 92 < F) {a : Int32} (ha : 0 ≤ a ∧ a ≤ 1) (C T : z_Stt) : ∃ (v : Int64), (∃ C' C'', f_X4_become F 17 X' Y' C = some (true, C') ∧ f_X4_part 17 a C' = some (v, C'')) ∧ ∃ T', f_X11_partOf F X Y a T = some (v, T') := by
  have y' : 0 < Y'.toInt := by
    by_cases c : 0 < Y'.toInt
    · exact c
    · have := Int.mul_nonpos_of_nonneg_of_nonpos (Int.le_of_lt hG) (Int.not_lt.mp c)
      omega
  refine ⟨ptV X' Y' a, ⟨_, _, e_fr10 hF hm' (by rw [i64lt]; exact y') C, e_ptf X' Y' a C⟩, T, ?_⟩
  rw [e_pt11 hF hm (by rw [i64lt]; exact hp) ha, gV_scale hG hX hY hp a]
theorem E_best (a0 : Int32) (a1 : Int32) (a2 : Int32) {S : z_Stt} (h : Inv S) : ∃ (v : Int64) (S1 S2 : z_Stt), f_X10_best FUEL a0 a1 a2 S = some (v, S1) ∧ f_X11_best FUEL a0 a1 a2 S1 = some (v, S2) ∧ Inv S2 := by
  have hF : 92 < FUEL := by decide +kernel
  suffices z : ∃ v S1, f_X10_best FUEL a0 a1 a2 S = some (v, S1) ∧ (agQ S S1 → ∃ S2, f_X11_best FUEL a0 a1 a2 S1 = some (v, S2)) by
    obtain ⟨v, S1, z1, z2⟩ := z
    have a := fq_X10_best _ _ _ _ z1
    obtain ⟨S2, z3⟩ := z2 a
    exact ⟨v, S1, S2, z1, z3, (h.quiet a).quiet (fq_X11_best _ _ _ _ z3)⟩
  rcases D_cases h a0 with ⟨k10, k11⟩ | ⟨N, th, y, z, edr, hN, ey, ez, hz, hc, hth, h6, hyt, k10, k11⟩
  · refine ⟨-9223372036854775808, S, ?_, fun a => ⟨S, ?_⟩⟩
    · unfold f_X10_best
      rw [k10 S (agQ.rfl S), g_bds, if_neg (by decide)]
    · unfold f_X11_best
      rw [k11 S a, g_bds, if_neg (by decide)]
  · by_cases g1 : 0 ≤ a1 ∧ a1 ≤ 99
    · by_cases g2 : 0 ≤ a2 ∧ a2 ≤ 2
      · have hy : y < 64 := by omega
        have d := D_ok h z hy hc
        obtain ⟨-, p1, p2, p3, p4⟩ := d.l
        obtain ⟨b, C, f1, f2, f3, f4⟩ := q_fd h (agQ.rfl S) hF hN ey ez hz hc hth h6 hyt
        rw [← edr] at f1
        have r11 : ∀ T, agQ S T → ∃ (b' : Bool) (T' : z_Stt), f_X11_asksAll FUEL a0 T = some (b', T') ∧ (b' = true ↔ allP S y z) ∧ (allP S y z → rDt T' th (nD S y z) (bD S y z) (gD S y z)) ∧ agQ S T' := by
          intro T a
          rw [edr]
          exact q_aa h a hF hN ey ez hz hc hth h6 hyt
        by_cases P : allP S y z
        · have eb := f2.mpr P
          subst eb
          have pv := prV_ok h g1
          have l37 := pr37 h (k := 37) (by decide) (by decide)
          have eway : (prV S a1).toInt64.toInt = (prV S a1).toInt := Int32.toInt_toInt64 _
          have bl := e_bl d f3 (F := FUEL) (by omega) (way := (prV S a1).toInt64) (look := S.2.2.1 2 37) eway pv rfl l37 63 1 FUEL (C.2.1 1805) (by omega) (by omega) (by omega) (by
            rw [f3.2.2.1]
            show _ = costI _ _ _ 0 _
            unfold costI
            rw [if_pos rfl, nsel_0]; omega)
          have wbC : f_X10_wayBack a1 C = some (prV S a1, C) := by rw [e_wayBack, q_prV f4]
          have l37' : ¬ ((37 : Int32) < 0 ∨ 75 ≤ (37 : Int32).toNatClampNeg) := by decide +kernel
          have lkC : f_X9_look C = some (S.2.2.1 2 37, C) := by
            have e : C.2.2.1 2 = S.2.2.1 2 := f4.2.1 2 (by decide)
            unfold f_X9_look
            rw [if_pos l37', e]; rfl
          have hb64 := bst_lt (fun s => costI (pr (bD S y z) 6) (prV S a1).toInt (S.2.2.1 2 37).toInt s (RD (nD S y z) (bD S y z) (hD S))) y 64 (by omega)
          have bend := bst_end (fun s => costI (pr (bD S y z) 6) (prV S a1).toInt (S.2.2.1 2 37).toInt s (RD (nD S y z) (bD S y z) (hD S))) hy (63 - y) (by omega)
          rw [show y + 1 + (63 - y) = 64 by omega] at bend
          obtain ⟨⟨v, v1, v2⟩, cb1, cb2⟩ := q_co d f3 hb64 (F := FUEL) (by omega) (way := (prV S a1).toInt64) (look := S.2.2.1 2 37) eway pv rfl l37
          have bl' : f_X2_bestLooks FUEL (prV S a1).toInt64 (S.2.2.1 2 37) C = _ := bl
          have c10 : ∀ r, (if a2 = 2 then some ((Int32.ofNat (bst (fun s => costI (pr (bD S y z) 6) (prV S a1).toInt (S.2.2.1 2 37).toInt s (RD (nD S y z) (bD S y z) (hD S))) y 64)).toInt64, C) else g_bd (f_X4_become FUEL 17 v (C.2.1 1804) C) fun _ S37 => g_bd (f_X4_part 17 a2 S37) fun v39 S40 => some (v39, S40)) = r → f_X10_best FUEL a0 a1 a2 S = r := by
            rintro r rfl
            unfold f_X10_best
            rw [k10 S (agQ.rfl S), g_bds, if_pos rfl, e_within10, g_bds, decide_eq_true g1, if_pos rfl, e_within10, g_bds, decide_eq_true g2, if_pos rfl, f1, g_bds, if_pos rfl, wbC, g_bds, lkC, g_bds, bl', g_bds, wbC, g_bds, lkC, g_bds, v1, g_bds]
          have c11 : ∀ T, agQ S T → ∃ (T' : z_Stt) (x : Int64), agQ S T' ∧ x.toInt = pr (gD S y z) 6 * v.toInt ∧ (T'.2.1 4825).toInt = pr (gD S y z) 6 * pr (bD S y z) 6 ∧ ∀ r, (if a2 = 2 then some ((Int32.ofNat (bst (fun s => costI (pr (bD S y z) 6) (prV S a1).toInt (S.2.2.1 2 37).toInt s (RD (nD S y z) (bD S y z) (hD S))) y 64)).toInt64, T') else g_bd (f_X11_partOf FUEL x (T'.2.1 4825) a2 T') fun v3 S4 => some (v3, S4)) = r → f_X11_best FUEL a0 a1 a2 T = r := by
            intro T a
            obtain ⟨b', T', t1, t2, t3, t4⟩ := r11 T a
            have eb' := t2.mpr P
            subst eb'
            have rd := t3 P
            obtain ⟨s, s1, s2⟩ := q_sf h t4 d hth h6 hyt rd hy (F := FUEL) (by omega)
            rw [sel_y d] at s2
            obtain ⟨x, x1, x2⟩ := e_bR h t4 d hth h6 hyt rd hF (x2 := a1) (x3 := a2) rfl pv rfl l37 y 1 FUEL s (by omega) (by omega) (by omega) (by
              rw [s2]
              show _ = _ * costI _ _ _ 0 _
              unfold costI
              rw [if_pos rfl, nsel_0, Int.zero_add])
            rw [← bend] at x1 x2
            refine ⟨T', x, t4, by rw [x1, v2], rd.1, ?_⟩
            rintro r rfl
            have em : a0 % 64 = Int32.ofNat y := by rw [edr, mod64 hN, ← ey]
            unfold f_X11_best
            rw [k11 T a, g_bds, if_pos rfl, e_isYards, g_bds, decide_eq_true g1, if_pos rfl, e_w_0_2, g_bds, decide_eq_true g2, if_pos rfl, t1, g_bds, if_pos rfl, em, s1, g_bds]
            exact x2
          by_cases q : a2 = 2
          · rw [if_pos q] at c10
            refine ⟨_, _, c10 _ rfl, fun a => ?_⟩
            obtain ⟨T', x, -, -, -, c⟩ := c11 C a
            rw [if_pos q] at c
            exact ⟨T', c _ rfl⟩
          · have ha : 0 ≤ a2 ∧ a2 ≤ 1 := ⟨g2.1, by have := g2.2; lia⟩
            rw [if_neg q] at c10
            have vb : 0 ≤ v.toInt ∧ v.toInt ≤ 30000 * pr (bD S y z) 6 := by rw [v2]; exact ⟨cb1, cb2⟩
            have gv0 : 0 ≤ pr (gD S y z) 6 * v.toInt := Int.mul_nonneg (by omega) vb.1
            have gp : 0 < pr (gD S y z) 6 * pr (bD S y z) 6 := Int.mul_pos p1 p2
            have key : ∀ (T' : z_Stt) (x : Int64), x.toInt = pr (gD S y z) 6 * v.toInt → (T'.2.1 4825).toInt = pr (gD S y z) 6 * pr (bD S y z) 6 → ∃ (u : Int64), (∃ C' C'', f_X4_become FUEL 17 v (C.2.1 1804) C = some (true, C') ∧ f_X4_part 17 a2 C' = some (u, C'')) ∧ ∃ T'', f_X11_partOf FUEL x (T'.2.1 4825) a2 T' = some (u, T'') := by
              intro T' x hx hl
              exact pt_both p1 hx (by rw [hl, f3.2.1]) (by rw [hl]; exact gp) (by rw [hx]; omega) (by omega) hF ha C T'
            -- the class's own value
            have own : ∃ u C' C'', f_X4_become FUEL 17 v (C.2.1 1804) C = some (true, C') ∧ f_X4_part 17 a2 C' = some (u, C'') :=
              ⟨_, _, _, e_fr10 hF (by omega) (by rw [i64lt, f3.2.1]; exact p2) C, e_ptf v (C.2.1 1804) a2 C⟩
            obtain ⟨u, C', C'', o1, o2⟩ := own
            rw [o1, g_bds, o2, g_bds] at c10
            refine ⟨u, C'', c10 _ rfl, fun a => ?_⟩
            obtain ⟨T', x, t4, hx, hl, c⟩ := c11 C'' a
            obtain ⟨u', ⟨D', D'', m1, m2⟩, T'', m3⟩ := key T' x hx hl
            rw [o1] at m1
            cases m1
            rw [o2] at m2
            cases m2
            rw [if_neg q, m3, g_bds] at c
            exact ⟨T'', c _ rfl⟩
        · have eb : b = false := by
            cases b with
            | false => rfl
            | true => exact absurd (f2.mp rfl) P
          subst eb
          refine ⟨-2, C, ?_, fun a => ?_⟩
          · unfold f_X10_best
            rw [k10 S (agQ.rfl S), g_bds, if_pos rfl, e_within10, g_bds, decide_eq_true g1, if_pos rfl, e_within10, g_bds, decide_eq_true g2, if_pos rfl, f1, g_bds, if_neg (by decide)]
          · obtain ⟨b', T', t1, t2, t3, t4⟩ := r11 C a
            have eb' : b' = false := by
              cases b' with
              | false => rfl
              | true => exact absurd (t2.mp rfl) P
            subst eb'
            refine ⟨T', ?_⟩
            unfold f_X11_best
            rw [k11 C a, g_bds, if_pos rfl, e_isYards, g_bds, decide_eq_true g1, if_pos rfl, e_w_0_2, g_bds, decide_eq_true g2, if_pos rfl, t1, g_bds, if_neg (by decide)]
      · refine ⟨-9223372036854775808, S, ?_, fun a => ⟨S, ?_⟩⟩
        · unfold f_X10_best
          rw [k10 S (agQ.rfl S), g_bds, if_pos rfl, e_within10, g_bds, decide_eq_true g1, if_pos rfl, e_within10, g_bds, decide_eq_false g2, if_neg (by decide)]
        · unfold f_X11_best
          rw [k11 S a, g_bds, if_pos rfl, e_isYards, g_bds, decide_eq_true g1, if_pos rfl, e_w_0_2, g_bds, decide_eq_false g2, if_neg (by decide)]
    · refine ⟨-9223372036854775808, S, ?_, fun a => ⟨S, ?_⟩⟩
      · unfold f_X10_best
        rw [k10 S (agQ.rfl S), g_bds, if_pos rfl, e_within10, g_bds, decide_eq_false g1, if_neg (by decide)]
      · unfold f_X11_best
        rw [k11 S a, g_bds, if_pos rfl, e_isYards, g_bds, decide_eq_false g1, if_neg (by decide)]
