/-! DRAWN: the loops, the call -/
theorem dS_2 (C : z_Stt) (f tr st : Int32) : (drS C f tr st).1 3102 = drR (C.1 3100) f tr st := rI_same _ _ _
theorem dS_1 (C : z_Stt) (f tr st : Int32) : (drS C f tr st).1 3101 = drO (C.1 3100) f := (sI_ne (by decide)).trans (rI_same _ _ _)
theorem dS_0 (C : z_Stt) (f tr st : Int32) : (drS C f tr st).1 3100 = dz (dz (C.1 3100)) := (sI_ne (by decide)).trans ((sI_ne (by decide)).trans (rI_same _ _ _))
theorem e_cost {S C : z_Stt} (a : agQ S C) {t : Int32} (ht : 0 ≤ t ∧ t < S.1 101) (y b op : Int32) : f_X10_costOf t y b op C = some (cstV b op (vAt S (6 * 3 + t)) (prV S y), C) := by
  unfold f_X10_costOf cstV
  by_cases c1 : b = 0
  · rw [if_pos c1, if_pos c1]
    by_cases c2 : op = 0
    · rw [if_pos c2, if_pos c2]
    · rw [if_neg c2, if_neg c2, e_ofT (S := C) 3 (by rw [q_101 a]; exact ht), g_bds, q_vAt a]
  · rw [if_neg c1, if_neg c1, e_wayBack, g_bds, q_prV a]
theorem drw {k z : Int32} {T : z_Stt} (hk : 0 < k) (h : T.1 4829 = z) : f_X11_draws k T = some (dr (dz z) k, sI T 4829 (dz z)) := by
  rw [e_draw11 hk, h]
theorem ag29 {S T : z_Stt} (a : agQ S T) (z : Int32) : agQ S (sI T 4829 z) := a.lsI rfl (by decide)
theorem ag31 {S T : z_Stt} (a : agQ S T) (z : Int32) : agQ S (sI T 3100 z) := a.lsI rfl (by decide)
theorem dn_loop {S : z_Stt} (h : Inv S) {n : Nat} {t y x2 x3 x4 : Int32} {b : Int32 → Bool} (ht : 0 ≤ t ∧ t < S.1 101) (hb : ∀ r, r = 0 ∨ r = 1 → ∀ T, agQ S T → ∃ T', f_X11_goesBack n (x3 % 10) t r y T = some (b r, T') ∧ T'.1 4829 = T.1 4829) : ∀ (j m m' k : Nat) (x12 z co va : Int32) (C : z_Stt), x12.toInt = (k : Int) → (k : Int) + j = x2.toInt → j < m → j < m' → agQ S C → C.1 3100 = z → ∃ v, (∃ C', f_X10_drawn_123 n m x2 x4 t y (vAt S (6 * 0 + t)) (bI (b 1)) (bI (b 0)) co va x12 C = some (v, C')) ∧ ∀ T, agQ S T → T.1 4829 = z → ∃ T', f_X11_drawn_80 n m' x2 x3 x4 t y co va x12 T = some (v, T') := by
  have t6 : 0 ≤ t ∧ t < 6 := ⟨ht.1, lt_of6 ht.2 h.1.1.1.2⟩
  intro j
  induction j with
  | zero =>
    intro m m' k x12 z co va C hx hk hm hm' a hz
    obtain ⟨m, rfl⟩ : ∃ q, m = q + 1 := ⟨m - 1, by omega⟩
    obtain ⟨m', rfl⟩ : ∃ q, m' = q + 1 := ⟨m' - 1, by omega⟩
    have c : x2 ≤ x12 := by rw [Int32.le_iff_toInt_le]; omega
    by_cases w : x4 = 0
    · exact ⟨co, ⟨C, by rw [f_X10_drawn_123, if_pos c, if_pos w]⟩, fun T _ _ => ⟨T, by rw [f_X11_drawn_80, if_pos c, if_pos w]⟩⟩
    · exact ⟨va, ⟨C, by rw [f_X10_drawn_123, if_pos c, if_neg w]⟩, fun T _ _ => ⟨T, by rw [f_X11_drawn_80, if_pos c, if_neg w]⟩⟩
  | succ j ih =>
    intro m m' k x12 z co va C hx hk hm hm' a hz
    obtain ⟨m, rfl⟩ : ∃ q, m = q + 1 := ⟨m - 1, by omega⟩
    obtain ⟨m', rfl⟩ : ∃ q, m' = q + 1 := ⟨m' - 1, by omega⟩
    have c : ¬ x2 ≤ x12 := by rw [Int32.le_iff_toInt_le]; omega
    have nx : (x12 + 1).toInt = ((k + 1 : Nat) : Int) := by rw [inc32 (Int32.not_le.mp c)]; omega
    have htr : f_X10_traceOf t C = some (trV S t, C) := by rw [e_trace10 (by rw [q_101 a]; exact ht), q_trV a]
    have hst : f_X10_staleOf t C = some (stV S t, C) := by rw [e_stale10 (by rw [q_101 a]; exact ht) t6.2, q_stV a]
    have dm := e_drawMorning (vAt S (6 * 0 + t)) (trV S t) (stV S t) C
    have a2 := a.trans (fq_X3_drawMorning _ _ _ _ dm)
    have r2 := dS_2 C (vAt S (6 * 0 + t)) (trV S t) (stV S t)
    have r1 := dS_1 C (vAt S (6 * 0 + t)) (trV S t) (stV S t)
    have r0 := dS_0 C (vAt S (6 * 0 + t)) (trV S t) (stV S t)
    rw [hz] at r2 r1 r0
    have o01 := drO_01 z (vAt S (6 * 0 + t))
    have q01 := drR_01 z (vAt S (6 * 0 + t)) (trV S t) (stV S t)
    have eop : (if vAt S (6 * 0 + t) ≤ dr (dz z) 144 then 0 else 1) = drO z (vAt S (6 * 0 + t)) := rfl
    have ere : (if (if drO z (vAt S (6 * 0 + t)) = 0 then trV S t else stV S t) ≤ dr (dz (dz z)) 12 then 0 else 1) = drR z (vAt S (6 * 0 + t)) (trV S t) (stV S t) := rfl
    generalize drS C (vAt S (6 * 0 + t)) (trV S t) (stV S t) = C2 at *
    generalize drO z (vAt S (6 * 0 + t)) = op at *
    generalize drR z (vAt S (6 * 0 + t)) (trV S t) (stV S t) = re at *
    have d1 := fun (T : z_Stt) (hT : T.1 4829 = z) => drw (k := 144) (by decide +kernel) hT
    have d2 := fun (T : z_Stt) => drw (k := 12) (T := sI T 4829 (dz z)) (by decide +kernel) (rI_same T 4829 (dz z))
    have ss := fun (T : z_Stt) => ss3100 T 4829 (dz z) (dz (dz z))
    have r4 := fun (T : z_Stt) => rI_same T 4829 (dz (dz z))
    generalize dr (dz z) 144 = q8 at *
    generalize dr (dz (dz z)) 12 = q12 at *
    generalize dz (dz z) = zz at *
    generalize dz z = z1 at *
    have hbb : (if re = 0 then bI (b 0) else bI (b 1)) = bI (b re) := by
      rcases q01 with e | e
      · rw [e, if_pos rfl]
      · rw [e, if_neg (by decide +kernel)]
    have stp := dn_c (n := n) (m := m) (x2 := x2) (x4 := x4) (x10 := co) (x11 := va) (x12 := x12) (x8 := bI (b 1)) (x9 := bI (b 0)) c htr hst dm r2 r1 hbb (e_cost a2 ht y (bI (b re)) op)
    obtain ⟨v, y1, y2⟩ := ih m m' (k + 1) (x12 + 1) zz (co + cstV (bI (b re)) op (vAt S (6 * 3 + t)) (prV S y)) (va + incV (bI (b re)) op) C2 nx (by omega) (by omega) (by omega) a2 r0
    refine ⟨v, ?_, fun T aT hT => ?_⟩
    · obtain ⟨C', y1⟩ := y1
      exact ⟨C', stp.trans y1⟩
    · have aT1 := ag29 aT z1
      have aT2 := ag29 aT zz
      have d2' := d2 T
      rw [ss] at d2'
      obtain ⟨T3, gb, g9⟩ := hb re q01 _ aT2
      have aT3 := aT2.trans (fq_X11_goesBack _ _ _ _ _ gb)
      have st11 := dn_r (n := n) (m := m') (x2 := x2) (x3 := x3) (x4 := x4) (x7 := co) (x8 := va) (x9 := x12) (p := prV S y) (hh := vAt S (6 * 3 + t)) c (d1 T hT) (e_nrG (q_49 h aT1) (k := 0) (by decide +kernel) t6) eop o01 d2' (e_traceG (q_49 h aT2) t6) (e_staleG (q_49 h aT2) (q_53 h aT2) t6) ere gb (e_backG (S := S) y (q_49 h aT3)) (e_nrG (q_49 h aT3) (k := 3) (by decide +kernel) t6)
      obtain ⟨T', y2⟩ := y2 T3 aT3 (by rw [g9]; exact r4 T)
      exact ⟨T', st11.trans y2⟩
theorem E_drawn (a0 : Int32) (a1 : Int32) (a2 : Int32) (a3 : Int32) {S : z_Stt} (h : Inv S) : ∃ (v : Int32) (S1 S2 : z_Stt), f_X10_drawn FUEL a0 a1 a2 a3 S = some (v, S1) ∧ f_X11_drawn FUEL a0 a1 a2 a3 S1 = some (v, S2) ∧ Inv S2 := by
  have f92 : 92 < FUEL := by decide +kernel
  suffices z : ∃ v S1, f_X10_drawn FUEL a0 a1 a2 a3 S = some (v, S1) ∧ (agQ S S1 → ∃ S2, f_X11_drawn FUEL a0 a1 a2 a3 S1 = some (v, S2)) by
    obtain ⟨v, S1, z1, z2⟩ := z
    have a := fq_X10_drawn _ _ _ _ _ z1
    obtain ⟨S2, z3⟩ := z2 a
    exact ⟨v, S1, S2, z1, z3, (h.quiet a).quiet (fq_X11_drawn _ _ _ _ _ z3)⟩
  obtain ⟨hw, e1, e2⟩ := h.1
  by_cases g1 : 1 ≤ a1 ∧ a1 ≤ 60
  · have n1 : ¬ a1 < 1 := Int32.not_lt.mpr g1.1
    have n2 : ¬ 60 < a1 := Int32.not_lt.mpr g1.2
    by_cases n3 : a2 < 0
    · refine ⟨-1, S, ?_, fun a => ⟨S, ?_⟩⟩
      · unfold f_X10_drawn
        rw [if_neg n1, if_neg n2, if_pos n3]
      · unfold f_X11_drawn
        rw [e_w_1_60, g_bds, decide_eq_true g1, if_pos rfl, if_pos n3]
    · obtain ⟨t0, -, -, -⟩ := dvk (k := 1000) (Int32.not_lt.mp n3) (by decide +kernel)
      obtain ⟨u0, -, u2, u3⟩ := dvk (k := 10) (Int32.not_lt.mp n3) (by decide +kernel)
      obtain ⟨-, -, y0, y1⟩ := dvk (k := 100) u0 (by decide +kernel)
      by_cases g2 : a2 / 1000 < S.1 101
      · have g2' : 0 ≤ a2 / 1000 ∧ a2 / 1000 < S.1 101 := ⟨t0, g2⟩
        by_cases g3 : a2 % 10 ≤ 4
        · have g3' : 0 ≤ a2 % 10 ∧ a2 % 10 ≤ 4 := ⟨u2, g3⟩
          by_cases g4 : 0 ≤ a3 ∧ a3 ≤ 1
          · have hy : 0 ≤ a2 / 10 % 100 ∧ a2 / 10 % 100 ≤ 99 := ⟨y0, by generalize a2 / 10 % 100 = q at y1; lia⟩
            obtain ⟨b1, c1, r1⟩ := q_decides h g3' g2' (r := 1) (by decide +kernel) hy
            obtain ⟨b0, c0, r0⟩ := q_decides h g3' g2' (r := 0) (by decide +kernel) hy
            obtain ⟨S1, k1⟩ := c1 S (agQ.rfl S)
            have q1 := (agQ.rfl S).trans (fq_X10_decides _ _ _ _ _ k1)
            obtain ⟨S2, k2⟩ := c0 S1 q1
            have q2 := ag31 (q1.trans (fq_X10_decides _ _ _ _ _ k2)) a0
            have r := rg g1
            have i1 : (1 : Int32).toInt = 1 := rfl
            have i60 : (60 : Int32).toInt = 60 := rfl
            rw [i1, i60] at r
            obtain ⟨j, hj⟩ : ∃ j : Nat, a1.toInt = j := ⟨a1.toInt.toNat, by omega⟩
            have hb : ∀ r, r = 0 ∨ r = 1 → ∀ T, agQ S T → ∃ T', f_X11_goesBack FUEL (a2 % 10) (a2 / 1000) r (a2 / 10 % 100) T = some ((if r = 0 then b0 else b1), T') ∧ T'.1 4829 = T.1 4829 := by
              rintro r (rfl | rfl) T aT
              · rw [if_pos rfl]; exact r0 T aT
              · rw [if_neg (by decide +kernel)]; exact r1 T aT
            obtain ⟨v, l1, l2⟩ := dn_loop h (x2 := a1) (x3 := a2) (x4 := a3) (b := fun r => if r = 0 then b0 else b1) g2' hb j FUEL FUEL 0 0 a0 0 0 (sI S2 3100 a0) z0_32 (by rw [hj]; omega) (by omega) (by omega) q2 (rI_same _ _ _)
            obtain ⟨C', l1⟩ := l1
            have ib1 : (if (1 : Int32) = 0 then b0 else b1) = b1 := if_neg (by decide +kernel)
            have ib0 : (if (0 : Int32) = 0 then b0 else b1) = b0 := if_pos rfl
            rw [ib1, ib0] at l1
            refine ⟨v, C', ?_, fun a => ?_⟩
            · unfold f_X10_drawn f_X10_isWay
              rw [if_neg n1, if_neg n2, if_neg n3, e_isThing10, g_bds, decide_eq_true g2', if_pos rfl, e_within10, g_bds, g_bds, decide_eq_true g3', if_pos rfl, e_within10, g_bds, decide_eq_true g4, if_pos rfl, e_ofT (S := S) 0 g2', g_bds, k1, g_bds, k2, g_bds, g_lets]
              exact l1
            · obtain ⟨T', l2⟩ := l2 (sI C' 4829 a0) (ag29 a a0) (rI_same _ _ _)
              refine ⟨T', ?_⟩
              unfold f_X11_drawn
              rw [e_w_1_60, g_bds, decide_eq_true g1, if_pos rfl, if_neg n3, e_isThing11 _ (q_h4 h a), g_bds, q_4806 h a, decide_eq_true g2', if_pos rfl, if_neg (Int32.not_lt.mpr g3), e_w_0_1, g_bds, decide_eq_true g4, if_pos rfl, g_lets]
              exact l2
          · refine ⟨-1, S, ?_, fun a => ⟨S, ?_⟩⟩
            · unfold f_X10_drawn f_X10_isWay
              rw [if_neg n1, if_neg n2, if_neg n3, e_isThing10, g_bds, decide_eq_true g2', if_pos rfl, e_within10, g_bds, g_bds, decide_eq_true g3', if_pos rfl, e_within10, g_bds, decide_eq_false g4, if_neg (by decide)]
            · unfold f_X11_drawn
              rw [e_w_1_60, g_bds, decide_eq_true g1, if_pos rfl, if_neg n3, e_isThing11 _ (q_h4 h a), g_bds, q_4806 h a, decide_eq_true g2', if_pos rfl, if_neg (Int32.not_lt.mpr g3), e_w_0_1, g_bds, decide_eq_false g4, if_neg (by decide)]
        · have g3' : ¬ (0 ≤ a2 % 10 ∧ a2 % 10 ≤ 4) := fun q => g3 q.2
          refine ⟨-1, S, ?_, fun a => ⟨S, ?_⟩⟩
          · unfold f_X10_drawn f_X10_isWay
            rw [if_neg n1, if_neg n2, if_neg n3, e_isThing10, g_bds, decide_eq_true g2', if_pos rfl, e_within10, g_bds, g_bds, decide_eq_false g3', if_neg (by decide)]
          · unfold f_X11_drawn
            rw [e_w_1_60, g_bds, decide_eq_true g1, if_pos rfl, if_neg n3, e_isThing11 _ (q_h4 h a), g_bds, q_4806 h a, decide_eq_true g2', if_pos rfl, if_pos (Int32.not_le.mp g3)]
      · have g2' : ¬ (0 ≤ a2 / 1000 ∧ a2 / 1000 < S.1 101) := fun q => g2 q.2
        refine ⟨-1, S, ?_, fun a => ⟨S, ?_⟩⟩
        · unfold f_X10_drawn
          rw [if_neg n1, if_neg n2, if_neg n3, e_isThing10, g_bds, decide_eq_false g2', if_neg (by decide)]
        · unfold f_X11_drawn
          rw [e_w_1_60, g_bds, decide_eq_true g1, if_pos rfl, if_neg n3, e_isThing11 _ (q_h4 h a), g_bds, q_4806 h a, decide_eq_false g2', if_neg (by decide)]
  · refine ⟨-1, S, ?_, fun a => ⟨S, ?_⟩⟩
    · unfold f_X10_drawn
      by_cases n1 : a1 < 1
      · rw [if_pos n1]
      · rw [if_neg n1, if_pos (Int32.not_le.mp (fun q => g1 ⟨Int32.not_lt.mp n1, q⟩))]
    · unfold f_X11_drawn
      rw [e_w_1_60, g_bds, decide_eq_false g1, if_neg (by decide)]
