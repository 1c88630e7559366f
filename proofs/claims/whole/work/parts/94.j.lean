/-! THINGS: the call -/
theorem e_thl (n : Nat) {S : z_Stt} {a0 i x3 th0 : Int32} (ha : 0 ≤ a0 ∧ a0 ≤ 5) (hs : 0 ≤ (shN S a0.toNatClampNeg).toInt ∧ (shN S a0.toNatClampNeg).toInt ≤ 60) (hi : 0 ≤ i.toInt) (h3 : x3.toInt ≤ 6) (h0 : 0 ≤ th0) (hel : ∀ q, q < 60 → -128 ≤ shE S a0.toNatClampNeg q ∧ shE S a0.toNatClampNeg q ≤ 127) : ∀ (j k m m' : Nat) (nu : Nat → Int32) (th x5 : Int32), x5.toInt = (k : Int) → (k : Int) + j = x3.toInt → j < m → j + 1 < m' → wTold th nu → th0 ≤ th → ∃ v nu' th', f_X10_things_53 n m i x3 (36 + 2 * a0.toNatClampNeg) x5 (cS S nu th) = some (v, cS S nu' th') ∧ wTold th' nu' ∧ th0 ≤ th' ∧ ∀ T, rOk S T a0 th0 → f_X11_things_69 n m' a0 i x3 x5 1 (rS T nu th) = some (v, rS T nu' th') := by
  intro j
  have c1' : ¬ (1 : Int32) = 0 := by decide +kernel
  induction j with
  | zero =>
    intro k m m' nu th x5 hx hk hm hm' w ht
    obtain ⟨m, rfl⟩ : ∃ q, m = q + 1 := ⟨m - 1, by omega⟩
    obtain ⟨m', rfl⟩ : ∃ q, m' = q + 1 := ⟨m' - 1, by omega⟩
    have c : x3 ≤ x5 := by rw [Int32.le_iff_toInt_le]; omega
    exact ⟨x5, nu, th, by rw [f_X10_things_53, if_pos c], w, ht, fun T _ => by rw [f_X11_things_69, if_neg c1', if_pos c]⟩
  | succ j ih =>
    intro k m m' nu th x5 hx hk hm hm' w ht
    obtain ⟨m, rfl⟩ : ∃ q, m = q + 1 := ⟨m - 1, by omega⟩
    obtain ⟨m', rfl⟩ : ∃ q, m' = q + 1 + 1 := ⟨m' - 2, by omega⟩
    have c : ¬ x3 ≤ x5 := by rw [Int32.le_iff_toInt_le]; omega
    have i3 : (3 : Int32).toInt = 3 := rfl
    have il := i.toInt_lt
    have hp := pl_ti (i := i) hx (by omega)
    have v6a : ¬ (a0 < 0 ∨ 6 ≤ a0.toNatClampNeg) := by rw [vp_6]; exact v6 ha
    have m2 : (3 * x5).toInt = 3 * k := by rw [ti_mul (by rw [i3, hx]; omega), i3, hx]
    have hcond : ∀ T, rOk S T a0 th0 → ((rS T nu th).2.2.1 67 a0.toNatClampNeg - 3 - 3 * x5 < i) = ((shN S a0.toNatClampNeg).toInt - 3 - 3 * k < i.toInt) := by
      intro T r
      have e : (rS T nu th).2.2.1 67 a0.toNatClampNeg = shN S a0.toNatClampNeg := r.1
      have s1 : (shN S a0.toNatClampNeg - 3).toInt = (shN S a0.toNatClampNeg).toInt - 3 := by
        rw [Int32.toInt_sub, i3]; exact Int.bmod_eq_of_le (by omega) (by omega)
      have s2 : (shN S a0.toNatClampNeg - 3 - 3 * x5).toInt = (shN S a0.toNatClampNeg).toInt - 3 - 3 * k := by
        rw [Int32.toInt_sub, s1, m2]; exact Int.bmod_eq_of_le (by omega) (by omega)
      rw [e, Int32.lt_iff_toInt_lt, s2]
    by_cases c6 : 6 ≤ th
    · refine ⟨x5, nu, th, ?_, w, ht, fun T r => ?_⟩
      · rw [f_X10_things_53, if_neg c, cf_full _ _ c6, g_bds, if_neg (by decide)]
      · rw [f_X11_things_69, if_neg c1', if_neg c, if_pos v6a]
        split
        · exact rt_stop _ _ _ _ _ _ _
        · rw [if_pos (show 6 ≤ (rS T nu th).1 4806 from c6)]; exact rt_stop _ _ _ _ _ _ _
    · have t6 : 0 ≤ th ∧ th < 6 := ⟨Int32.le_trans h0 ht, Int32.not_le.mp c6⟩
      by_cases cs : i.toInt + 3 * k + 2 < (shN S a0.toNatClampNeg).toInt
      · obtain ⟨q, hq⟩ : ∃ q : Nat, i.toInt + 3 * k = q := ⟨(i.toInt + 3 * k).toNat, by omega⟩
        obtain ⟨f1, f2⟩ := cf_at (S := S) (nu := nu) a0.toNatClampNeg t6 (hp.trans hq) (by omega) hs.2
        have r69 : ∀ T, rOk S T a0 th0 → f_X11_things_69 n (m' + 1 + 1) a0 i x3 x5 1 (rS T nu th) = f_X11_things_111 n (f_X11_things_69 n (m' + 1)) a0 i x3 x5 1 (rS T nu th) := by
          intro T r
          have nc : ¬ ((rS T nu th).2.2.1 67 a0.toNatClampNeg - 3 - 3 * x5 < i) := by rw [hcond T r]; omega
          rw [f_X11_things_69, if_neg c1', if_neg c, if_pos v6a, if_neg nc, if_neg (show ¬ 6 ≤ (rS T nu th).1 4806 from c6)]
        by_cases ok : okT S a0.toNatClampNeg q
        · have w' := w.more t6.2 (a := elV S a0.toNatClampNeg q) (b := elV S a0.toNatClampNeg (q + 1)) (c := elV S a0.toNatClampNeg (q + 2)) (d := 100) ⟨ok.1.1, by have := ok.1.2; lia⟩ ok.2.1 ok.2.2 (by decide +kernel)
          have nx : (x5 + 1).toInt = ((k + 1 : Nat) : Int) := by rw [inc32 (Int32.not_le.mp c)]; omega
          obtain ⟨v, nu', th', z1, z2, z3, z4⟩ := ih (k + 1) m (m' + 1) _ (th + 1) (x5 + 1) nx (by omega) (by omega) (by omega) w' (by lia)
          refine ⟨v, nu', th', ?_, z2, z3, fun T r => ?_⟩
          · rw [f_X10_things_53, if_neg c, f2 ok, g_bds, if_pos rfl]; exact z1
          · rw [r69 T r, (rt_at ha r hx hq hi (by omega) t6 w h0 ht).2 ok]; exact z4 T r
        · refine ⟨x5, nu, th, ?_, w, ht, fun T r => ?_⟩
          · rw [f_X10_things_53, if_neg c, f1 ok, g_bds, if_neg (by decide)]
          · rw [r69 T r, (rt_at ha r hx hq hi (by omega) t6 w h0 ht).1 ok]
      · refine ⟨x5, nu, th, ?_, w, ht, fun T r => ?_⟩
        · rw [f_X10_things_53, if_neg c, cf_end a0.toNatClampNeg c6 (by rw [hp]; exact cs) (by rw [hp]; omega) (by rw [hp]; omega), g_bds, if_neg (by decide)]
        · have nc : (rS T nu th).2.2.1 67 a0.toNatClampNeg - 3 - 3 * x5 < i := by rw [hcond T r]; omega
          rw [f_X11_things_69, if_neg c1', if_neg c, if_pos v6a, if_pos nc]
          exact rt_stop _ _ _ _ _ _ _
theorem cS_self (S : z_Stt) : cS S (S.2.2.1 2) (S.1 101) = S := by unfold cS; rw [sA_self, sI_self]
theorem rS_self (S : z_Stt) : rS S (S.2.2.1 49) (S.1 4806) = S := by unfold rS; rw [sA_self, sI_self]
/-- more things, on both sides -/
theorem Inv.things {S : z_Stt} (h : Inv S) {nu : Nat → Int32} {th : Int32} (w : wTold th nu) (ht : S.1 101 ≤ th) : Inv (rS (cS S nu th) nu th) := by
  obtain ⟨hw, e1, e2⟩ := h.1
  obtain ⟨dw, d1, d2, dr⟩ := h.2.2.1
  refine ⟨⟨w, rfl, rfl⟩, ?_, ?_, ?_, h.2.2.2.2.1.of rfl rfl rfl rfl rfl rfl rfl rfl rfl, h.2.2.2.2.2.1.of rfl rfl rfl rfl rfl rfl rfl rfl, h.2.2.2.2.2.2.of rfl (fun n q1 q2 => by simp only [rS, cS, sI, sA]; repeat rw [if_neg (by omega)]) (fun _ _ _ => rfl) rfl rfl rfl⟩
  · exact ⟨h.2.1.1.mono ht, h.2.1.2⟩
  · exact ⟨dw.mono hw.1.1 ht, d1, d2, dr⟩
  · obtain ⟨k1, k2, k3⟩ := h.2.2.2.1
    refine ⟨k1, k2, fun k => ?_⟩
    obtain ⟨k4, k5, k6⟩ := k3 k
    exact ⟨k4.mono hw.1.1 ht, ⟨k5.1, Int32.le_trans k5.2 ht⟩, k6⟩

theorem E_things (a0 : Int32) (a1 : Int32) (a2 : Int32) {S : z_Stt} (h : Inv S) : ∃ (v : Int32) (S1 S2 : z_Stt), f_X10_things FUEL a0 a1 a2 S = some (v, S1) ∧ f_X11_things FUEL a0 a1 a2 S1 = some (v, S2) ∧ Inv S2 := by
  have f9 : 20 < FUEL := by decide +kernel
  generalize FUEL = F at *
  obtain ⟨hw, e1, e2⟩ := h.1
  obtain ⟨dw, d1, d2, dr⟩ := h.2.2.1
  by_cases ha : 0 ≤ a0 ∧ a0 ≤ 5
  · obtain ⟨w, r⟩ := h.2.2.2.2.2.2 _ (d6 ha)
    have v6a : ¬ (a0 < 0 ∨ 6 ≤ a0.toNatClampNeg) := by rw [vp_6]; exact v6 ha
    by_cases hb : 1 ≤ a2 ∧ a2 ≤ 6
    · have nb : ¬ a2 < 1 := Int32.not_lt.mpr hb.1
      have eH : S.1 (100 * (36 + 2 * a0.toNatClampNeg) + 0) = shH S a0.toNatClampNeg := rfl
      have eS : S.1 (100 * (36 + 2 * a0.toNatClampNeg) + 2) = shS S a0.toNatClampNeg := rfl
      have r66 : ∀ x T, f_X11_things_66 F a0 a1 a2 x T = some (x, T) := by
        intro x T
        obtain ⟨F', rfl⟩ : ∃ q, F = q + 1 := ⟨F - 1, by omega⟩
        rw [f_X11_things_66, f_X11_things_67, f_X11_things_69, if_pos rfl]
      rcases w.1 with c | c | c
      · have q := r.1 c
        refine ⟨0, S, S, ?_, ?_, h⟩
        · unfold f_X10_things
          rw [e_isShelf10, g_bds, decide_eq_true ha, if_pos rfl, if_neg nb, if_pos hb.2, if_pos v6a, eH, if_pos c]
        · unfold f_X11_things
          rw [e_isShelf11, g_bds, decide_eq_true ha, if_pos rfl, e_w_1_6, g_bds, decide_eq_true hb, if_pos rfl, if_pos v6a, q, if_pos (by decide +kernel)]
          unfold f_X11_things_44
          rw [if_pos v6a, q, if_neg (by decide +kernel), r66]
      · have q := r.2.1 c
        have g := w.2.1 c
        have g1 := h.2.2.2.2.2.1.1.1
        have c0 : ¬ shH S a0.toNatClampNeg = 0 := by rw [c]; decide +kernel
        have c2 : ¬ shH S a0.toNatClampNeg = 2 := by rw [c]; decide +kernel
        refine ⟨-12, S, S, ?_, ?_, h⟩
        · unfold f_X10_things
          rw [e_isShelf10, g_bds, decide_eq_true ha, if_pos rfl, if_neg nb, if_pos hb.2, if_pos v6a, eH, if_neg c0]
          unfold f_X8_isRow
          rw [eH, if_neg c2, g_bds, if_neg (by decide)]
        · unfold f_X11_things
          rw [e_isShelf11, g_bds, decide_eq_true ha, if_pos rfl, e_w_1_6, g_bds, decide_eq_true hb, if_pos rfl, if_pos v6a, q, if_neg (by lia : ¬ shG S a0.toNatClampNeg < 0), if_pos v6a, if_neg (by lia : ¬ shG S a0.toNatClampNeg = 50)]
      · have q := (r.2.2 c)
        have so := (w.2.2 c).1
        have sz := (w.2.2 c).2.1
        have c0 : ¬ shH S a0.toNatClampNeg = 0 := by rw [c]; decide +kernel
        by_cases s0 : shS S a0.toNatClampNeg = 0
        · have ms : S.2.2.1 66 a0.toNatClampNeg = 50 := by rw [q.1, s0]; rfl
          have szr := rg sz
          rw [z0_32, i_60] at szr
          have a2r := rg hb
          have i1 : (1 : Int32).toInt = 1 := rfl
          rw [i1, i_6] at a2r
          have hel : ∀ k, k < 60 → -128 ≤ shE S a0.toNatClampNeg k ∧ shE S a0.toNatClampNeg k ≤ 127 := fun k hk => ((w.2.2 c).2.2 k hk).1 s0
          have c10 : ∀ r, f_X10_things_53 F F a1 a2 (36 + 2 * a0.toNatClampNeg) 0 S = r → f_X10_things F a0 a1 a2 S = r := by
            rintro r rfl
            unfold f_X10_things
            rw [e_isShelf10, g_bds, decide_eq_true ha, if_pos rfl, if_neg nb, if_pos hb.2, if_pos v6a, eH, if_neg c0]
            unfold f_X8_isRow
            rw [eH, if_pos c, eS, if_pos s0, g_bds, if_pos rfl]
          have c11 : ∀ T, T.2.2.1 66 = S.2.2.1 66 → f_X11_things F a0 a1 a2 T = f_X11_things_44 F a0 a1 a2 T := by
            intro T e
            unfold f_X11_things
            rw [e_isShelf11, g_bds, decide_eq_true ha, if_pos rfl, e_w_1_6, g_bds, decide_eq_true hb, if_pos rfl, if_pos v6a, e, ms, if_neg (by decide +kernel), if_pos v6a, if_pos rfl]
          by_cases hi : a1 < 0
          · refine ⟨0, S, S, c10 _ ?_, ?_, h⟩
            · obtain ⟨F', rfl⟩ : ∃ q, F = q + 1 := ⟨F - 1, by omega⟩
              have n0 : ¬ a2 ≤ 0 := by have := hb.1; lia
              have pl := pl_ti (i := a1) (x := 0) (k := 0) rfl (by omega)
              have pn : (a1.toInt64 + 3 * (0 : Int32).toInt64).toInt < 0 := by
                rw [pl]
                rw [Int32.lt_iff_toInt_lt, z0_32] at hi
                omega
              have cf : f_X10_comesFrom (36 + 2 * a0.toNatClampNeg) (a1.toInt64 + 3 * (0 : Int32).toInt64) S = some (false, S) := by
                by_cases c6 : 6 ≤ S.1 101
                · have z := cf_full (S := S) (nu := S.2.2.1 2) a0.toNatClampNeg (a1.toInt64 + 3 * (0 : Int32).toInt64) c6
                  rw [cS_self] at z; exact z
                · have z := cf_neg (S := S) (nu := S.2.2.1 2) a0.toNatClampNeg c6 pn
                  rw [cS_self] at z; exact z
              rw [f_X10_things_53, if_neg n0, cf, g_bds, if_neg (by decide)]
            · rw [c11 S rfl]
              unfold f_X11_things_44
              rw [if_pos v6a, ms, if_pos rfl, if_pos hi, r66]
          · have hi' : 0 ≤ a1.toInt := by rw [Int32.lt_iff_toInt_lt, z0_32] at hi; omega
            obtain ⟨j, hj⟩ : ∃ j : Nat, a2.toInt = j := ⟨a2.toInt.toNat, by omega⟩
            obtain ⟨v, nu', th', z1, z2, z3, z4⟩ := e_thl F (S := S) ha szr hi' a2r.2 hw.1.1 hel j 0 F F (S.2.2.1 2) (S.1 101) 0 rfl (by omega) (by omega) (by omega) hw (Int32.le_refl _)
            rw [cS_self] at z1
            refine ⟨v, cS S nu' th', rS (cS S nu' th') nu' th', c10 _ z1, ?_, h.things z2 z3⟩
            have ro : rOk S (cS S nu' th') a0 (S.1 101) := by
              refine ⟨q.2.1, fun k hk => ?_, fun t h6 ht => ?_⟩
              · show S.2.2.2.1 68 (60 * a0.toNatClampNeg + k) = _
                exact (q.2.2 k hk).trans (t32_self (hel k hk))
              · have d := (dw.1 t h6).2 ht
                refine ⟨?_, ?_⟩
                · show S.2.2.1 53 t = 0
                  rw [d1]; exact d.1
                · show S.2.2.1 54 t = 0
                  rw [d2 t h6]; exact d.2
            have z5 := z4 (cS S nu' th') ro
            have z6 : rS (cS S nu' th') (S.2.2.1 2) (S.1 101) = cS S nu' th' := by
              have := rS_self (cS S nu' th')
              have y1 : (cS S nu' th').2.2.1 49 = S.2.2.1 2 := e1
              have y2 : (cS S nu' th').1 4806 = S.1 101 := e2
              rw [y1, y2] at this
              exact this
            rw [z6] at z5
            rw [c11 (cS S nu' th') rfl]
            have y3 : (cS S nu' th').2.2.1 66 = S.2.2.1 66 := rfl
            unfold f_X11_things_44
            rw [if_pos v6a, y3, ms, if_pos rfl, if_neg hi]
            exact z5
        · refine ⟨-12, S, S, ?_, ?_, h⟩
          · unfold f_X10_things
            rw [e_isShelf10, g_bds, decide_eq_true ha, if_pos rfl, if_neg nb, if_pos hb.2, if_pos v6a, eH, if_neg c0]
            unfold f_X8_isRow
            rw [eH, if_pos c, eS, if_neg s0, g_bds, if_neg (by decide)]
          · unfold f_X11_things
            rw [e_isShelf11, g_bds, decide_eq_true ha, if_pos rfl, e_w_1_6, g_bds, decide_eq_true hb, if_pos rfl, if_pos v6a, q.1, if_neg (by lia : ¬ 50 + shS S a0.toNatClampNeg < 0), if_pos v6a, if_neg (by lia : ¬ 50 + shS S a0.toNatClampNeg = 50)]
    · refine ⟨-1, S, S, ?_, ?_, h⟩
      · unfold f_X10_things
        rw [e_isShelf10, g_bds, decide_eq_true ha, if_pos rfl]
        by_cases c1 : a2 < 1
        · rw [if_pos c1]
        · rw [if_neg c1, if_neg (fun c2 => hb ⟨Int32.not_lt.mp c1, c2⟩)]
      · unfold f_X11_things
        rw [e_isShelf11, g_bds, decide_eq_true ha, if_pos rfl, e_w_1_6, g_bds, decide_eq_false hb, if_neg (by decide)]
  · refine ⟨-1, S, S, ?_, ?_, h⟩
    · unfold f_X10_things
      rw [e_isShelf10, g_bds, decide_eq_false ha, if_neg (by decide)]
    · unfold f_X11_things
      rw [e_isShelf11, g_bds, decide_eq_false ha, if_neg (by decide)]
