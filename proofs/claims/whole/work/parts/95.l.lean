/-! PLAN: the call -/
theorem e_r29 {S T : z_Stt} (h : Inv S) (a : agQ S T) {y : Nat} {n b g : Nat → Int} (d : Dok y n b g (hD S)) {th : Nat} (hth : S.1 101 = Int32.ofNat th) (h6 : th ≤ 6) (hyt : y < 2 ^ th) (r : rDt T th n b g) {s : Nat} (hs : s < 64) {F : Nat} (hF : 6 < F) {x3 : Int32} {back stays : Int64} {W Rg rg : Int} (eW : (prV S x3).toInt = W) (hW : 0 ≤ W ∧ W ≤ 19602) (eR : (S.2.2.1 2 38).toInt = Rg) (hR : 0 ≤ Rg ∧ Rg ≤ 99) (eP : (S.1 703).toInt = rg) (hP : 0 ≤ rg ∧ rg ≤ 12) (eb : back.toInt = pr g 6 * (W * pr b 6)) (es : stays.toInt = pr g 6 * sm (RD n b (hD S)) 6) : ∀ (j k m : Nat) (shut : Int64), k + j = th → j < m → shut.toInt = pr g 6 * pr (mix n b s k) 6 → ∃ v : Int64, f_X11_ringCosts_29 F m (Int32.ofNat y) (Int32.ofNat s) x3 back stays shut (Int32.ofNat k) T = some (v, T) ∧ v.toInt = pr g 6 * ringI (pr b 6) (pr (nf n b s) 6) (sm (UD n b (hD S) s) 6) (sm (RD n b (hD S)) 6) W Rg rg := by
  intro j
  have hy := d.1
  obtain ⟨-, p1, p2, p3, p4⟩ := d.l
  obtain ⟨an1, an2⟩ := and_8 ⟨y, hy⟩ ⟨s, hs⟩
  have an1' : (Int32.ofNat y &&& Int32.ofNat s) = Int32.ofNat (y &&& s) := an1
  have an2' : y &&& s < 64 := an2
  induction j with
  | zero =>
    intro k m shut hk hm hx
    obtain ⟨m, rfl⟩ : ∃ q, m = q + 1 := ⟨m - 1, by omega⟩
    have ek : k = th := by omega
    subst ek
    rw [mix_th d s hyt] at hx
    obtain ⟨v, z1, z2⟩ := e_r94 h a d hth h6 hyt r hs F eW hW eR hR eP hP eb es hx k 0 F 0 (by omega) (by omega) (by show (0 : Int) = pr g 6 * 0; omega)
    exact ⟨v, by rw [f_X11_ringCosts_29, if_pos (by rw [q_4806 h a, hth]; exact Int32.le_refl _)]; exact z1, z2⟩
  | succ j ih =>
    intro k m shut hk hm hx
    obtain ⟨m, rfl⟩ : ∃ q, m = q + 1 := ⟨m - 1, by omega⟩
    have hk6 : k < 6 := by omega
    have c : ¬ T.1 4806 ≤ Int32.ofNat k := by rw [q_4806 h a, hth, on_le (by omega) (by omega)]; omega
    obtain ⟨d1, d2, d3, d4, d5, d6', dn⟩ := d.2.1 k hk6
    obtain ⟨ms1, ms2⟩ := mix_s n b s k hk6
    obtain ⟨mn1, mn2, mn3⟩ := mix_nn d s (k + 1)
    obtain ⟨mk1, mk2, mk3⟩ := mix_nn d s k
    have stp : ∀ x : Int64, x.toInt = pr g 6 * pr (mix n b s (k + 1)) 6 → ∃ v : Int64, f_X11_ringCosts_80 F (f_X11_ringCosts_29 F m) (Int32.ofNat y) (Int32.ofNat s) x3 back stays (Int32.ofNat k) x T = some (v, T) ∧ v.toInt = pr g 6 * ringI (pr b 6) (pr (nf n b s) 6) (sm (UD n b (hD S) s) 6) (sm (RD n b (hD S)) 6) W Rg rg := by
      intro x hxx
      obtain ⟨v, z1, z2⟩ := ih (k + 1) m x (by omega) (by omega) hxx
      exact ⟨v, by rw [f_X11_ringCosts_80, on_s k (by omega)]; exact z1, z2⟩
    have inb := e_isIn an2' hk6 T
    rw [Nat.testBit_and] at inb
    by_cases hb : y.testBit k = true ∧ s.testBit k = true
    · obtain ⟨hb1, hb2⟩ := hb
      rw [hb1, hb2] at inb
      obtain ⟨r1, r2⟩ := r.2 k (by omega)
      have xg := pr_x g k 6 hk6
      have gx := prx_pos (f := g) (s := k) (fun t ht => (d.2.1 t ht).1)
      have px := prx_nn (f := mix n b s k) (s := k) mk1
      have gb : 0 < g k * b k := Int.mul_pos d1 d2
      have eX : shut.toInt = g k * b k * (prx g k 6 * prx (mix n b s k) k 6) := by rw [hx, xg, ms2]; grind
      have W0 : 0 ≤ prx g k 6 * prx (mix n b s k) k 6 := Int.mul_nonneg (Int.le_of_lt gx) px
      have sM : shut.toInt ≤ 8916100448256 := by
        have z : pr g 6 * pr (mix n b s k) 6 ≤ pr g 6 * pr b 6 := Int.mul_le_mul_of_nonneg_left mk3 (by omega)
        omega
      have q1 : (shut / T.2.2.2.1 59 k).toInt = prx g k 6 * prx (mix n b s k) k 6 := by
        rw [tj_div (by rw [eX]; exact Int.mul_nonneg (Int.le_of_lt gb) W0) (by rw [r2]; exact gb), eX, r2, Int.mul_ediv_cancel_left _ (by omega)]
      have gbM : g k * b k ≤ 8916100448256 := by
        have z := pr_x (fun t => g t * b t) k 6 hk6
        have zp : 0 < prx (fun t => g t * b t) k 6 := prx_pos (fun t ht => Int.mul_pos (d.2.1 t ht).1 (d.2.1 t ht).2.1)
        have z2 : g k * b k * 1 ≤ g k * b k * prx (fun t => g t * b t) k 6 := Int.mul_le_mul_of_nonneg_left (by omega) (Int.le_of_lt gb)
        have z3 := d.2.2
        omega
      have gn : 0 ≤ g k * n k ∧ g k * n k ≤ g k * b k := ⟨Int.mul_nonneg (Int.le_of_lt d1) d3, Int.mul_le_mul_of_nonneg_left d4 (Int.le_of_lt d1)⟩
      have q2 : (T.2.2.2.1 59 k - T.2.2.2.1 58 k).toInt = g k * b k - g k * n k := by
        rw [tj_sub (by rw [r1, r2]; omega), r1, r2]
      have e5 : prx g k 6 * prx (mix n b s k) k 6 * (g k * b k - g k * n k) = pr g 6 * pr (mix n b s (k + 1)) 6 := by
        rw [ms1, xg]
        unfold nf
        rw [if_pos hb2]; grind
      have fb : 0 ≤ pr g 6 * pr (mix n b s (k + 1)) 6 := Int.mul_nonneg (by omega) mn2
      have fb2 : pr g 6 * pr (mix n b s (k + 1)) 6 ≤ pr g 6 * pr b 6 := Int.mul_le_mul_of_nonneg_left mn3 (by omega)
      obtain ⟨v, z1, z2⟩ := stp (shut / T.2.2.2.1 59 k * (T.2.2.2.1 59 k - T.2.2.2.1 58 k)) (by
        rw [tj_mul (by rw [q1, q2, e5]; omega), q1, q2, e5])
      have ne : ¬ T.2.2.2.1 59 k = 0 := by
        intro q
        have := congrArg Int64.toInt q
        rw [r2, z0_64] at this
        omega
      refine ⟨v, ?_, z2⟩
      rw [f_X11_ringCosts_29, if_neg c, an1', inb, g_bds, if_pos (by decide), if_pos (v6n hk6), on_tn (by omega), if_pos ne, if_pos (v6m hk6), if_pos (v6m hk6)]
      exact z1
    · have e0 : pr (mix n b s (k + 1)) 6 = pr (mix n b s k) 6 := by
        rw [ms1, ms2]
        have : nf n b s k = b k := by
          unfold nf
          by_cases hs2 : s.testBit k = true
          · have hy2 : ¬ y.testBit k = true := fun q => hb ⟨q, hs2⟩
            rw [if_pos hs2, (dn hy2).1]; omega
          · rw [if_neg hs2]
        rw [this]
      have inb' : (y.testBit k && s.testBit k) = false := by
        cases e1 : y.testBit k <;> cases e2 : s.testBit k
        · rfl
        · rfl
        · rfl
        · exact absurd ⟨e1, e2⟩ hb
      rw [inb'] at inb
      obtain ⟨v, z1, z2⟩ := stp shut (by rw [hx, e0])
      refine ⟨v, ?_, z2⟩
      rw [f_X11_ringCosts_29, if_neg c, an1', inb, g_bds, if_neg (by decide)]
      exact z1
theorem wl_bd {y : Nat} {n b g h : Nat → Int} (d : Dok y n b g h) {W : Int} (hW : 0 ≤ W ∧ W ≤ 19602) : 0 ≤ W * pr b 6 ∧ W * pr b 6 ≤ 19602 * pr b 6 ∧ pr g 6 * (W * pr b 6) ≤ 19602 * 8916100448256 ∧ 0 ≤ pr g 6 * (W * pr b 6) := by
  obtain ⟨-, p1, p2, p3, p4⟩ := d.l
  have w0 : 0 ≤ W * pr b 6 := Int.mul_nonneg hW.1 (by omega)
  have w1 : W * pr b 6 ≤ 19602 * pr b 6 := Int.mul_le_mul_of_nonneg_right hW.2 (by omega)
  have z : pr g 6 * (W * pr b 6) ≤ pr g 6 * (19602 * pr b 6) := Int.mul_le_mul_of_nonneg_left w1 (by omega)
  have e : pr g 6 * (19602 * pr b 6) = 19602 * (pr g 6 * pr b 6) := by grind
  exact ⟨w0, w1, by omega, Int.mul_nonneg (by omega) w0⟩
theorem q_ring {S T : z_Stt} (h : Inv S) (a : agQ S T) {y : Nat} {n b g : Nat → Int} (d : Dok y n b g (hD S)) {th : Nat} (hth : S.1 101 = Int32.ofNat th) (h6 : th ≤ 6) (hyt : y < 2 ^ th) (r : rDt T th n b g) {s : Nat} (hs : s < 64) {F : Nat} (hF : 6 < F) {x3 : Int32} {W Rg rg : Int} (eW : (prV S x3).toInt = W) (hW : 0 ≤ W ∧ W ≤ 19602) (eR : (S.2.2.1 2 38).toInt = Rg) (hR : 0 ≤ Rg ∧ Rg ≤ 99) (eP : (S.1 703).toInt = rg) (hP : 0 ≤ rg ∧ rg ≤ 12) : ∃ v : Int64, f_X11_ringCosts F (Int32.ofNat y) (Int32.ofNat s) x3 T = some (v, T) ∧ v.toInt = pr g 6 * ringI (pr b 6) (pr (nf n b s) 6) (sm (UD n b (hD S) s) 6) (sm (RD n b (hD S)) 6) W Rg rg := by
  obtain ⟨st, s1, s2⟩ := q_sf h a d hth h6 hyt r d.1 hF
  rw [sel_y d] at s2
  obtain ⟨w0, w1, w2, w3⟩ := wl_bd d hW
  have eb : ((prV S x3).toInt64 * T.2.1 4825).toInt = pr g 6 * (W * pr b 6) := by
    have e : W * (pr g 6 * pr b 6) = pr g 6 * (W * pr b 6) := by grind
    rw [tj_mul (by rw [Int32.toInt_toInt64, eW, r.1, e]; omega), Int32.toInt_toInt64, eW, r.1, e]
  obtain ⟨v, z1, z2⟩ := e_r29 h a d hth h6 hyt r hs hF eW hW eR hR eP hP eb s2 th 0 F (T.2.1 4825) (by omega) (by omega) (by rw [r.1, mix_0])
  refine ⟨v, ?_, z2⟩
  unfold f_X11_ringCosts
  rw [e_backG (S := S) x3 (q_49 h a), g_bds, s1, g_bds]
  exact z1
