/-! DOUBTS: what the class finds and weighs -/
def RD (n b h : Nat → Int) (t : Nat) : Int := h t * (n t * prx b t 6)
def cP (C : z_Stt) (y : Nat) (n b h : Nat → Int) : Prop := C.1 1800 = Int32.ofNat y ∧ ∀ t, t < 6 → y.testBit t = true → (C.2.1 (100 * (22 + t) + 0)).toInt = n t ∧ (C.2.1 (100 * (22 + t) + 1)).toInt = b t ∧ (C.2.2.1 20 t).toInt = h t
def cDt (C : z_Stt) (y : Nat) (n b h : Nat → Int) : Prop := cP C y n b h ∧ (C.2.1 1804).toInt = pr b 6 ∧ (C.2.1 1805).toInt = sm (RD n b h) 6 ∧ ∀ t, t < 6 → (C.2.2.2.1 21 t).toInt = RD n b h t
theorem rJ_ne {S : z_Stt} {k n : Nat} {v : Int64} (h : ¬ n = k) : (sJ S k v).2.1 n = S.2.1 n := if_neg h
theorem rJ_eq (S : z_Stt) (k : Nat) (v : Int64) : (sJ S k v).2.1 k = v := if_pos rfl
theorem cP.setJ {C : z_Stt} {y : Nat} {n b h : Nat → Int} {k : Nat} (c : cP C y n b h) (hk : k < 2200) (v : Int64) : cP (sJ C k v) y n b h := by
  refine ⟨c.1, fun t ht hb => ?_⟩
  rw [rJ_ne (by omega), rJ_ne (by omega)]
  exact c.2 t ht hb
theorem cP.setE {C : z_Stt} {y : Nat} {n b h : Nat → Int} (c : cP C y n b h) (f : Nat → Int64) : cP (sE C 21 f) y n b h := c
theorem Dok.l {y : Nat} {n b g h : Nat → Int} (d : Dok y n b g h) : pr (fun t => g t * b t) 6 = pr g 6 * pr b 6 ∧ 0 < pr g 6 ∧ 0 < pr b 6 ∧ pr b 6 ≤ 8916100448256 ∧ pr g 6 * pr b 6 ≤ 8916100448256 := by
  have e := pr_mul g b 6
  have p1 : 0 < pr g 6 := pr_pos 6 (fun t ht => (d.2.1 t ht).1)
  have p2 : 0 < pr b 6 := pr_pos 6 (fun t ht => (d.2.1 t ht).2.1)
  have m := d.2.2
  rw [e] at m
  have z : 1 * pr b 6 ≤ pr g 6 * pr b 6 := Int.mul_le_mul_of_nonneg_right (by omega) (by omega)
  exact ⟨e, p1, p2, by omega, m⟩
theorem n_div {n b N : Int} (hn : 0 ≤ n) (hb : 0 < b) (hl : n ≤ b) (hN : 0 ≤ N) : 0 ≤ n * (N / b) ∧ n * (N / b) ≤ N := by
  have q : 0 ≤ N / b := Int.ediv_nonneg hN (Int.le_of_lt hb)
  have a : n * (N / b) ≤ b * (N / b) := Int.mul_le_mul_of_nonneg_right hl q
  have c : b * (N / b) ≤ N := Int.mul_ediv_self_le (by omega)
  exact ⟨Int.mul_nonneg hn q, Int.le_trans a c⟩
theorem tj_div {a b : Int64} (ha : 0 ≤ a.toInt) (hb : 0 < b.toInt) : (a / b).toInt = a.toInt / b.toInt := by
  have q : a.toInt / b.toInt ≤ a.toInt := Int.ediv_le_self _ ha
  have q0 : 0 ≤ a.toInt / b.toInt := Int.ediv_nonneg ha (Int.le_of_lt hb)
  have l := a.toInt_lt
  rw [Int64.toInt_div, Int.tdiv_eq_ediv_of_nonneg ha]
  exact Int.bmod_eq_of_le (by omega) (by omega)
theorem v6n {t : Nat} (h : t < 6) : ¬ (Int32.ofNat t < 0 ∨ 6 ≤ (Int32.ofNat t).toNatClampNeg) := by rw [vp_6]; exact on_06 h
theorem e_chance {C : z_Stt} {y : Nat} {n b g h : Nat → Int} (d : Dok y n b g h) (c : cP C y n b h) {t : Nat} (ht : t < 6) (hb : y.testBit t = true) {N : Int64} (h0 : 0 ≤ N.toInt) : ∃ v : Int64, f_X2_chance (Int32.ofNat t) N C = some (v, C) ∧ v.toInt = n t * (N.toInt / b t) := by
  obtain ⟨c1, c2, c3⟩ := c.2 t ht hb
  obtain ⟨d1, d2, d3, d4, d5, d6', -⟩ := d.2.1 t ht
  have l := N.toInt_lt
  have p : 0 < (C.2.1 (100 * (22 + t) + 1)).toInt := by rw [c2]; exact d2
  have p' : 0 < C.2.1 (100 * (22 + t) + 1) := by rw [i64lt]; exact p
  obtain ⟨q1, q2⟩ := n_div d3 d2 d4 h0
  refine ⟨C.2.1 (100 * (22 + t) + 0) * (N / C.2.1 (100 * (22 + t) + 1)), ?_, ?_⟩
  · unfold f_X2_chance
    rw [if_pos (v6n ht), if_pos (v6n ht), on_tn (by omega), if_neg (by rw [cmple]; exact Int64.not_le.mpr p'), if_pos (lt0n p')]
  · have e := tj_div (a := N) (b := C.2.1 (100 * (22 + t) + 1)) h0 p
    rw [c2] at e
    rw [tj_mul (by rw [c1, e]; omega), c1, e]
theorem on_6le {k : Nat} (h : k ≤ 2000) : (6 ≤ Int32.ofNat k) = (6 ≤ k) := on_le (a := 6) (by omega) h
theorem e_wg7 {y : Nat} {n b g h : Nat → Int} (d : Dok y n b g h) (F : Nat) : ∀ (j k m : Nat) (C : z_Stt), k + j = 6 → j < m → cP C y n b h → (C.2.1 1804).toInt = pr b k → ∃ C', f_X2_weigh_7 F m (Int32.ofNat k) C = f_X2_weigh_56 F F 0 (sJ C' 1805 0) ∧ cP C' y n b h ∧ (C'.2.1 1804).toInt = pr b 6 := by
  intro j
  obtain ⟨-, -, l2, l3, -⟩ := d.l
  induction j with
  | zero =>
    intro k m C hk hm c hs
    obtain ⟨m, rfl⟩ : ∃ q, m = q + 1 := ⟨m - 1, by omega⟩
    have e6 : k = 6 := by omega
    subst e6
    exact ⟨C, by rw [f_X2_weigh_7, if_pos (by decide +kernel), g_lets], c, hs⟩
  | succ j ih =>
    intro k m C hk hm c hs
    obtain ⟨m, rfl⟩ : ∃ q, m = q + 1 := ⟨m - 1, by omega⟩
    have hk6 : k < 6 := by omega
    obtain ⟨d1, d2, d3, d4, d5, d6', dn⟩ := d.2.1 k hk6
    have b1 : 0 < pr b k := pr_pos k (fun t ht => (d.2.1 t (by omega)).2.1)
    have b2 : pr b (k + 1) ≤ pr b 6 := pr_le' (fun t ht => (d.2.1 t ht).2.1) (by omega)
    have b3 : 0 < pr b (k + 1) := pr_pos _ (fun t ht => (d.2.1 t (by omega)).2.1)
    have e1 : pr b (k + 1) = pr b k * b k := rfl
    have stp : ∀ x : Int64, x.toInt = b k → f_X2_weigh_39 F (f_X2_weigh_7 F m) (Int32.ofNat k) x (C.2.1 1804) C = f_X2_weigh_7 F m (Int32.ofNat (k + 1)) (sJ C 1804 (C.2.1 1804 * x)) ∧ (C.2.1 1804 * x).toInt = pr b (k + 1) := by
      intro x hx
      refine ⟨by rw [f_X2_weigh_39, g_lets, on_s k (by omega)], ?_⟩
      rw [tj_mul (by rw [hs, hx, ← e1]; omega), hs, hx, e1]
    by_cases hb : y.testBit k = true
    · obtain ⟨c1, c2, c3⟩ := c.2 k hk6 hb
      obtain ⟨s1, s2⟩ := stp (C.2.1 (100 * (22 + k) + 1)) c2
      obtain ⟨C', z1, z2⟩ := ih (k + 1) m (sJ C 1804 (C.2.1 1804 * C.2.1 (100 * (22 + k) + 1))) (by omega) (by omega) (c.setJ (by decide) _) (by rw [rJ_eq]; exact s2)
      refine ⟨C', ?_, z2⟩
      rw [f_X2_weigh_7, if_neg (by rw [on_6le (by omega)]; omega), e_has d.1 hk6 c.1, g_bds, if_pos hb, if_pos (v6n hk6), on_tn (by omega), s1]
      exact z1
    · obtain ⟨s1, s2⟩ := stp 1 (by rw [(dn hb).2.1]; rfl)
      obtain ⟨C', z1, z2⟩ := ih (k + 1) m (sJ C 1804 (C.2.1 1804 * 1)) (by omega) (by omega) (c.setJ (by decide) _) (by rw [rJ_eq]; exact s2)
      refine ⟨C', ?_, z2⟩
      rw [f_X2_weigh_7, if_neg (by rw [on_6le (by omega)]; omega), e_has d.1 hk6 c.1, g_bds, if_neg hb, s1]
      exact z1
theorem RD_ok {y : Nat} {n b g h : Nat → Int} (d : Dok y n b g h) {t : Nat} (ht : t < 6) : 0 ≤ RD n b h t ∧ RD n b h t ≤ 999 * pr b 6 ∧ n t * (pr b 6 / b t) = n t * prx b t 6 := by
  obtain ⟨d1, d2, d3, d4, d5, d6', dn⟩ := d.2.1 t ht
  obtain ⟨-, -, l2, l3, -⟩ := d.l
  have e : pr b 6 / b t = prx b t 6 := by rw [pr_x b t 6 ht, Int.mul_ediv_cancel_left _ (by omega)]
  obtain ⟨q1, q2⟩ := n_div d3 d2 d4 (Int.le_of_lt l2)
  rw [e] at q1 q2 ⊢
  unfold RD
  exact ⟨Int.mul_nonneg d5 q1, Int.mul_le_mul d6' q2 q1 (by omega), rfl⟩
theorem RD_0 {y : Nat} {n b g h : Nat → Int} (d : Dok y n b g h) {t : Nat} (ht : t < 6) (hb : ¬ y.testBit t = true) : RD n b h t = 0 := by
  obtain ⟨d1, d2, d3, d4, d5, d6', dn⟩ := d.2.1 t ht
  unfold RD
  rw [(dn hb).1]; omega
theorem e_wg56 {y : Nat} {n b g h : Nat → Int} (d : Dok y n b g h) (F : Nat) : ∀ (j k m : Nat) (C : z_Stt), k + j = 6 → j < m → cP C y n b h → (C.2.1 1804).toInt = pr b 6 → (C.2.1 1805).toInt = sm (RD n b h) k → (∀ t, t < k → (C.2.2.2.1 21 t).toInt = RD n b h t) → ∃ C', f_X2_weigh_56 F m (Int32.ofNat k) C = some ((), C') ∧ cDt C' y n b h := by
  intro j
  obtain ⟨-, -, l2, l3, -⟩ := d.l
  induction j with
  | zero =>
    intro k m C hk hm c hs ht hr
    obtain ⟨m, rfl⟩ : ∃ q, m = q + 1 := ⟨m - 1, by omega⟩
    have e6 : k = 6 := by omega
    subst e6
    exact ⟨C, by rw [f_X2_weigh_56, if_pos (by decide +kernel)], c, hs, ht, hr⟩
  | succ j ih =>
    intro k m C hk hm c hs ht hr
    obtain ⟨m, rfl⟩ : ∃ q, m = q + 1 := ⟨m - 1, by omega⟩
    have hk6 : k < 6 := by omega
    obtain ⟨r1, r2, r3⟩ := RD_ok d hk6
    obtain ⟨d1, d2, d3, d4, d5, d6', dn⟩ := d.2.1 k hk6
    have sb := sm_bd (f := RD n b h) (M := 999 * pr b 6) k (fun t ht => ⟨(RD_ok d (by omega)).1, (RD_ok d (by omega)).2.1⟩)
    have kb : (k : Int) * (999 * pr b 6) ≤ 6 * (999 * pr b 6) := Int.mul_le_mul_of_nonneg_right (by omega) (by omega)
    have stp : ∀ x : Int64, x.toInt = RD n b h k → ∃ C', f_X2_weigh_96 F (f_X2_weigh_56 F m) (Int32.ofNat k) x (Int32.ofNat k) C = some ((), C') ∧ cDt C' y n b h := by
      intro x hx
      have u1 : ((sE C 21 (vp_updL (C.2.2.2.1 21) k x)).2.1 1805 + (sE C 21 (vp_updL (C.2.2.2.1 21) k x)).2.2.2.1 21 k) = C.2.1 1805 + x := by
        have e : (sE C 21 (vp_updL (C.2.2.2.1 21) k x)).2.2.2.1 21 k = vp_updL (C.2.2.2.1 21) k x k := rfl
        rw [e, updL_same]; rfl
      have u2 : (C.2.1 1805 + x).toInt = sm (RD n b h) (k + 1) := by
        rw [tj_add (by rw [ht, hx]; omega), ht, hx]; rfl
      obtain ⟨C', z1, z2⟩ := ih (k + 1) m (sJ (sE C 21 (vp_updL (C.2.2.2.1 21) k x)) 1805 (C.2.1 1805 + x)) (by omega) (by omega) ((c.setE _).setJ (by decide) _) hs (by rw [rJ_eq]; exact u2) (fun t htk => by
        show (vp_updL (C.2.2.2.1 21) k x t).toInt = _
        by_cases e : t = k
        · rw [e, updL_same]; exact hx
        · rw [updL_ne e]; exact hr t (by omega))
      refine ⟨C', ?_, z2⟩
      unfold f_X2_weigh_96
      rw [if_pos (v6n hk6), g_lets, if_pos (v6n hk6), g_lets, on_tn (by omega), u1, on_s k (by omega)]
      exact z1
    by_cases hb : y.testBit k = true
    · obtain ⟨c1, c2, c3⟩ := c.2 k hk6 hb
      obtain ⟨v, v1, v2⟩ := e_chance d c hk6 hb (N := C.2.1 1804) (by rw [hs]; omega)
      rw [hs, r3] at v2
      have hx : ((C.2.2.1 20 k).toInt64 * v).toInt = RD n b h k := by
        have e : (C.2.2.1 20 k).toInt64.toInt * v.toInt = RD n b h k := by rw [Int32.toInt_toInt64, c3, v2]; rfl
        rw [tj_mul (by rw [e]; omega), e]
      obtain ⟨C', z1, z2⟩ := stp _ hx
      refine ⟨C', ?_, z2⟩
      rw [f_X2_weigh_56, if_neg (by rw [on_6le (by omega)]; omega), e_has d.1 hk6 c.1, g_bds, if_pos hb, if_pos (v6n hk6), on_tn (by omega), v1, g_bds]
      exact z1
    · obtain ⟨C', z1, z2⟩ := stp 0 (by rw [RD_0 d hk6 hb]; rfl)
      refine ⟨C', ?_, z2⟩
      rw [f_X2_weigh_56, if_neg (by rw [on_6le (by omega)]; omega), e_has d.1 hk6 c.1, g_bds, if_neg hb]
      exact z1
theorem e_weigh {y : Nat} {n b g h : Nat → Int} (d : Dok y n b g h) {F : Nat} (hF : 6 < F) {C : z_Stt} (c : cP C y n b h) : ∃ C', f_X2_weigh F C = some ((), C') ∧ cDt C' y n b h := by
  obtain ⟨C1, z1, z2, z3⟩ := e_wg7 d F 6 0 F (sJ C 1804 1) (by omega) hF (c.setJ (by decide) _) (by rw [rJ_eq]; rfl)
  obtain ⟨C2, y1, y2⟩ := e_wg56 d F 6 0 F (sJ C1 1805 0) (by omega) hF (z2.setJ (by decide) _) (by rw [rJ_ne (by decide)]; exact z3) (by rw [rJ_eq]; rfl) (fun t ht => absurd ht (by omega))
  refine ⟨C2, ?_, y2⟩
  unfold f_X2_weigh
  rw [g_lets]
  exact z1.trans y1
