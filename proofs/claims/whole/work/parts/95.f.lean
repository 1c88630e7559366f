/-! DOUBTS: sums of what stays, both sides; a look's cost -/
theorem e_term {X A N H : Int64} {g b n h W : Int} (hg : 0 < g) (hb : 0 < b) (hn : 0 ≤ n) (hl : n ≤ b) (h0 : 0 ≤ h) (h9 : h ≤ 999) (hW : 0 ≤ W) (eX : X.toInt = g * b * W) (hM : g * b * W ≤ 8916100448256) (eA : A.toInt = g * b) (eN : N.toInt = g * n) (eH : H.toInt = h) : (X / A * N * H).toInt = h * (g * (n * W)) ∧ 0 ≤ h * (g * (n * W)) ∧ h * (g * (n * W)) ≤ 999 * 8916100448256 := by
  have gb : 0 < g * b := Int.mul_pos hg hb
  have e1 : (X / A).toInt = W := by
    rw [tj_div (by rw [eX]; exact Int.mul_nonneg (Int.le_of_lt gb) hW) (by rw [eA]; exact gb), eX, eA, Int.mul_ediv_cancel_left _ (by omega)]
  have gn : 0 ≤ g * (n * W) := Int.mul_nonneg (Int.le_of_lt hg) (Int.mul_nonneg hn hW)
  have gn2 : g * (n * W) ≤ g * b * W := by
    have a : n * W ≤ b * W := Int.mul_le_mul_of_nonneg_right hl hW
    have c := Int.mul_le_mul_of_nonneg_left a (Int.le_of_lt hg)
    rw [Int.mul_assoc]; exact c
  have e2' : W * (g * n) = g * (n * W) := by grind
  have e2 : (X / A * N).toInt = g * (n * W) := by
    rw [tj_mul (by rw [e1, eN, e2']; omega), e1, eN, e2']
  have u : 0 ≤ h * (g * (n * W)) := Int.mul_nonneg h0 gn
  have u2 : h * (g * (n * W)) ≤ 999 * 8916100448256 := Int.mul_le_mul h9 (by omega) gn (by omega)
  have e3' : g * (n * W) * h = h * (g * (n * W)) := by grind
  refine ⟨?_, u, u2⟩
  rw [tj_mul (by rw [e2, eH, e3']; omega), e2, eH, e3']
theorem v6m {t : Nat} (h : t < 6) : ¬ (Int32.ofNat t < 0 ∨ 6 ≤ t) := by
  have q := v6n h
  rw [on_tn (by omega)] at q; exact q
def selR (s : Nat) (R : Nat → Int) (t : Nat) : Int := if s.testBit t = true then R t else 0
theorem sel_bd {s : Nat} {R : Nat → Int} {M : Int} (h0 : 0 ≤ M) {t : Nat} (h : 0 ≤ R t ∧ R t ≤ M) : 0 ≤ selR s R t ∧ selR s R t ≤ M := by
  unfold selR; split <;> omega
theorem GR_bd {y : Nat} {n b g h : Nat → Int} (d : Dok y n b g h) (s : Nat) {k : Nat} (hk : k ≤ 6) : 0 ≤ sm (selR s (RD n b h)) k ∧ 0 ≤ pr g 6 * sm (selR s (RD n b h)) k ∧ pr g 6 * sm (selR s (RD n b h)) k ≤ 5994 * 8916100448256 ∧ sm (selR s (RD n b h)) k ≤ 5994 * 8916100448256 := by
  obtain ⟨-, p1, p2, p3, p4⟩ := d.l
  have sb := sm_bd (f := selR s (RD n b h)) (M := 999 * pr b 6) k (fun t ht => sel_bd (by omega) ⟨(RD_ok d (by omega)).1, (RD_ok d (by omega)).2.1⟩)
  have kb : (k : Int) * (999 * pr b 6) ≤ 6 * (999 * pr b 6) := Int.mul_le_mul_of_nonneg_right (by omega) (by omega)
  have u : pr g 6 * sm (selR s (RD n b h)) k ≤ pr g 6 * (6 * (999 * pr b 6)) := Int.mul_le_mul_of_nonneg_left (by omega) (by omega)
  have e : pr g 6 * (6 * (999 * pr b 6)) = 5994 * (pr g 6 * pr b 6) := by grind
  exact ⟨sb.1, Int.mul_nonneg (by omega) sb.1, by omega, by omega⟩
/-- one thing's part of what staying costs -/
theorem R_term {y : Nat} {n b g h : Nat → Int} (d : Dok y n b g h) {th : Nat} (h6 : th ≤ 6) {T : z_Stt} (r : rDt T th n b g) {t : Nat} (ht : t < th) {v : Int32} (hv : v.toInt = h t) : (T.2.1 4825 / T.2.2.2.1 59 t * T.2.2.2.1 58 t * v.toInt64).toInt = pr g 6 * RD n b h t ∧ ¬ T.2.2.2.1 59 t = 0 := by
  obtain ⟨d1, d2, d3, d4, d5, d6', dn⟩ := d.2.1 t (by omega)
  obtain ⟨-, p1, p2, p3, p4⟩ := d.l
  obtain ⟨r1, r2⟩ := r.2 t ht
  have xg := pr_x g t 6 (by omega)
  have xb := pr_x b t 6 (by omega)
  have gx : 0 ≤ prx g t 6 := Int.le_of_lt (pr_pos 6 (fun s hs => by
    by_cases e : s = t
    · show 0 < (if s = t then (1 : Int) else g s); rw [if_pos e]; omega
    · show 0 < (if s = t then (1 : Int) else g s); rw [if_neg e]; exact (d.2.1 s hs).1))
  have bx : 0 ≤ prx b t 6 := Int.le_of_lt (pr_pos 6 (fun s hs => by
    by_cases e : s = t
    · show 0 < (if s = t then (1 : Int) else b s); rw [if_pos e]; omega
    · show 0 < (if s = t then (1 : Int) else b s); rw [if_neg e]; exact (d.2.1 s hs).2.1))
  have eX : (T.2.1 4825).toInt = g t * b t * (prx g t 6 * prx b t 6) := by rw [r.1, xg, xb]; grind
  have z := e_term d1 d2 d3 d4 d5 d6' (Int.mul_nonneg gx bx) eX (by rw [← eX, r.1]; exact p4) r2 r1 (by rw [Int32.toInt_toInt64]; exact hv)
  refine ⟨?_, ?_⟩
  · rw [z.1, xg]; unfold RD; grind
  · intro q
    have := congrArg Int64.toInt q
    rw [r2, z0_64] at this
    have p := Int.mul_pos d1 d2
    omega
theorem e_sf {S T : z_Stt} (h : Inv S) (a : agQ S T) {y : Nat} {n b g : Nat → Int} (d : Dok y n b g (hD S)) {th : Nat} (hth : S.1 101 = Int32.ofNat th) (h6 : th ≤ 6) (r : rDt T th n b g) {s : Nat} (hs : s < 64) (F : Nat) : ∀ (j k m : Nat) (acc : Int64), k + j = th → j < m → acc.toInt = pr g 6 * sm (selR s (RD n b (hD S))) k → ∃ v : Int64, f_X11_staysFor_5 F m (Int32.ofNat s) acc (Int32.ofNat k) T = some (v, T) ∧ v.toInt = pr g 6 * sm (selR s (RD n b (hD S))) th := by
  intro j
  induction j with
  | zero =>
    intro k m acc hk hm hac
    obtain ⟨m, rfl⟩ : ∃ q, m = q + 1 := ⟨m - 1, by omega⟩
    have ek : k = th := by omega
    subst ek
    exact ⟨acc, by rw [f_X11_staysFor_5, if_pos (by rw [q_4806 h a, hth]; exact Int32.le_refl _)], hac⟩
  | succ j ih =>
    intro k m acc hk hm hac
    obtain ⟨m, rfl⟩ : ∃ q, m = q + 1 := ⟨m - 1, by omega⟩
    have hk6 : k < 6 := by omega
    have c : ¬ T.1 4806 ≤ Int32.ofNat k := by rw [q_4806 h a, hth, on_le (by omega) (by omega)]; omega
    have b1 := GR_bd d s (k := k) (by omega)
    have b2 := GR_bd d s (k := k + 1) (by omega)
    have e1 : pr g 6 * sm (selR s (RD n b (hD S))) (k + 1) = pr g 6 * sm (selR s (RD n b (hD S))) k + pr g 6 * selR s (RD n b (hD S)) k := Int.mul_add _ _ _
    have stp : ∀ x : Int64, x.toInt = pr g 6 * selR s (RD n b (hD S)) k → ∃ v : Int64, f_X11_staysFor_57 F (f_X11_staysFor_5 F m) (Int32.ofNat s) (Int32.ofNat k) x acc T = some (v, T) ∧ v.toInt = pr g 6 * sm (selR s (RD n b (hD S))) th := by
      intro x hx
      obtain ⟨v, z1, z2⟩ := ih (k + 1) m (acc + x) (by omega) (by omega) (by rw [tj_add (by rw [hac, hx]; omega), hac, hx, e1])
      exact ⟨v, by rw [f_X11_staysFor_57, on_s k (by omega)]; exact z1, z2⟩
    by_cases hb : s.testBit k = true
    · have nr := e_nrG (S := S) (T := T) (q_49 h a) (k := 3) (by decide +kernel) (on_06 hk6)
      obtain ⟨t1, t2⟩ := R_term d h6 r (t := k) (by omega) (v := vAt S (6 * 3 + Int32.ofNat k)) rfl
      obtain ⟨v, z1, z2⟩ := stp _ (by rw [t1]; unfold selR; rw [if_pos hb])
      refine ⟨v, ?_, z2⟩
      rw [f_X11_staysFor_5, if_neg c, e_isIn hs hk6, g_bds, if_pos hb, if_pos (v6n hk6), on_tn (by omega), if_pos t2, if_pos (v6m hk6), nr, g_bds]
      exact z1
    · obtain ⟨v, z1, z2⟩ := stp 0 (by unfold selR; rw [if_neg hb, Int.mul_zero]; rfl)
      refine ⟨v, ?_, z2⟩
      rw [f_X11_staysFor_5, if_neg c, e_isIn hs hk6, g_bds, if_neg hb]
      exact z1
theorem RD_th {y : Nat} {n b g h : Nat → Int} (d : Dok y n b g h) {th : Nat} (hyt : y < 2 ^ th) (s : Nat) {t : Nat} (h1 : th ≤ t) (h2 : t < 6) : selR s (RD n b h) t = 0 := by
  unfold selR
  split
  · exact RD_0 d h2 (out_th hyt h1)
  · rfl
theorem q_sf {S T : z_Stt} (h : Inv S) (a : agQ S T) {y : Nat} {n b g : Nat → Int} (d : Dok y n b g (hD S)) {th : Nat} (hth : S.1 101 = Int32.ofNat th) (h6 : th ≤ 6) (hyt : y < 2 ^ th) (r : rDt T th n b g) {s : Nat} (hs : s < 64) {F : Nat} (hF : 6 < F) : ∃ v : Int64, f_X11_staysFor F (Int32.ofNat s) T = some (v, T) ∧ v.toInt = pr g 6 * sm (selR s (RD n b (hD S))) 6 := by
  obtain ⟨v, z1, z2⟩ := e_sf h a d hth h6 r hs F th 0 F 0 (by omega) (by omega) (by show (0 : Int) = pr g 6 * 0; omega)
  refine ⟨v, z1, ?_⟩
  rw [z2, sm_t6 h6 (fun t h1 h2 => RD_th d hyt s h1 h2)]
def nselR (s : Nat) (R : Nat → Int) (t : Nat) : Int := if s.testBit t = true then 0 else R t
def costI (l W K : Int) (s : Nat) (R : Nat → Int) : Int := (if s = 0 then 0 else l * (W + K * pcN s)) + sm (nselR s R) 6
theorem nsel_bd {y : Nat} {n b g h : Nat → Int} (d : Dok y n b g h) (s : Nat) {k : Nat} (hk : k ≤ 6) : 0 ≤ sm (nselR s (RD n b h)) k ∧ sm (nselR s (RD n b h)) k ≤ 5994 * pr b 6 := by
  obtain ⟨-, p1, p2, p3, p4⟩ := d.l
  have sb := sm_bd (f := nselR s (RD n b h)) (M := 999 * pr b 6) k (fun t ht => by
    have := RD_ok d (t := t) (by omega)
    unfold nselR; split <;> omega)
  have kb : (k : Int) * (999 * pr b 6) ≤ 6 * (999 * pr b 6) := Int.mul_le_mul_of_nonneg_right (by omega) (by omega)
  omega
theorem e_co {C : z_Stt} {y : Nat} {n b g h : Nat → Int} (d : Dok y n b g h) (c : cDt C y n b h) {s : Nat} (hs : s < 64) (F : Nat) (B : Int) (hB : 0 ≤ B ∧ B ≤ 3 * 1000000000000000000) : ∀ (j k m : Nat) (acc : Int64), k + j = 6 → j < m → acc.toInt = B + sm (nselR s (RD n b h)) k → ∃ v : Int64, f_X2_costOf_28 F m (Int32.ofNat s) acc (Int32.ofNat k) C = some (v, C) ∧ v.toInt = B + sm (nselR s (RD n b h)) 6 := by
  intro j
  obtain ⟨-, p1, p2, p3, p4⟩ := d.l
  induction j with
  | zero =>
    intro k m acc hk hm hac
    obtain ⟨m, rfl⟩ : ∃ q, m = q + 1 := ⟨m - 1, by omega⟩
    have ek : k = 6 := by omega
    subst ek
    exact ⟨acc, by rw [f_X2_costOf_28, if_pos (by decide +kernel)], hac⟩
  | succ j ih =>
    intro k m acc hk hm hac
    obtain ⟨m, rfl⟩ : ∃ q, m = q + 1 := ⟨m - 1, by omega⟩
    have hk6 : k < 6 := by omega
    have b1 := nsel_bd d s (k := k) (by omega)
    have b2 := nsel_bd d s (k := k + 1) (by omega)
    have e1 : sm (nselR s (RD n b h)) (k + 1) = sm (nselR s (RD n b h)) k + nselR s (RD n b h) k := rfl
    by_cases hb : s.testBit k = true
    · have e0 : nselR s (RD n b h) k = 0 := by unfold nselR; rw [if_pos hb]
      obtain ⟨v, z1, z2⟩ := ih (k + 1) m acc (by omega) (by omega) (by rw [hac, e1, e0]; omega)
      refine ⟨v, ?_, z2⟩
      rw [f_X2_costOf_28, if_neg (by rw [on_6le (by omega)]; omega), if_neg (fun q => (inZ hs hk6).mp q hb), f_X2_costOf_56, on_s k (by omega)]
      exact z1
    · have e0 : nselR s (RD n b h) k = RD n b h k := by unfold nselR; rw [if_neg hb]
      have rk := c.2.2.2 k hk6
      obtain ⟨v, z1, z2⟩ := ih (k + 1) m (acc + C.2.2.2.1 21 k) (by omega) (by omega) (by rw [tj_add (by rw [hac, rk, ← e0]; omega), hac, rk, e1, e0]; omega)
      refine ⟨v, ?_, z2⟩
      rw [f_X2_costOf_28, if_neg (by rw [on_6le (by omega)]; omega), if_pos ((inZ hs hk6).mpr hb), if_pos (v6n hk6), f_X2_costOf_56, on_tn (by omega), on_s k (by omega)]
      exact z1
theorem pc_6 (k : Nat) : pcN k ≤ 6 := by unfold pcN bt; repeat (first | omega | split)
theorem q_co {C : z_Stt} {y : Nat} {n b g h : Nat → Int} (d : Dok y n b g h) (c : cDt C y n b h) {s : Nat} (hs : s < 64) {F : Nat} (hF : 6 < F) {way : Int64} {look : Int32} {W K : Int} (eW : way.toInt = W) (hW : 0 ≤ W ∧ W ≤ 19602) (eK : look.toInt = K) (hK : 0 ≤ K ∧ K ≤ 99) : (∃ v : Int64, f_X2_costOf F (Int32.ofNat s) way look C = some (v, C) ∧ v.toInt = costI (pr b 6) W K s (RD n b h)) ∧ 0 ≤ costI (pr b 6) W K s (RD n b h) ∧ costI (pr b 6) W K s (RD n b h) ≤ 30000 * pr b 6 := by
  obtain ⟨-, p1, p2, p3, p4⟩ := d.l
  have b6 := nsel_bd d s (k := 6) (by omega)
  have p6 := pc_6 s
  have k1 : 0 ≤ K * (pcN s : Int) := Int.mul_nonneg hK.1 (by omega)
  have k2 : K * (pcN s : Int) ≤ 99 * 6 := Int.mul_le_mul hK.2 (by omega) (by omega) (by omega)
  have w1 : 0 ≤ pr b 6 * (W + K * (pcN s : Int)) := Int.mul_nonneg (by omega) (by omega)
  have w2 : pr b 6 * (W + K * (pcN s : Int)) ≤ pr b 6 * 20196 := Int.mul_le_mul_of_nonneg_left (by omega) (by omega)
  unfold costI
  by_cases s0 : s = 0
  · rw [if_pos s0]
    obtain ⟨v, z1, z2⟩ := e_co d c hs F 0 (by omega) 6 0 F 0 (by omega) hF (by show (0 : Int) = 0 + 0; omega)
    refine ⟨⟨v, ?_, z2⟩, by omega, by omega⟩
    unfold f_X2_costOf f_X2_costOf_23
    rw [if_pos (by rw [s0]; rfl)]
    exact z1
  · rw [if_neg s0]
    have n0 : ¬ Int32.ofNat s = 0 := by
      intro q
      have := congrArg Int32.toInt q
      rw [on_ti (by omega), z0_32] at this; omega
    have em : (look * Int32.ofNat (pcN s)).toInt64.toInt = K * (pcN s : Int) := by
      rw [Int32.toInt_toInt64, ti_mul (by rw [eK, on_ti (by omega)]; omega), eK, on_ti (by omega)]
    have ea : (way + (look * Int32.ofNat (pcN s)).toInt64).toInt = W + K * (pcN s : Int) := by rw [tj_add (by rw [eW, em]; omega), eW, em]
    have es : (C.2.1 1804 * (way + (look * Int32.ofNat (pcN s)).toInt64)).toInt = pr b 6 * (W + K * (pcN s : Int)) := by
      rw [tj_mul (by rw [c.2.1, ea]; omega), c.2.1, ea]
    obtain ⟨v, z1, z2⟩ := e_co d c hs F (pr b 6 * (W + K * (pcN s : Int))) (by omega) 6 0 F (C.2.1 1804 * (way + (look * Int32.ofNat (pcN s)).toInt64)) (by omega) hF (by rw [es]; show _ = _ + (0 : Int); omega)
    refine ⟨⟨v, ?_, z2⟩, by omega, by omega⟩
    unfold f_X2_costOf f_X2_costOf_23
    rw [if_neg n0, e_bc hs, g_bds]
    exact z1
