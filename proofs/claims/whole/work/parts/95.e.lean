/-! DOUBTS: what the reference asks of all, and what staying costs -/
theorem pr_tail {f : Nat → Int} {th : Nat} : ∀ k, (∀ t, th ≤ t → t < th + k → f t = 1) → pr f (th + k) = pr f th
  | 0, _ => rfl
  | k + 1, h => by
    show pr f (th + k) * f (th + k) = pr f th
    rw [pr_tail k (fun t a b => h t a (by omega)), h (th + k) (by omega) (by omega)]; omega
theorem sm_tail {f : Nat → Int} {th : Nat} : ∀ k, (∀ t, th ≤ t → t < th + k → f t = 0) → sm f (th + k) = sm f th
  | 0, _ => rfl
  | k + 1, h => by
    show sm f (th + k) + f (th + k) = sm f th
    rw [sm_tail k (fun t a b => h t a (by omega)), h (th + k) (by omega) (by omega)]; omega
theorem pr_t6 {f : Nat → Int} {th : Nat} (h6 : th ≤ 6) (h : ∀ t, th ≤ t → t < 6 → f t = 1) : pr f 6 = pr f th := by
  have := pr_tail (f := f) (th := th) (6 - th) (fun t a b => h t a (by omega))
  rw [show th + (6 - th) = 6 by omega] at this
  exact this
theorem sm_t6 {f : Nat → Int} {th : Nat} (h6 : th ≤ 6) (h : ∀ t, th ≤ t → t < 6 → f t = 0) : sm f 6 = sm f th := by
  have := sm_tail (f := f) (th := th) (6 - th) (fun t a b => h t a (by omega))
  rw [show th + (6 - th) = 6 by omega] at this
  exact this
theorem out_th {y th t : Nat} (h : y < 2 ^ th) (ht : th ≤ t) : ¬ y.testBit t = true := fun q => absurd (in_lt h q) (by omega)
def rDt (T : z_Stt) (th : Nat) (n b g : Nat → Int) : Prop := (T.2.1 4825).toInt = pr g 6 * pr b 6 ∧ ∀ t, t < th → (T.2.2.2.1 58 t).toInt = g t * n t ∧ (T.2.2.2.1 59 t).toInt = g t * b t
theorem e_aa {S : z_Stt} (h : Inv S) {F N th y z : Nat} (hN : N < 2147483648) (ey : y = N % 64) (ez : z = N / 64) (hz : z < 64) (hc : pcN y ≤ 4) (hth : S.1 101 = Int32.ofNat th) (h6 : th ≤ 6) (hyt : y < 2 ^ th) : ∀ (j k m : Nat) (T : z_Stt), k + j = th → j < m → agQ S T → (T.2.1 4825).toInt = pr (pB S y z) k → (∀ t, t < k → (T.2.2.2.1 58 t).toInt = (if y.testBit t = true then (dN S z t).toInt else 0) ∧ (T.2.2.2.1 59 t).toInt = pB S y z t) → ∃ (b : Bool) (T' : z_Stt), f_X11_asksAll_7 F m (Int32.ofNat N) (Int32.ofNat k) T = some (b, T') ∧ (b = true ↔ 0 < pr (pB S y z) th) ∧ (T'.2.1 4825).toInt = pr (pB S y z) th ∧ ∀ t, t < th → (T'.2.2.2.1 58 t).toInt = (if y.testBit t = true then (dN S z t).toInt else 0) ∧ (T'.2.2.2.1 59 t).toInt = pB S y z t := by
  intro j
  have hy : y < 64 := by omega
  induction j with
  | zero =>
    intro k m T hk hm a hl hr
    obtain ⟨m, rfl⟩ : ∃ q, m = q + 1 := ⟨m - 1, by omega⟩
    have ek : k = th := by omega
    subst ek
    have c : T.1 4806 ≤ Int32.ofNat k := by rw [q_4806 h a, hth]; exact Int32.le_refl _
    by_cases q : T.2.1 4825 ≤ 0
    · refine ⟨false, T, ?_, ⟨fun w => absurd w (by decide), fun w => ?_⟩, hl, hr⟩
      · rw [f_X11_asksAll_7, if_pos c, if_pos (by rw [cmple]; exact q)]
      · rw [Int64.le_iff_toInt_le, z0_64, hl] at q; omega
    · refine ⟨true, T, ?_, ⟨fun _ => ?_, fun _ => rfl⟩, hl, hr⟩
      · rw [f_X11_asksAll_7, if_pos c, if_neg (by rw [cmple]; exact q)]
      · rw [Int64.le_iff_toInt_le, z0_64, hl] at q; omega
  | succ j ih =>
    intro k m T hk hm a hl hr
    obtain ⟨m, rfl⟩ : ∃ q, m = q + 1 := ⟨m - 1, by omega⟩
    have hk6 : k < 6 := by omega
    have c : ¬ T.1 4806 ≤ Int32.ofNat k := by rw [q_4806 h a, hth, on_le (by omega) (by omega)]; omega
    have stp : ∀ r, (if y.testBit k = true then f_X11_asksAll_58 F (f_X11_asksAll_7 F m) (Int32.ofNat N) (Int32.ofNat k) (Int32.ofNat (bt z k)) (Int32.ofNat k) (sE (sE T 58 (vp_updL (T.2.2.2.1 58) k 0)) 59 (vp_updL (T.2.2.2.1 59) k 1)) else f_X11_asksAll_95 F (f_X11_asksAll_7 F m) (Int32.ofNat N) (Int32.ofNat k) (sE (sE T 58 (vp_updL (T.2.2.2.1 58) k 0)) 59 (vp_updL (T.2.2.2.1 59) k 1))) = r → f_X11_asksAll_7 F (m + 1) (Int32.ofNat N) (Int32.ofNat k) T = r := by
      rintro r rfl
      have e59 : (sE T 58 (vp_updL (T.2.2.2.1 58) k 0)).2.2.2.1 59 = T.2.2.2.1 59 := rfl
      rw [f_X11_asksAll_7, if_neg c, if_pos (v6n hk6), g_lets, if_pos (v6n hk6), g_lets, on_tn (by omega), e59, mod64 hN, ← ey, e_isIn hy hk6, g_bds]
      by_cases hb : y.testBit k = true
      · rw [if_pos hb, if_pos hb, div64 hN, ← ez, e_isIn hz hk6, g_bds]
        unfold bt
        by_cases q : z.testBit k = true
        · rw [if_pos q, if_pos q]; rfl
        · rw [if_neg q, if_neg q]; rfl
      · rw [if_neg hb, if_neg hb]
    have a1 : agQ S (sE (sE T 58 (vp_updL (T.2.2.2.1 58) k 0)) 59 (vp_updL (T.2.2.2.1 59) k 1)) := (a.lsE rfl (by decide)).lsE rfl (by decide)
    have pe : pr (pB S y z) (k + 1) = pr (pB S y z) k * pB S y z k := rfl
    have pb1 := pB_bd h z hy hc (k := k + 1) (by omega)
    by_cases hb : y.testBit k = true
    · have ak := q_ask h a1 (t := Int32.ofNat k) (Int32.ofNat (bt z k)) (on_06 hk6)
      have a2 := a1.trans (fq_X11_asksOpen _ _ _ ak)
      have ak' : f_X11_asksOpen (Int32.ofNat k) (Int32.ofNat (bt z k)) (sE (sE T 58 (vp_updL (T.2.2.2.1 58) k 0)) 59 (vp_updL (T.2.2.2.1 59) k 1)) = some (decide (¬ dB S z k ≤ 0), sJ (sJ (sE (sE T 58 (vp_updL (T.2.2.2.1 58) k 0)) 59 (vp_updL (T.2.2.2.1 59) k 1)) 4811 (dN S z k)) 4812 (dB S z k)) := ak
      have a2' : agQ S (sJ (sJ (sE (sE T 58 (vp_updL (T.2.2.2.1 58) k 0)) 59 (vp_updL (T.2.2.2.1 59) k 1)) 4811 (dN S z k)) 4812 (dB S z k)) := a2
      generalize en : dN S z k = nn at *
      have pbk : pB S y z k = (dB S z k).toInt := if_pos hb
      generalize dB S z k = bb at *
      obtain ⟨b, T', z1, z2⟩ := ih (k + 1) m (sJ (sE (sE (sJ (sJ (sE (sE T 58 (vp_updL (T.2.2.2.1 58) k 0)) 59 (vp_updL (T.2.2.2.1 59) k 1)) 4811 nn) 4812 bb) 58 (vp_updL (vp_updL (T.2.2.2.1 58) k 0) k nn)) 59 (vp_updL (vp_updL (T.2.2.2.1 59) k 1) k bb)) 4825 (T.2.1 4825 * bb)) (by omega) (by omega) (((a2'.lsE rfl (by decide)).lsE rfl (by decide)).lsJ rfl) (by
          rw [rJ_eq, pe, tj_mul (by rw [hl, ← pbk, ← pe]; omega), hl, pbk]) (fun t ht => by
          show (vp_updL (vp_updL (T.2.2.2.1 58) k 0) k nn t).toInt = _ ∧ (vp_updL (vp_updL (T.2.2.2.1 59) k 1) k bb t).toInt = _
          by_cases e : t = k
          · subst e
            rw [updL_same, updL_same, if_pos hb]
            exact ⟨by rw [en], pbk.symm⟩
          · rw [updL_ne e, updL_ne e, updL_ne e, updL_ne e]
            exact hr t (by omega))
      refine ⟨b, T', stp _ ?_, z2⟩
      rw [if_pos hb]
      unfold f_X11_asksAll_58
      rw [ak', g_bds, if_pos (v6n hk6), g_lets, if_pos (v6n hk6), g_lets, g_lets, f_X11_asksAll_95, on_tn (by omega), on_s k (by omega), ← z1]
      have r1 : (sJ (sJ (sE (sE T 58 (vp_updL (T.2.2.2.1 58) k 0)) 59 (vp_updL (T.2.2.2.1 59) k 1)) 4811 nn) 4812 bb).2.1 4811 = nn := rJa _ _ _
      have r2 : (sJ (sJ (sE (sE T 58 (vp_updL (T.2.2.2.1 58) k 0)) 59 (vp_updL (T.2.2.2.1 59) k 1)) 4811 nn) 4812 bb).2.1 4812 = bb := rJb _ _ _
      rw [r1]
      have r3 : (sE (sJ (sJ (sE (sE T 58 (vp_updL (T.2.2.2.1 58) k 0)) 59 (vp_updL (T.2.2.2.1 59) k 1)) 4811 nn) 4812 bb) 58 (vp_updL ((sJ (sJ (sE (sE T 58 (vp_updL (T.2.2.2.1 58) k 0)) 59 (vp_updL (T.2.2.2.1 59) k 1)) 4811 nn) 4812 bb).2.2.2.1 58) k nn)).2.1 4812 = bb := r2
      rw [r3]
      rfl
    · have pbk : pB S y z k = 1 := if_neg hb
      obtain ⟨b, T', z1, z2⟩ := ih (k + 1) m (sE (sE T 58 (vp_updL (T.2.2.2.1 58) k 0)) 59 (vp_updL (T.2.2.2.1 59) k 1)) (by omega) (by omega) a1 (by rw [pe, pbk]; show (T.2.1 4825).toInt = _; rw [hl]; omega) (fun t ht => by
          show (vp_updL (T.2.2.2.1 58) k 0 t).toInt = _ ∧ (vp_updL (T.2.2.2.1 59) k 1 t).toInt = _
          by_cases e : t = k
          · subst e
            rw [updL_same, updL_same, if_neg hb]
            exact ⟨rfl, pbk.symm⟩
          · rw [updL_ne e, updL_ne e]
            exact hr t (by omega))
      refine ⟨b, T', stp _ ?_, z2⟩
      rw [if_neg hb, f_X11_asksAll_95, on_s k (by omega)]
      exact z1
theorem q_aa {S T : z_Stt} (h : Inv S) (a : agQ S T) {F N th y z : Nat} (hF : 92 < F) (hN : N < 2147483648) (ey : y = N % 64) (ez : z = N / 64) (hz : z < 64) (hc : pcN y ≤ 4) (hth : S.1 101 = Int32.ofNat th) (h6 : th ≤ 6) (hyt : y < 2 ^ th) : ∃ (b : Bool) (T' : z_Stt), f_X11_asksAll F (Int32.ofNat N) T = some (b, T') ∧ (b = true ↔ allP S y z) ∧ (allP S y z → rDt T' th (nD S y z) (bD S y z) (gD S y z)) ∧ agQ S T' := by
  have hy : y < 64 := by omega
  obtain ⟨b, T', z1, z2, z3, z4⟩ := e_aa h hN ey ez hz hc hth h6 hyt (F := F) th 0 F (sJ T 4825 1) (by omega) (by omega) (a.lsJ rfl) (by rw [rJ_eq]; rfl) (fun t ht => absurd ht (by omega))
  have f : f_X11_asksAll F (Int32.ofNat N) T = some (b, T') := by
    unfold f_X11_asksAll
    rw [g_lets]
    exact z1
  have e6 : pr (pB S y z) 6 = pr (pB S y z) th := pr_t6 h6 (fun t a b => if_neg (out_th hyt a))
  refine ⟨b, T', f, ?_, fun p => ⟨?_, fun t ht => ?_⟩, a.trans (fq_X11_asksAll _ _ f)⟩
  · rw [z2, ← e6]
    refine ⟨fun q t ht hb => ?_, fun p => pr_pos 6 (fun t ht => by
      by_cases hb : y.testBit t = true
      · have := p t ht hb
        rw [i64lt] at this
        have e : pB S y z t = (dB S z t).toInt := if_pos hb
        rw [e]; exact this
      · have e : pB S y z t = 1 := if_neg hb
        rw [e]; omega)⟩
    rw [i64lt]
    have e : pB S y z t = (dB S z t).toInt := if_pos hb
    have x := pr_x (pB S y z) t 6 ht
    have b0 := (pB_ok h y z ht).1
    rw [e] at x b0
    by_cases w : 0 < (dB S z t).toInt
    · exact w
    · have w0 : (dB S z t).toInt = 0 := by omega
      rw [w0] at x; omega
  · rw [z3, ← e6, pr_congr 6 (fun t ht => D_pB h p ht), pr_mul]
  · obtain ⟨y1, y2⟩ := z4 t ht
    rw [y1, y2]
    by_cases hb : y.testBit t = true
    · obtain ⟨-, -, -, -, k5, k6⟩ := D_key h (by omega) ⟨hb, p t (by omega) hb⟩
      rw [if_pos hb]
      exact ⟨k5, D_pB h p (by omega)⟩
    · rw [if_neg hb]
      refine ⟨?_, D_pB h p (by omega)⟩
      unfold nD
      rw [if_neg (fun q => hb q.1)]; omega
