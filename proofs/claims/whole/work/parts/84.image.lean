/-! AN IMAGE, the other side -/
theorem vp_21' {e : Int32} (h : 0 ≤ e ∧ e < 21) : ¬ (e < 0 ∨ 21 ≤ e.toNatClampNeg) := by rw [vp_21]; exact h
theorem ix2 {x : Int32} (h : 0 ≤ x ∧ x < 6) : (2 * x).toNatClampNeg = 2 * x.toNatClampNeg ∧ (2 * x + 1).toNatClampNeg = 2 * x.toNatClampNeg + 1 ∧ (0 ≤ 2 * x ∧ 2 * x < 21) ∧ (0 ≤ 2 * x + 1 ∧ 2 * x + 1 < 21) := by
  rcases cs06 h with rfl | rfl | rfl | rfl | rfl | rfl <;> decide +kernel
theorem ix16 {x : Int32} (h : 0 ≤ x ∧ x < 5) : (16 + x).toNatClampNeg = 16 + x.toNatClampNeg ∧ (0 ≤ 16 + x ∧ 16 + x < 21) := by
  have h6 : 0 ≤ x ∧ x < 6 := ⟨h.1, by lia⟩
  rcases cs06 h6 with rfl | rfl | rfl | rfl | rfl | rfl
  · decide +kernel
  · decide +kernel
  · decide +kernel
  · decide +kernel
  · decide +kernel
  · exact absurd h.2 (by decide +kernel)
/-- the five of what is led, moved by sixteen -/
theorem e_img121 (n : Nat) : ∀ (m : Nat) (x : Int32) (S : z_Stt), 0 ≤ x → x ≤ 5 → 5 - x.toInt < m → ∃ g, f_X11_image_121 n m x S = some (S.2.2.1 62 0, sA S 63 g) ∧ (∀ j, x.toNatClampNeg ≤ j → j < 5 → g (16 + j) = S.2.2.1 62 j) ∧ ∀ k, k < 16 + x.toNatClampNeg → g k = S.2.2.1 63 k := by
  intro m
  induction m with
  | zero => intro x S h1 h2 h3; rw [Int32.le_iff_toInt_le, i_5] at h2; omega
  | succ m ih =>
    intro x S h1 h2 h3
    have q := tn h1
    by_cases e : 5 ≤ x
    · have e6 : x = 5 := by lia
      subst e6
      have n5 : (5 : Int32).toNatClampNeg = 5 := rfl
      refine ⟨S.2.2.1 63, ?_, fun j h1 h2 => by omega, fun _ _ => rfl⟩
      rw [f_X11_image_121, if_pos e, sA_self, if_pos (by decide +kernel)]
      rfl
    · have lt : x < 5 := Int32.not_le.mp e
      have lx : 0 ≤ x ∧ x < 5 := ⟨h1, lt⟩
      have q1 : (x + 1).toInt = x.toInt + 1 := inc32 lt
      have q3 := tn (a := x + 1) (by lia)
      have q4 : (x + 1).toNatClampNeg = x.toNatClampNeg + 1 := by omega
      have i16 := ix16 lx
      obtain ⟨g, g1, g2, g3⟩ := ih (x + 1) (sA S 63 (upd (S.2.2.1 63) (16 + x).toNatClampNeg (S.2.2.1 62 x.toNatClampNeg))) (by lia) (by lia) (by omega)
      refine ⟨g, ?_, fun j h1 h2 => ?_, fun k hk => ?_⟩
      · rw [f_X11_image_121, if_neg e]
        simp only [vp_5, vp_21, if_pos lx, if_pos i16.2, g_let]
        rw [g1, sA_sA]
        rfl
      · by_cases ej : j = x.toNatClampNeg
        · rw [g3 _ (by omega), ej]
          show upd (S.2.2.1 63) (16 + x).toNatClampNeg _ _ = _
          rw [i16.1, upd_same]
        · exact g2 j (by omega) h2
      · rw [g3 k (by omega)]
        show upd (S.2.2.1 63) (16 + x).toNatClampNeg _ _ = _
        rw [i16.1, upd_ne (by omega)]
theorem e_img15 (n : Nat) {th : Int32} (ht : 0 ≤ th ∧ th ≤ 6) : ∀ (m : Nat) (x : Int32) (S : z_Stt), S.1 4806 = th → 0 ≤ x → x ≤ th → th.toInt - x.toInt < m → ∃ g, f_X11_image_15 n m x S = f_X11_image_15 n 1 th (sA S 63 g) ∧ (∀ t, x.toNatClampNeg ≤ t → t < th.toNatClampNeg → g (2 * t) = S.2.2.1 53 t ∧ g (2 * t + 1) = if S.2.2.1 54 t = 0 then 0 else 1) ∧ ∀ k, k < 2 * x.toNatClampNeg → g k = S.2.2.1 63 k := by
  intro m
  induction m with
  | zero => intro x S h0 h1 h2 h3; rw [Int32.le_iff_toInt_le] at h2; omega
  | succ m ih =>
    intro x S h0 h1 h2 h3
    have q := tn h1
    by_cases e : th ≤ x
    · have e6 : x = th := by lia
      subst e6
      refine ⟨S.2.2.1 63, ?_, fun t h1 h2 => by omega, fun _ _ => rfl⟩
      have hc : S.1 4806 ≤ x := by rw [h0]; exact e
      rw [sA_self, f_X11_image_15, f_X11_image_15]
      simp only [if_pos hc]
    · have lt : x < th := Int32.not_le.mp e
      have lx : 0 ≤ x ∧ x < 6 := ⟨h1, lt_of6 lt ht.2⟩
      have q1 : (x + 1).toInt = x.toInt + 1 := inc32 lt
      have q3 := tn (a := x + 1) (by lia)
      have q4 : (x + 1).toNatClampNeg = x.toNatClampNeg + 1 := by omega
      obtain ⟨i1, i2, i3, i4⟩ := ix2 lx
      obtain ⟨bv, ebv⟩ : ∃ bv : Int32, bv = if S.2.2.1 54 x.toNatClampNeg = 0 then 0 else 1 := ⟨_, rfl⟩
      obtain ⟨g, g1, g2, g3⟩ := ih (x + 1) (sA S 63 (upd (upd (S.2.2.1 63) (2 * x).toNatClampNeg (S.2.2.1 53 x.toNatClampNeg)) (2 * x + 1).toNatClampNeg bv)) h0 (by lia) (by lia) (by omega)
      refine ⟨g, ?_, fun t h1 h2 => ?_, fun k hk => ?_⟩
      · rw [f_X11_image_15, h0, if_neg e]
        simp only [vp_6, vp_21, if_pos lx, if_pos i3, g_let, f_X11_image_60, if_pos i4, rI, rI2, rJ1, rJ2, rJ3, rA1, rA2, rA3, rA4, rE1, rE2, rE3, rE4, rE5, rR1, rR2, rR3, rR4, rR5, Nat.reduceEqDiff, reduceIte]
        rw [sA_sA] at g1
        by_cases b0 : S.2.2.1 54 x.toNatClampNeg = 0
        · rw [if_pos b0] at ebv ⊢
          rw [← g1, ebv, sA_sA]
        · rw [if_neg b0] at ebv ⊢
          rw [← g1, ebv, sA_sA]
      · by_cases et : t = x.toNatClampNeg
        · rw [g3 _ (by omega), g3 _ (by omega), et]
          show upd (upd (S.2.2.1 63) (2 * x).toNatClampNeg _) (2 * x + 1).toNatClampNeg bv _ = _ ∧ upd (upd (S.2.2.1 63) (2 * x).toNatClampNeg _) (2 * x + 1).toNatClampNeg bv _ = _
          rw [i1, i2, upd_same, upd_ne (by omega), upd_same]
          exact ⟨rfl, ebv⟩
        · exact g2 t (by omega) h2
      · rw [g3 k (by omega)]
        show upd (upd (S.2.2.1 63) (2 * x).toNatClampNeg _) (2 * x + 1).toNatClampNeg bv _ = _
        rw [i1, i2, upd_ne (by omega), upd_ne (by omega)]
theorem e_imgEnd {n : Nat} {th : Int32} {S : z_Stt} (h0 : S.1 4806 = th) (f5 : 5 - (0 : Int32).toInt < n) : ∃ g, f_X11_image_15 n 1 th S = some (S.2.2.1 62 0, sA S 63 g) ∧ (∀ k, k < 12 → g k = S.2.2.1 63 k) ∧ g 12 = S.1 4809 ∧ g 13 = S.1 4810 ∧ g 14 = S.1 4830 ∧ (g 15 = if S.1 4831 = 0 then 0 else 1) ∧ ∀ j, j < 5 → g (16 + j) = S.2.2.1 62 j := by
  obtain ⟨ov, eov⟩ : ∃ ov : Int32, ov = if S.1 4831 = 0 then 0 else 1 := ⟨_, rfl⟩
  obtain ⟨g, g1, g2, g3⟩ := e_img121 n n 0 (sA S 63 (upd (upd (upd (upd (S.2.2.1 63) 12 (S.1 4809)) 13 (S.1 4810)) 14 (S.1 4830)) 15 ov)) (by decide +kernel) (by decide +kernel) f5
  have n0 : (0 : Int32).toNatClampNeg = 0 := rfl
  rw [n0] at g2 g3
  have n12 : (12 : Int32).toNatClampNeg = 12 := rfl
  have n13 : (13 : Int32).toNatClampNeg = 13 := rfl
  have n14 : (14 : Int32).toNatClampNeg = 14 := rfl
  have n15 : (15 : Int32).toNatClampNeg = 15 := rfl
  refine ⟨g, ?_, fun k hk => ?_, ?_, ?_, ?_, ?_, fun j hj => g2 j (by omega) hj⟩
  · rw [f_X11_image_15, h0, if_pos (Int32.le_refl _)]
    simp only [if_pos (vp_21' (by decide +kernel : 0 ≤ (12 : Int32) ∧ (12 : Int32) < 21)), if_pos (vp_21' (by decide +kernel : 0 ≤ (13 : Int32) ∧ (13 : Int32) < 21)), if_pos (vp_21' (by decide +kernel : 0 ≤ (14 : Int32) ∧ (14 : Int32) < 21)), if_pos (vp_21' (by decide +kernel : 0 ≤ (15 : Int32) ∧ (15 : Int32) < 21)), g_let, f_X11_image_118, rI, rI2, rJ1, rJ2, rJ3, rA1, rA2, rA3, rA4, rE1, rE2, rE3, rE4, rE5, rR1, rR2, rR3, rR4, rR5, Nat.reduceEqDiff, reduceIte]
    simp only [n12, n13, n14, n15]
    rw [sA_sA] at g1
    by_cases o : S.1 4831 = 0
    · rw [if_pos o] at eov ⊢
      subst eov
      rw [sA_sA, sA_sA, sA_sA]; exact g1
    · rw [if_neg o] at eov ⊢
      subst eov
      rw [sA_sA, sA_sA, sA_sA]; exact g1
  · rw [g3 k (by omega)]
    show upd (upd (upd (upd (S.2.2.1 63) 12 _) 13 _) 14 _) 15 ov k = _
    rw [upd_ne (by omega), upd_ne (by omega), upd_ne (by omega), upd_ne (by omega)]
  · rw [g3 12 (by omega)]; rfl
  · rw [g3 13 (by omega)]; rfl
  · rw [g3 14 (by omega)]; rfl
  · rw [g3 15 (by omega), ← eov]; rfl
theorem E_image {S : z_Stt} (h : Inv S) : ∃ (v : Int32) (S1 S2 : z_Stt), f_X10_image FUEL S = some (v, S1) ∧ f_X11_image FUEL S1 = some (v, S2) ∧ Inv S2 := by
  have f6 : 6 - (0 : Int32).toInt < (FUEL : Nat) := by decide +kernel
  have f5 : 5 - (0 : Int32).toInt < (FUEL : Nat) := by decide +kernel
  have ft := th_lt h.1.1.1
  generalize FUEL = F at *
  obtain ⟨hw, e1, e2⟩ := h.1
  obtain ⟨⟨d1, d2, d3, d4, d5⟩, k1, k2, k3, k4, k5, k6, k7⟩ := h.2.2.1
  have l10 : f_X10_image F S = some (S.2.2.1 9 0, sI (cpF (sA (sA S 11 (cpR (S.2.2.1 8) (S.2.2.1 11) 0 6)) 12 (cpR (S.2.2.1 9) (S.2.2.1 12) 0 5))) 4 1) := by
    unfold f_X10_image
    rw [e_copyTo f6 f5 d5, g_bds, g_lets, if_pos (by decide +kernel)]
    rfl
  obtain ⟨T, eT⟩ : ∃ T, T = sI (cpF (sA (sA S 11 (cpR (S.2.2.1 8) (S.2.2.1 11) 0 6)) 12 (cpR (S.2.2.1 9) (S.2.2.1 12) 0 5))) 4 1 := ⟨_, rfl⟩
  have t1 : T.1 4806 = S.1 101 := by rw [eT]; exact e2
  obtain ⟨g, g1, g2, g3⟩ := e_img15 F hw.1 F 0 (sI (sI T 4833 1) 4834 (S.1 101)) t1 (by decide +kernel) hw.1.1 ft
  obtain ⟨g', p1, p2, p3, p4, p5, p6, p7⟩ := e_imgEnd (n := F) (th := S.1 101) (S := sA (sI (sI T 4833 1) 4834 (S.1 101)) 63 g) t1 f5
  have l11 : f_X11_image F T = some (T.2.2.1 62 0, sA (sI (sI T 4833 1) 4834 (S.1 101)) 63 g') := by
    have r : (sI T 4833 1).1 4806 = S.1 101 := t1
    unfold f_X11_image
    rw [g_lets, g_lets, r, g1, p1, sA_sA]
    rfl
  have t62 : T.2.2.1 62 0 = S.2.2.1 9 0 := by rw [eT]; exact congrFun k5 0
  rw [t62] at l11
  rw [← eT] at l10
  refine ⟨S.2.2.1 9 0, T, _, l10, l11, ?_⟩
  have n0 : (0 : Int32).toNatClampNeg = 0 := rfl
  have r53 : (sI (sI T 4833 1) 4834 (S.1 101)).2.2.1 53 = S.2.2.1 8 := by rw [eT]; exact k1
  have r54 : (sI (sI T 4833 1) 4834 (S.1 101)).2.2.1 54 = S.2.2.1 54 := by rw [eT]; rfl
  rw [r53, r54, n0] at g2
  have q63 : (sA (sI (sI T 4833 1) 4834 (S.1 101)) 63 g).2.2.1 63 = g := rfl
  rw [q63] at p2
  have a1 : g' 12 = S.1 702 := by rw [p3, eT]; exact k3
  have a2 : g' 13 = S.1 703 := by rw [p4, eT]; exact k4
  have a3 : g' 14 = S.1 705 := by rw [p5, eT]; exact k6
  have a4 : g' 15 = S.1 706 := by
    have r : (sA (sI (sI T 4833 1) 4834 (S.1 101)) 63 g).1 4831 = S.1 706 := by rw [eT]; exact k7
    rw [p6, r]
    rcases d5 with o | o <;> rw [o] <;> rfl
  have a5 : ∀ j, j < 5 → g' (16 + j) = S.2.2.1 9 j := by
    intro j hj
    rw [p7 j hj, eT]; exact congrFun k5 j
  have t6 : (S.1 101).toNatClampNeg ≤ 6 := le_nat hw.1.1 hw.1.2
  have a6 : ∀ t, t < (S.1 101).toNatClampNeg → g' (2 * t) = S.2.2.1 8 t ∧ g' (2 * t + 1) = sb (S.1 701) t := by
    intro t ht
    obtain ⟨b1, b2⟩ := g2 t (Nat.zero_le _) ht
    rw [p2 _ (by omega), p2 _ (by omega), b1, b2, k2 t (by omega)]
    refine ⟨rfl, ?_⟩
    rcases sb_01 (S.1 701) (t := t) (by omega) with o | o <;> rw [o] <;> rfl
  clear g2 p2 p3 p4 p5 p6 p7 g1 p1 l10 l11 t1 r53 r54 q63
  subst eT
  unfold cpF
  refine ⟨h.1.of rfl rfl rfl rfl, h.2.1.of rfl rfl rfl rfl rfl rfl rfl rfl rfl rfl rfl, h.2.2.1.of rfl rfl rfl rfl rfl rfl rfl rfl rfl rfl rfl rfl rfl rfl rfl, ⟨Or.inr rfl, rfl, fun _ => ⟨⟨fun t ht => ?_, d2, d3, d4, d5⟩, ⟨hw.1.1, Int32.le_refl _⟩, fun t ht => ⟨fun q => ?_, fun q => ?_⟩, a1, a2, a3, a4, fun k hk => ?_⟩⟩, h.2.2.2.2.1.of rfl rfl rfl rfl rfl rfl rfl rfl rfl, h.2.2.2.2.2.1.of rfl rfl rfl rfl rfl rfl rfl rfl, h.2.2.2.2.2.2.of rfl (fun n q1 q2 => by simp only [sI, sJ, sA, sE, sR]; repeat rw [if_neg (by omega)]) (fun n q1 q2 => by simp only [sI, sJ, sA, sE, sR]; repeat rw [if_neg (by omega)]) rfl rfl rfl⟩
  · have e : cpR (S.2.2.1 8) (S.2.2.1 11) 0 6 t = S.2.2.1 8 t := if_pos ⟨Nat.zero_le _, ht⟩
    show (0 ≤ cpR (S.2.2.1 8) (S.2.2.1 11) 0 6 t ∧ cpR (S.2.2.1 8) (S.2.2.1 11) 0 6 t ≤ 12) ∧ ((S.1 101).toNatClampNeg ≤ t → cpR (S.2.2.1 8) (S.2.2.1 11) 0 6 t = 0 ∧ sb (S.1 701) t = 0)
    rw [e]; exact d1 t ht
  · have e : cpR (S.2.2.1 8) (S.2.2.1 11) 0 6 t = S.2.2.1 8 t := if_pos ⟨Nat.zero_le _, ht⟩
    obtain ⟨b1, b2⟩ := a6 t q
    exact ⟨e.trans b1.symm, b2.symm⟩
  · have e : cpR (S.2.2.1 8) (S.2.2.1 11) 0 6 t = S.2.2.1 8 t := if_pos ⟨Nat.zero_le _, ht⟩
    obtain ⟨b1, b2⟩ := (d1 t ht).2 q
    exact ⟨e.trans b1, b2⟩
  · have e : cpR (S.2.2.1 9) (S.2.2.1 12) 0 5 k = S.2.2.1 9 k := if_pos ⟨Nat.zero_le _, hk⟩
    exact (a5 k hk).trans e.symm
