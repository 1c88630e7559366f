/-! DOUBTS: the class finds all of them -/
theorem cells_ne {S : z_Stt} {k t : Nat} (x y : Int64) (h : ¬ t = k) : (sJ (sJ S (100 * (22 + k) + 0) x) (100 * (22 + k) + 1) y).2.1 (100 * (22 + t) + 0) = S.2.1 (100 * (22 + t) + 0) ∧ (sJ (sJ S (100 * (22 + k) + 0) x) (100 * (22 + k) + 1) y).2.1 (100 * (22 + t) + 1) = S.2.1 (100 * (22 + t) + 1) := by
  refine ⟨?_, ?_⟩
  · rw [rJ_ne (by omega), rJ_ne (by omega)]
  · rw [rJ_ne (by omega), rJ_ne (by omega)]
theorem cells_eq (S : z_Stt) (k : Nat) (x y : Int64) : (sJ (sJ S (100 * (22 + k) + 0) x) (100 * (22 + k) + 1) y).2.1 (100 * (22 + k) + 0) = x ∧ (sJ (sJ S (100 * (22 + k) + 0) x) (100 * (22 + k) + 1) y).2.1 (100 * (22 + k) + 1) = y := by
  refine ⟨?_, rJ_eq _ _ _⟩
  rw [rJ_ne (by omega), rJ_eq]
theorem b2_1 (z t : Nat) : bt z t = 0 ∨ bt z t = 1 := by unfold bt; split <;> omega
theorem e_fd {S : z_Stt} (h : Inv S) {F N th y z : Nat} (hF : 92 < F) (hN : N < 2147483648) (ey : y = N % 64) (ez : z = N / 64) (hz : z < 64) (hc : pcN y ≤ 4) (hth : S.1 101 = Int32.ofNat th) (h6 : th ≤ 6) (hyt : y < 2 ^ th) : ∀ (j k m : Nat) (x2 : Int32) (C : z_Stt), k + j = 6 → j < m → agQ S C → C.1 1800 = Int32.ofNat y → (x2 = 0 ∨ x2 = 1) → (x2 = 1 ↔ ∀ t, t < k → y.testBit t = true → 0 < dB S z t) → (∀ t, t < k → y.testBit t = true → (C.2.1 (100 * (22 + t) + 0)).toInt = nD S y z t ∧ (C.2.1 (100 * (22 + t) + 1)).toInt = bD S y z t ∧ (C.2.2.1 20 t).toInt = hD S t) → ∃ (b : Bool) (C' : z_Stt), f_X10_findDoubts_15 F m (Int32.ofNat N) x2 (Int32.ofNat k) C = some (b, C') ∧ (b = true ↔ allP S y z) ∧ cDt C' y (nD S y z) (bD S y z) (hD S) := by
  intro j
  have hy : y < 64 := by omega
  have dk := D_ok h z hy hc
  induction j with
  | zero =>
    intro k m x2 C hk hm a h18 hx hp hcl
    obtain ⟨m, rfl⟩ : ∃ q, m = q + 1 := ⟨m - 1, by omega⟩
    have e6 : k = 6 := by omega
    subst e6
    obtain ⟨C', z1, z2⟩ := e_weigh dk (F := F) (by omega) (C := C) ⟨h18, hcl⟩
    refine ⟨decide (x2 = 1), C', ?_, ⟨fun q => hp.mp (of_decide_eq_true q), fun q => decide_eq_true (hp.mpr q)⟩, z2⟩
    rw [f_X10_findDoubts_15, if_pos (by decide +kernel), z1, g_bds, if_pos hx]
  | succ j ih =>
    intro k m x2 C hk hm a h18 hx hp hcl
    obtain ⟨m, rfl⟩ : ∃ q, m = q + 1 := ⟨m - 1, by omega⟩
    have hk6 : k < 6 := by omega
    have n6 : ¬ 6 ≤ Int32.ofNat k := by rw [on_6le (by omega)]; omega
    by_cases hb : y.testBit k = true
    · have kt := in_lt hyt hb
      have tk : 0 ≤ Int32.ofNat k ∧ Int32.ofNat k < C.1 101 := ⟨on_p0 (by omega), by rw [q_101 a, hth, on_lt (by omega) (by omega)]; exact kt⟩
      have er : (Int32.ofNat N >>> (6 &&& 31) >>> (Int32.ofNat k &&& 31)) &&& 1 = Int32.ofNat (bt z k) := by rw [shr6n hN, ← ez, inV hz hk6]
      have fo := e_findOpen (n := F) (o := 22 + k) (m := Int32.ofNat (bt z k)) (S := C) tk (on_06 hk6).2
      rw [q_opN a, q_opB a] at fo
      have fo' : f_X10_findOpen F (Int32.ofNat k) (Int32.ofNat (bt z k)) (22 + k) C = f_X4_become F (22 + k) (dN S z k) (dB S z k) C := fo
      have nb := opN_ok h (Int32.ofNat (bt z k)) (on_06 hk6)
      have nb' : 0 ≤ (dN S z k).toInt ∧ (dN S z k).toInt ≤ 1728 := nb
      -- what is left of the step, once the fraction is found
      have rest : ∀ (b : Bool) (x w : Int64), f_X10_findOpen F (Int32.ofNat k) (Int32.ofNat (bt z k)) (22 + k) C = some (b, sJ (sJ C (100 * (22 + k) + 0) x) (100 * (22 + k) + 1) w) → (b = true ↔ 0 < dB S z k) → x.toInt = nD S y z k → w.toInt = bD S y z k → ∃ (b' : Bool) (C' : z_Stt), f_X10_findDoubts_15 F (m + 1) (Int32.ofNat N) x2 (Int32.ofNat k) C = some (b', C') ∧ (b' = true ↔ allP S y z) ∧ cDt C' y (nD S y z) (bD S y z) (hD S) := by
        intro b x w f hbp hxn hwb
        have a2 := a.trans (fq_X10_findOpen _ _ _ _ f)
        have of := e_ofT (S := sJ (sJ C (100 * (22 + k) + 0) x) (100 * (22 + k) + 1) w) 3 (t := Int32.ofNat k) tk
        rw [q_vAt a2] at of
        have e66 : ∀ y0 : Int32, f_X10_findDoubts_66 F (f_X10_findDoubts_15 F m) (Int32.ofNat N) (Int32.ofNat k) y0 (sJ (sJ C (100 * (22 + k) + 0) x) (100 * (22 + k) + 1) w) = f_X10_findDoubts_15 F m (Int32.ofNat N) y0 (Int32.ofNat (k + 1)) (sA (sJ (sJ C (100 * (22 + k) + 0) x) (100 * (22 + k) + 1) w) 20 (upd (C.2.2.1 20) k (vAt S (6 * 3 + Int32.ofNat k)))) := by
          intro y0
          unfold f_X10_findDoubts_66
          rw [of, g_bds, if_pos (v6n hk6), g_lets, f_X10_findDoubts_85, on_tn (by omega), on_s k (by omega)]
          rfl
        have a3 : agQ S (sA (sJ (sJ C (100 * (22 + k) + 0) x) (100 * (22 + k) + 1) w) 20 (upd (C.2.2.1 20) k (vAt S (6 * 3 + Int32.ofNat k)))) := a2.lsA rfl (by decide)
        have nxt : ∀ y0 : Int32, (y0 = 0 ∨ y0 = 1) → (y0 = 1 ↔ x2 = 1 ∧ 0 < dB S z k) → ∃ (b' : Bool) (C' : z_Stt), f_X10_findDoubts_15 F m (Int32.ofNat N) y0 (Int32.ofNat (k + 1)) (sA (sJ (sJ C (100 * (22 + k) + 0) x) (100 * (22 + k) + 1) w) 20 (upd (C.2.2.1 20) k (vAt S (6 * 3 + Int32.ofNat k)))) = some (b', C') ∧ (b' = true ↔ allP S y z) ∧ cDt C' y (nD S y z) (bD S y z) (hD S) := by
          intro y0 h01 hy0
          refine ih (k + 1) m y0 _ (by omega) (by omega) a3 h18 h01 ?_ ?_
          · rw [hy0, hp]
            refine ⟨fun q t ht hbt => ?_, fun q => ⟨fun t ht => q t (by omega), q k (by omega) hb⟩⟩
            by_cases e : t = k
            · rw [e]; exact q.2
            · exact q.1 t (by omega) hbt
          · intro t ht hbt
            by_cases e : t = k
            · subst e
              obtain ⟨c1, c2⟩ := cells_eq C t x w
              refine ⟨?_, ?_, ?_⟩
              · show ((sJ (sJ C (100 * (22 + t) + 0) x) (100 * (22 + t) + 1) w).2.1 (100 * (22 + t) + 0)).toInt = _
                rw [c1]; exact hxn
              · show ((sJ (sJ C (100 * (22 + t) + 0) x) (100 * (22 + t) + 1) w).2.1 (100 * (22 + t) + 1)).toInt = _
                rw [c2]; exact hwb
              · show (upd (C.2.2.1 20) t (vAt S (6 * 3 + Int32.ofNat t)) t).toInt = _
                rw [upd_same]; rfl
            · obtain ⟨c1, c2⟩ := cells_ne (S := C) x w e
              obtain ⟨g1, g2, g3⟩ := hcl t (by omega) hbt
              refine ⟨?_, ?_, ?_⟩
              · show ((sJ (sJ C (100 * (22 + k) + 0) x) (100 * (22 + k) + 1) w).2.1 (100 * (22 + t) + 0)).toInt = _
                rw [c1]; exact g1
              · show ((sJ (sJ C (100 * (22 + k) + 0) x) (100 * (22 + k) + 1) w).2.1 (100 * (22 + t) + 1)).toInt = _
                rw [c2]; exact g2
              · show (upd (C.2.2.1 20) k (vAt S (6 * 3 + Int32.ofNat k)) t).toInt = _
                rw [upd_ne e]; exact g3
        rw [f_X10_findDoubts_15, if_neg n6, e_has hy hk6 h18, g_bds, if_pos hb, if_pos (v6n hk6), er, on_tn (by omega), f, g_bds]
        by_cases q : 0 < dB S z k
        · rw [if_pos (hbp.mpr q)]
          by_cases c : x2 = 0
          · rw [if_pos c, f_X10_findDoubts_65, e66]
            exact nxt 0 (Or.inl rfl) ⟨fun w => absurd w (by decide +kernel), fun w => absurd (c.symm.trans w.1) (by decide +kernel)⟩
          · rw [if_neg c, e66]
            exact nxt 1 (Or.inr rfl) ⟨fun _ => ⟨hx.resolve_left c, q⟩, fun _ => rfl⟩
        · rw [if_neg (fun w => q (hbp.mp w)), f_X10_findDoubts_65, e66]
          exact nxt 0 (Or.inl rfl) ⟨fun w => absurd w (by decide +kernel), fun w => absurd w.2 q⟩
      by_cases q : 0 < dB S z k
      · refine rest true _ _ (fo'.trans (e_become4 hF (by omega) q C)) ⟨fun _ => q, fun _ => rfl⟩ ?_ ?_
        · unfold nD; rw [if_pos ⟨hb, q⟩]
        · unfold bD; rw [if_pos ⟨hb, q⟩]
      · refine rest false _ _ (fo'.trans (e_becomeN q C)) ⟨fun w => absurd w (by decide), fun w => absurd w q⟩ ?_ ?_
        · unfold nD; rw [if_neg (fun w => q w.2)]; rfl
        · unfold bD; rw [if_neg (fun w => q w.2)]; rfl
    · rw [f_X10_findDoubts_15, if_neg n6, e_has hy hk6 h18, g_bds, if_neg hb, f_X10_findDoubts_85, on_s k (by omega)]
      refine ih (k + 1) m x2 C (by omega) (by omega) a h18 hx ?_ (fun t ht hbt => ?_)
      · rw [hp]
        refine ⟨fun q t ht hbt => ?_, fun q t ht => q t (by omega)⟩
        by_cases e : t = k
        · rw [e] at hbt; exact absurd hbt hb
        · exact q t (by omega) hbt
      · by_cases e : t = k
        · rw [e] at hbt; exact absurd hbt hb
        · exact hcl t (by omega) hbt
theorem q_fd {S S' : z_Stt} (h : Inv S) (a : agQ S S') {F N th y z : Nat} (hF : 92 < F) (hN : N < 2147483648) (ey : y = N % 64) (ez : z = N / 64) (hz : z < 64) (hc : pcN y ≤ 4) (hth : S.1 101 = Int32.ofNat th) (h6 : th ≤ 6) (hyt : y < 2 ^ th) : ∃ (b : Bool) (C' : z_Stt), f_X10_findDoubts F (Int32.ofNat N) S' = some (b, C') ∧ (b = true ↔ allP S y z) ∧ cDt C' y (nD S y z) (bD S y z) (hD S) ∧ agQ S C' := by
  obtain ⟨b, C', z1, z2, z3⟩ := e_fd h hF hN ey ez hz hc hth h6 hyt 6 0 F 1 (sI S' 1800 (Int32.ofNat y)) (by omega) (by omega) (a.lsI rfl (by decide)) (rI_same _ _ _) (Or.inr rfl) ⟨fun _ t ht => absurd ht (by omega), fun _ => rfl⟩ (fun t ht => absurd ht (by omega))
  have f : f_X10_findDoubts F (Int32.ofNat N) S' = some (b, C') := by
    unfold f_X10_findDoubts
    rw [g_lets, and63 hN, ← ey]
    exact z1
  exact ⟨b, C', f, z2, z3, a.trans (fq_X10_findDoubts _ _ f)⟩
