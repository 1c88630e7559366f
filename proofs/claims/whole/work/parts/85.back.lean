/-! BACK to an image -/
def bkU (im : Nat) (ig : Nat → Int32) (t : Nat) : Int32 := if im ≤ t then 0 else ig (2 * t)
def bkB (im : Nat) (ig : Nat → Int32) (t : Nat) : Int32 := if im ≤ t then 0 else if ig (2 * t + 1) = 1 then 1 else 0
theorem e_bk140 (n : Nat) : ∀ (m : Nat) (x : Int32) (S : z_Stt), 0 ≤ x → x ≤ 5 → 5 - x.toInt < m → ∃ g, f_X11_back_140 n m x S = some (g 0, sA S 62 g) ∧ (∀ j, x.toNatClampNeg ≤ j → j < 5 → g j = S.2.2.1 63 (16 + j)) ∧ ∀ k, (k < x.toNatClampNeg ∨ 5 ≤ k) → g k = S.2.2.1 62 k := by
  intro m
  induction m with
  | zero => intro x S h1 h2 h3; rw [Int32.le_iff_toInt_le, i_5] at h2; omega
  | succ m ih =>
    intro x S h1 h2 h3
    have q := tn h1
    by_cases e : 5 ≤ x
    · have e6 : x = 5 := by lia
      subst e6
      have n5 : (5 : Int32).toNatClampNeg = 5 := rfl
      refine ⟨S.2.2.1 62, ?_, fun j h1 h2 => by omega, fun _ _ => rfl⟩
      rw [f_X11_back_140, if_pos e, sA_self, if_pos (by decide +kernel)]
      rfl
    · have lt : x < 5 := Int32.not_le.mp e
      have lx : 0 ≤ x ∧ x < 5 := ⟨h1, lt⟩
      have q1 : (x + 1).toInt = x.toInt + 1 := inc32 lt
      have q3 := tn (a := x + 1) (by lia)
      have q4 : (x + 1).toNatClampNeg = x.toNatClampNeg + 1 := by omega
      have q5 : x.toNatClampNeg < 5 := lt_nat h1 lt
      have i16 := ix16 lx
      obtain ⟨g, g1, g2, g3⟩ := ih (x + 1) (sA S 62 (upd (S.2.2.1 62) x.toNatClampNeg (S.2.2.1 63 (16 + x).toNatClampNeg))) (by lia) (by lia) (by omega)
      refine ⟨g, ?_, fun j h1 h2 => ?_, fun k hk => ?_⟩
      · rw [f_X11_back_140, if_neg e]
        simp only [vp_5, vp_21, if_pos lx, if_pos i16.2, g_let]
        rw [g1, sA_sA]
      · by_cases ej : j = x.toNatClampNeg
        · rw [g3 _ (Or.inl (by omega)), ej]
          show upd (S.2.2.1 62) x.toNatClampNeg _ _ = _
          rw [upd_same, i16.1]
        · exact g2 j (by omega) h2
      · rw [g3 k (by omega)]
        show upd (S.2.2.1 62) x.toNatClampNeg _ _ = _
        rw [upd_ne (by omega)]
theorem e_bk12 (n : Nat) {th im : Int32} (ht : 0 ≤ th ∧ th ≤ 6) (hi : 0 ≤ im) : ∀ (m : Nat) (x : Int32) (S : z_Stt), S.1 4806 = th → S.1 4834 = im → 0 ≤ x → x ≤ th → th.toInt - x.toInt < m → ∃ g b, f_X11_back_12 n m x S = f_X11_back_12 n 1 th (sA (sA S 53 g) 54 b) ∧ (∀ t, x.toNatClampNeg ≤ t → t < th.toNatClampNeg → g t = bkU im.toNatClampNeg (S.2.2.1 63) t ∧ b t = bkB im.toNatClampNeg (S.2.2.1 63) t) ∧ ∀ k, (k < x.toNatClampNeg ∨ th.toNatClampNeg ≤ k) → g k = S.2.2.1 53 k ∧ b k = S.2.2.1 54 k := by
  intro m
  induction m with
  | zero => intro x S h0 h0' h1 h2 h3; rw [Int32.le_iff_toInt_le] at h2; omega
  | succ m ih =>
    intro x S h0 h0' h1 h2 h3
    have q := tn h1
    by_cases e : th ≤ x
    · have e6 : x = th := by lia
      subst e6
      refine ⟨S.2.2.1 53, S.2.2.1 54, ?_, fun t h1 h2 => by omega, fun _ _ => ⟨rfl, rfl⟩⟩
      have hc : S.1 4806 ≤ x := by rw [h0]; exact e
      rw [sA_self, sA_self, f_X11_back_12, f_X11_back_12]
      simp only [if_pos hc]
    · have lt : x < th := Int32.not_le.mp e
      have lx : 0 ≤ x ∧ x < 6 := ⟨h1, lt_of6 lt ht.2⟩
      have q1 : (x + 1).toInt = x.toInt + 1 := inc32 lt
      have q3 := tn (a := x + 1) (by lia)
      have q4 : (x + 1).toNatClampNeg = x.toNatClampNeg + 1 := by omega
      have q5 := lt_nat h1 lt
      obtain ⟨i1, i2, i3, i4⟩ := ix2 lx
      obtain ⟨g, b, g1, g2, g3⟩ := ih (x + 1) (sA (sA S 53 (upd (S.2.2.1 53) x.toNatClampNeg (bkU im.toNatClampNeg (S.2.2.1 63) x.toNatClampNeg))) 54 (upd (S.2.2.1 54) x.toNatClampNeg (bkB im.toNatClampNeg (S.2.2.1 63) x.toNatClampNeg))) h0 h0' (by lia) (by lia) (by omega)
      have fold : ∀ (u w : Nat → Int32), sA (sA (sA (sA S 53 u) 54 w) 53 g) 54 b = sA (sA S 53 g) 54 b := by
        intro u w
        refine z_ext rfl rfl ?_ rfl rfl
        funext j; simp only [rI, rI2, rJ1, rJ2, rJ3, rA1, rA2, rA3, rA4, rE1, rE2, rE3, rE4, rE5, rR1, rR2, rR3, rR4, rR5, Nat.reduceEqDiff, reduceIte]; grind
      rw [fold] at g1
      refine ⟨g, b, ?_, fun t h1 h2 => ?_, fun k hk => ?_⟩
      · rw [← g1, f_X11_back_12, h0, if_neg e, h0']
        have o01 : (0 : Int32) = 0 ∨ (0 : Int32) = 1 := Or.inl rfl
        have o11 : (1 : Int32) = 0 ∨ (1 : Int32) = 1 := Or.inr rfl
        by_cases c : im ≤ x
        · have cn := le_nat hi c
          have eu : bkU im.toNatClampNeg (S.2.2.1 63) x.toNatClampNeg = 0 := if_pos cn
          have eb : bkB im.toNatClampNeg (S.2.2.1 63) x.toNatClampNeg = 0 := if_pos cn
          rw [eu, eb]
          simp only [if_pos c, f_X11_back_45, f_X11_back_77, f_X11_back_78, vp_6, if_pos lx, g_let, rA1, h0', true_or, if_true, rI, rI2, rJ1, rJ2, rJ3, rA1, rA2, rA3, rA4, rE1, rE2, rE3, rE4, rE5, rR1, rR2, rR3, rR4, rR5, Nat.reduceEqDiff, reduceIte]
        · have cn : ¬ im.toNatClampNeg ≤ x.toNatClampNeg := by
            have := lt_nat h1 (Int32.not_le.mp c); omega
          have eu : bkU im.toNatClampNeg (S.2.2.1 63) x.toNatClampNeg = S.2.2.1 63 (2 * x).toNatClampNeg := by unfold bkU; rw [if_neg cn, i1]
          have eb : bkB im.toNatClampNeg (S.2.2.1 63) x.toNatClampNeg = if S.2.2.1 63 (2 * x + 1).toNatClampNeg = 1 then 1 else 0 := by unfold bkB; rw [if_neg cn, i2]
          rw [eu, eb]
          simp only [if_neg c, f_X11_back_45, f_X11_back_77, f_X11_back_78, vp_6, vp_21, if_pos lx, if_pos i3, if_pos i4, g_let, rA1, h0', if_pos o01, if_pos o11, rI, rI2, rJ1, rJ2, rJ3, rA1, rA2, rA3, rA4, rE1, rE2, rE3, rE4, rE5, rR1, rR2, rR3, rR4, rR5, Nat.reduceEqDiff, reduceIte]
          split <;> rfl
      · by_cases et : t = x.toNatClampNeg
        · have := g3 t (Or.inl (by omega))
          rw [this.1, this.2, et]
          exact ⟨upd_same _ _ _, upd_same _ _ _⟩
        · exact g2 t (by omega) h2
      · have := g3 k (by omega)
        rw [this.1, this.2]
        exact ⟨upd_ne (by omega), upd_ne (by omega)⟩
theorem e_bkEnd {n : Nat} {th : Int32} {S : z_Stt} (h0 : S.1 4806 = th) (f5 : 5 - (0 : Int32).toInt < n) : ∃ g, f_X11_back_12 n 1 th S = some (g 0, sA (sI (sI (sI (sI S 4809 (S.2.2.1 63 12)) 4810 (S.2.2.1 63 13)) 4830 (S.2.2.1 63 14)) 4831 (if S.2.2.1 63 15 = 1 then 1 else 0)) 62 g) ∧ ∀ k, g k = cpR (fun j => S.2.2.1 63 (16 + j)) (S.2.2.1 62) 0 5 k := by
  obtain ⟨ov, eov⟩ : ∃ ov : Int32, ov = if S.2.2.1 63 15 = 1 then 1 else 0 := ⟨_, rfl⟩
  obtain ⟨g, g1, g2, g3⟩ := e_bk140 n n 0 (sI (sI (sI (sI S 4809 (S.2.2.1 63 12)) 4810 (S.2.2.1 63 13)) 4830 (S.2.2.1 63 14)) 4831 ov) (by decide +kernel) (by decide +kernel) f5
  have n0 : (0 : Int32).toNatClampNeg = 0 := rfl
  rw [n0] at g2 g3
  have n12 : (12 : Int32).toNatClampNeg = 12 := rfl
  have n13 : (13 : Int32).toNatClampNeg = 13 := rfl
  have n14 : (14 : Int32).toNatClampNeg = 14 := rfl
  have n15 : (15 : Int32).toNatClampNeg = 15 := rfl
  refine ⟨g, ?_, fun k => ?_⟩
  · rw [← eov, f_X11_back_12, h0, if_pos (Int32.le_refl _)]
    simp only [if_pos (vp_21' (by decide +kernel : 0 ≤ (12 : Int32) ∧ (12 : Int32) < 21)), if_pos (vp_21' (by decide +kernel : 0 ≤ (13 : Int32) ∧ (13 : Int32) < 21)), if_pos (vp_21' (by decide +kernel : 0 ≤ (14 : Int32) ∧ (14 : Int32) < 21)), if_pos (vp_21' (by decide +kernel : 0 ≤ (15 : Int32) ∧ (15 : Int32) < 21)), g_let, f_X11_back_135, true_or, or_true, if_true, rI2]
    simp only [n12, n13, n14, n15]
    by_cases o : S.2.2.1 63 15 = 1
    · rw [if_pos o] at eov ⊢
      subst eov
      exact g1
    · rw [if_neg o] at eov ⊢
      subst eov
      exact g1
  · unfold cpR
    by_cases q : 0 ≤ k ∧ k < 5
    · rw [if_pos q]; exact g2 k q.1 q.2
    · rw [if_neg q]; exact g3 k (by omega)
theorem E_back {S : z_Stt} (h : Inv S) : ∃ (v : Int32) (S1 S2 : z_Stt), f_X10_back FUEL S = some (v, S1) ∧ f_X11_back FUEL S1 = some (v, S2) ∧ Inv S2 := by
  have f6 : 6 - (0 : Int32).toInt < (FUEL : Nat) := by decide +kernel
  have f5 : 5 - (0 : Int32).toInt < (FUEL : Nat) := by decide +kernel
  have ft := th_lt h.1.1.1
  generalize FUEL = F at *
  obtain ⟨hw, e1, e2⟩ := h.1
  obtain ⟨⟨d1, d2, d3, d4, d5⟩, k1, k2, k3, k4, k5, k6, k7⟩ := h.2.2.1
  obtain ⟨w1, w2, w3⟩ := h.2.2.2.1
  by_cases z : S.1 4 = 0
  · refine ⟨-5, S, S, ?_, ?_, h⟩
    · unfold f_X10_back; rw [if_pos z]
    · unfold f_X11_back; rw [w2, if_pos z]
  · have o4 : S.1 4 = 1 := w1.resolve_left z
    obtain ⟨⟨x1, x2, x3, x4, x5⟩, ⟨r1, r2, r3, r4, r5, r6, r7⟩⟩ := w3 o4
    obtain ⟨T, eT⟩ : ∃ T, T = cpB7 (sA (sA S 8 (cpR (S.2.2.1 11) (S.2.2.1 8) 0 6)) 9 (cpR (S.2.2.1 12) (S.2.2.1 9) 0 5)) := ⟨_, rfl⟩
    have l10 : f_X10_back F S = some (cpR (S.2.2.1 12) (S.2.2.1 9) 0 5 0, T) := by
      unfold f_X10_back
      rw [if_neg z, e_copyFrom f6 f5 x5, g_bds, if_pos (by decide +kernel), eT]
      rfl
    have t1 : T.1 4806 = S.1 101 := by rw [eT]; exact e2
    have t2 : T.1 4834 = S.1 4834 := by rw [eT]; rfl
    have t63 : T.2.2.1 63 = S.2.2.1 63 := by rw [eT]; rfl
    have t62 : T.2.2.1 62 = S.2.2.1 9 := by rw [eT]; exact k5
    have t53 : T.2.2.1 53 = S.2.2.1 8 := by rw [eT]; exact k1
    have t54 : T.2.2.1 54 = S.2.2.1 54 := by rw [eT]; rfl
    have t33 : T.1 4833 = S.1 4 := by rw [eT]; exact w2
    obtain ⟨g, b, g1, g2, g3⟩ := e_bk12 F hw.1 r1.1 F 0 T t1 t2 (by decide +kernel) hw.1.1 ft
    obtain ⟨p, p1, p2⟩ := e_bkEnd (n := F) (th := S.1 101) (S := sA (sA T 53 g) 54 b) t1 f5
    have n0 : (0 : Int32).toNatClampNeg = 0 := rfl
    have t6 : (S.1 101).toNatClampNeg ≤ 6 := le_nat hw.1.1 hw.1.2
    rw [n0, t63] at g2
    rw [n0, t53, t54] at g3
    have q63 : (sA (sA T 53 g) 54 b).2.2.1 63 = S.2.2.1 63 := t63
    have q62 : (sA (sA T 53 g) 54 b).2.2.1 62 = S.2.2.1 9 := t62
    rw [q63, r3, r4, r5, r6] at p1
    rw [q63, q62] at p2
    have ep : p = cpR (S.2.2.1 12) (S.2.2.1 9) 0 5 := by
      funext k
      rw [p2 k]
      unfold cpR
      by_cases q : 0 ≤ k ∧ k < 5
      · rw [if_pos q, if_pos q]; exact r7 k q.2
      · rw [if_neg q, if_neg q]
    have eo : (if S.1 1006 = 1 then (1 : Int32) else 0) = S.1 1006 := by
      rcases x5 with o | o <;> rw [o] <;> rfl
    have eg : g = cpR (S.2.2.1 11) (S.2.2.1 8) 0 6 := by
      funext k
      unfold cpR
      by_cases c : k < (S.1 101).toNatClampNeg
      · rw [(g2 k (Nat.zero_le _) c).1, if_pos ⟨Nat.zero_le _, by omega⟩]
        unfold bkU
        split
        · rename_i c2; exact ((r2 k (by omega)).2 c2).1.symm
        · rename_i c2; exact ((r2 k (by omega)).1 (by omega)).1.symm
      · rw [(g3 k (Or.inr (by omega))).1]
        by_cases q : 0 ≤ k ∧ k < 6
        · rw [if_pos q, ((d1 k q.2).2 (by omega)).1, ((x1 k q.2).2 (by omega)).1]
        · rw [if_neg q]
    have eb : ∀ t, t < 6 → b t = sb (S.1 1001) t := by
      intro t ht
      by_cases c : t < (S.1 101).toNatClampNeg
      · rw [(g2 t (Nat.zero_le _) c).2]
        unfold bkB
        split
        · rename_i c2; exact ((r2 t ht).2 c2).2.symm
        · rename_i c2
          rw [← ((r2 t ht).1 (by omega)).2]
          rcases sb_01 (S.1 1001) ht with o | o <;> rw [o] <;> rfl
      · rw [(g3 t (Or.inr (by omega))).2, k2 t ht, ((d1 t ht).2 (by omega)).2, ((x1 t ht).2 (by omega)).2]
    rw [eo] at p1
    have l11 : f_X11_back F T = some (cpR (S.2.2.1 12) (S.2.2.1 9) 0 5 0, sA (sI (sI (sI (sI (sA (sA T 53 g) 54 b) 4809 (S.1 1002)) 4810 (S.1 1003)) 4830 (S.1 1005)) 4831 (S.1 1006)) 62 p) := by
      unfold f_X11_back
      rw [t33, if_neg z, g1, p1, ep]
    refine ⟨_, T, _, l10, l11, ?_⟩
    clear l10 l11 p1 p2 g1 g2 g3 q63 q62 t1 t2 t63 t62 t53 t54 t33
    subst eT
    unfold cpB7
    refine ⟨h.1.of rfl rfl rfl rfl, h.2.1.of rfl rfl rfl rfl rfl rfl rfl rfl rfl rfl rfl, ⟨⟨fun t ht => ?_, x2, x3, x4, x5⟩, eg, eb, rfl, rfl, ep, rfl, rfl⟩, h.2.2.2.1.of rfl rfl rfl rfl rfl rfl rfl rfl rfl rfl rfl rfl, h.2.2.2.2.1.of rfl rfl rfl rfl rfl rfl rfl rfl rfl, h.2.2.2.2.2.1.of rfl rfl rfl rfl rfl rfl rfl rfl, h.2.2.2.2.2.2.of rfl (fun n q1 q2 => by simp only [sI, sJ, sA, sE, sR]; repeat rw [if_neg (by omega)]) (fun n q1 q2 => by simp only [sI, sJ, sA, sE, sR]; repeat rw [if_neg (by omega)]) rfl rfl rfl⟩
    have e : cpR (S.2.2.1 11) (S.2.2.1 8) 0 6 t = S.2.2.1 11 t := if_pos ⟨Nat.zero_le _, ht⟩
    show (0 ≤ cpR (S.2.2.1 11) (S.2.2.1 8) 0 6 t ∧ cpR (S.2.2.1 11) (S.2.2.1 8) 0 6 t ≤ 12) ∧ ((S.1 101).toNatClampNeg ≤ t → cpR (S.2.2.1 11) (S.2.2.1 8) 0 6 t = 0 ∧ sb (S.1 1001) t = 0)
    rw [e]; exact x1 t ht
