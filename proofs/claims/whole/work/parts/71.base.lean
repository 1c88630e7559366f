/-! BASE: what the small asking functions answer -/
theorem t64_lt {a b : Int32} : a.toInt64 < b.toInt64 ↔ a < b := by
  rw [Int64.lt_iff_toInt_lt, Int32.lt_iff_toInt_lt]; simp
theorem t64_le {a b : Int32} : a.toInt64 ≤ b.toInt64 ↔ a ≤ b := by
  rw [Int64.le_iff_toInt_le, Int32.le_iff_toInt_le]; simp
theorem t64_eq {a b : Int32} : a.toInt64 = b.toInt64 ↔ a = b := by
  rw [← Int64.toInt_inj, ← Int32.toInt_inj]; simp
theorem e_within10 (a b : Int32) (S : z_Stt) : f_X10_within a b S = some (decide (0 ≤ a ∧ a ≤ b), S) := by
  unfold f_X10_within
  split
  · rename_i h; rw [decide_eq_false (by lia)]
  · split
    · rw [decide_eq_false (by lia)]
    · rw [decide_eq_true (by lia)]
theorem e_within64 (a b c : Int64) (S : z_Stt) : f_X11_within a b c S = some (decide (b ≤ a ∧ a ≤ c), S) := by
  unfold f_X11_within
  split
  · rename_i h; rw [lg_cmp_lt] at h; rw [decide_eq_false (fun q => absurd h (Int64.not_lt.mpr q.1))]
  · rename_i h
    rw [lg_cmp_lt] at h
    split
    · rename_i h1; rw [lg_cmp_gt] at h1; rw [decide_eq_false (fun q => absurd h1 (Int64.not_lt.mpr q.2))]
    · rename_i h1; rw [lg_cmp_gt] at h1; rw [decide_eq_true ⟨Int64.not_lt.mp h, Int64.not_lt.mp h1⟩]
theorem e_within11 {a l h : Int32} {l' h' : Int64} (hl : l' = l.toInt64) (hh : h' = h.toInt64) (S : z_Stt) : f_X11_within a.toInt64 l' h' S = some (decide (l ≤ a ∧ a ≤ h), S) := by
  rw [e_within64, hl, hh]
  congr 2
  exact decide_eq_decide.mpr (by rw [t64_le, t64_le])
theorem e_w_0_4 (a : Int32) (S : z_Stt) : f_X11_within a.toInt64 0 4 S = some (decide (0 ≤ a ∧ a ≤ 4), S) := e_within11 (l := 0) (h := 4) (by decide +kernel) (by decide +kernel) S
theorem e_w_0_5 (a : Int32) (S : z_Stt) : f_X11_within a.toInt64 0 5 S = some (decide (0 ≤ a ∧ a ≤ 5), S) := e_within11 (l := 0) (h := 5) (by decide +kernel) (by decide +kernel) S
theorem e_w_0_144 (a : Int32) (S : z_Stt) : f_X11_within a.toInt64 0 144 S = some (decide (0 ≤ a ∧ a ≤ 144), S) := e_within11 (l := 0) (h := 144) (by decide +kernel) (by decide +kernel) S
theorem e_w_0_999 (a : Int32) (S : z_Stt) : f_X11_within a.toInt64 0 999 S = some (decide (0 ≤ a ∧ a ≤ 999), S) := e_within11 (l := 0) (h := 999) (by decide +kernel) (by decide +kernel) S
theorem e_w_0_12 (a : Int32) (S : z_Stt) : f_X11_within a.toInt64 0 12 S = some (decide (0 ≤ a ∧ a ≤ 12), S) := e_within11 (l := 0) (h := 12) (by decide +kernel) (by decide +kernel) S
theorem e_w_0_2 (a : Int32) (S : z_Stt) : f_X11_within a.toInt64 0 2 S = some (decide (0 ≤ a ∧ a ≤ 2), S) := e_within11 (l := 0) (h := 2) (by decide +kernel) (by decide +kernel) S
theorem e_w_0_1 (a : Int32) (S : z_Stt) : f_X11_within a.toInt64 0 1 S = some (decide (0 ≤ a ∧ a ≤ 1), S) := e_within11 (l := 0) (h := 1) (by decide +kernel) (by decide +kernel) S
theorem e_w_0_99 (a : Int32) (S : z_Stt) : f_X11_within a.toInt64 0 99 S = some (decide (0 ≤ a ∧ a ≤ 99), S) := e_within11 (l := 0) (h := 99) (by decide +kernel) (by decide +kernel) S
theorem e_w_0_255 (a : Int32) (S : z_Stt) : f_X11_within a.toInt64 0 255 S = some (decide (0 ≤ a ∧ a ≤ 255), S) := e_within11 (l := 0) (h := 255) (by decide +kernel) (by decide +kernel) S
theorem e_w_0_3 (a : Int32) (S : z_Stt) : f_X11_within a.toInt64 0 3 S = some (decide (0 ≤ a ∧ a ≤ 3), S) := e_within11 (l := 0) (h := 3) (by decide +kernel) (by decide +kernel) S
theorem e_w_0_7 (a : Int32) (S : z_Stt) : f_X11_within a.toInt64 0 7 S = some (decide (0 ≤ a ∧ a ≤ 7), S) := e_within11 (l := 0) (h := 7) (by decide +kernel) (by decide +kernel) S
theorem e_w_1_6 (a : Int32) (S : z_Stt) : f_X11_within a.toInt64 1 6 S = some (decide (1 ≤ a ∧ a ≤ 6), S) := e_within11 (l := 1) (h := 6) (by decide +kernel) (by decide +kernel) S
theorem e_w_1_60 (a : Int32) (S : z_Stt) : f_X11_within a.toInt64 1 60 S = some (decide (1 ≤ a ∧ a ≤ 60), S) := e_within11 (l := 1) (h := 60) (by decide +kernel) (by decide +kernel) S
theorem e_w_0_63 (a : Int32) (S : z_Stt) : f_X11_within a.toInt64 0 63 S = some (decide (0 ≤ a ∧ a ≤ 63), S) := e_within11 (l := 0) (h := 63) (by decide +kernel) (by decide +kernel) S
theorem e_w_6_8 (a : Int32) (S : z_Stt) : f_X11_within a.toInt64 6 8 S = some (decide (6 ≤ a ∧ a ≤ 8), S) := e_within11 (l := 6) (h := 8) (by decide +kernel) (by decide +kernel) S
theorem e_w_0_127 (a : Int32) (S : z_Stt) : f_X11_within a.toInt64 0 127 S = some (decide (0 ≤ a ∧ a ≤ 127), S) := e_within11 (l := 0) (h := 127) (by decide +kernel) (by decide +kernel) S
theorem vp_of {e : Int32} {N : Nat} {c : Int32} (h0 : 0 ≤ e) (h1 : e < c) (hc : c.toInt = (N : Int)) : ¬ (e < 0 ∨ N ≤ e.toNatClampNeg) := by
  rw [Int32.le_iff_toInt_le] at h0
  rw [Int32.lt_iff_toInt_lt, hc] at h1
  have z : (0 : Int32).toInt = 0 := rfl
  rw [z] at h0
  rintro (h | h)
  · rw [Int32.lt_iff_toInt_lt, z] at h; omega
  · have q : e.toNatClampNeg = e.toInt.toNat := rfl
    omega
theorem vp_5 (e : Int32) : (¬ (e < 0 ∨ 5 ≤ e.toNatClampNeg)) = (0 ≤ e ∧ e < 5) := by
  refine propext ⟨fun h => ⟨Int32.not_lt.mp fun q => h (Or.inl q), ?_⟩, fun h => vp_of (c := 5) h.1 h.2 rfl⟩
  have h1 : ¬ e < 0 := fun q => h (Or.inl q)
  have h2 : ¬ 5 ≤ e.toNatClampNeg := fun q => h (Or.inr q)
  rw [Int32.lt_iff_toInt_lt] at h1 ⊢
  have z : (0 : Int32).toInt = 0 := rfl
  have y : (5 : Int32).toInt = 5 := rfl
  have q : e.toNatClampNeg = e.toInt.toNat := rfl
  omega
theorem vp_6 (e : Int32) : (¬ (e < 0 ∨ 6 ≤ e.toNatClampNeg)) = (0 ≤ e ∧ e < 6) := by
  refine propext ⟨fun h => ⟨Int32.not_lt.mp fun q => h (Or.inl q), ?_⟩, fun h => vp_of (c := 6) h.1 h.2 rfl⟩
  have h1 : ¬ e < 0 := fun q => h (Or.inl q)
  have h2 : ¬ 6 ≤ e.toNatClampNeg := fun q => h (Or.inr q)
  rw [Int32.lt_iff_toInt_lt] at h1 ⊢
  have z : (0 : Int32).toInt = 0 := rfl
  have y : (6 : Int32).toInt = 6 := rfl
  have q : e.toNatClampNeg = e.toInt.toNat := rfl
  omega
theorem vp_7 (e : Int32) : (¬ (e < 0 ∨ 7 ≤ e.toNatClampNeg)) = (0 ≤ e ∧ e < 7) := by
  refine propext ⟨fun h => ⟨Int32.not_lt.mp fun q => h (Or.inl q), ?_⟩, fun h => vp_of (c := 7) h.1 h.2 rfl⟩
  have h1 : ¬ e < 0 := fun q => h (Or.inl q)
  have h2 : ¬ 7 ≤ e.toNatClampNeg := fun q => h (Or.inr q)
  rw [Int32.lt_iff_toInt_lt] at h1 ⊢
  have z : (0 : Int32).toInt = 0 := rfl
  have y : (7 : Int32).toInt = 7 := rfl
  have q : e.toNatClampNeg = e.toInt.toNat := rfl
  omega
theorem vp_8 (e : Int32) : (¬ (e < 0 ∨ 8 ≤ e.toNatClampNeg)) = (0 ≤ e ∧ e < 8) := by
  refine propext ⟨fun h => ⟨Int32.not_lt.mp fun q => h (Or.inl q), ?_⟩, fun h => vp_of (c := 8) h.1 h.2 rfl⟩
  have h1 : ¬ e < 0 := fun q => h (Or.inl q)
  have h2 : ¬ 8 ≤ e.toNatClampNeg := fun q => h (Or.inr q)
  rw [Int32.lt_iff_toInt_lt] at h1 ⊢
  have z : (0 : Int32).toInt = 0 := rfl
  have y : (8 : Int32).toInt = 8 := rfl
  have q : e.toNatClampNeg = e.toInt.toNat := rfl
  omega
theorem vp_10 (e : Int32) : (¬ (e < 0 ∨ 10 ≤ e.toNatClampNeg)) = (0 ≤ e ∧ e < 10) := by
  refine propext ⟨fun h => ⟨Int32.not_lt.mp fun q => h (Or.inl q), ?_⟩, fun h => vp_of (c := 10) h.1 h.2 rfl⟩
  have h1 : ¬ e < 0 := fun q => h (Or.inl q)
  have h2 : ¬ 10 ≤ e.toNatClampNeg := fun q => h (Or.inr q)
  rw [Int32.lt_iff_toInt_lt] at h1 ⊢
  have z : (0 : Int32).toInt = 0 := rfl
  have y : (10 : Int32).toInt = 10 := rfl
  have q : e.toNatClampNeg = e.toInt.toNat := rfl
  omega
theorem vp_21 (e : Int32) : (¬ (e < 0 ∨ 21 ≤ e.toNatClampNeg)) = (0 ≤ e ∧ e < 21) := by
  refine propext ⟨fun h => ⟨Int32.not_lt.mp fun q => h (Or.inl q), ?_⟩, fun h => vp_of (c := 21) h.1 h.2 rfl⟩
  have h1 : ¬ e < 0 := fun q => h (Or.inl q)
  have h2 : ¬ 21 ≤ e.toNatClampNeg := fun q => h (Or.inr q)
  rw [Int32.lt_iff_toInt_lt] at h1 ⊢
  have z : (0 : Int32).toInt = 0 := rfl
  have y : (21 : Int32).toInt = 21 := rfl
  have q : e.toNatClampNeg = e.toInt.toNat := rfl
  omega
theorem vp_24 (e : Int32) : (¬ (e < 0 ∨ 24 ≤ e.toNatClampNeg)) = (0 ≤ e ∧ e < 24) := by
  refine propext ⟨fun h => ⟨Int32.not_lt.mp fun q => h (Or.inl q), ?_⟩, fun h => vp_of (c := 24) h.1 h.2 rfl⟩
  have h1 : ¬ e < 0 := fun q => h (Or.inl q)
  have h2 : ¬ 24 ≤ e.toNatClampNeg := fun q => h (Or.inr q)
  rw [Int32.lt_iff_toInt_lt] at h1 ⊢
  have z : (0 : Int32).toInt = 0 := rfl
  have y : (24 : Int32).toInt = 24 := rfl
  have q : e.toNatClampNeg = e.toInt.toNat := rfl
  omega
theorem vp_32 (e : Int32) : (¬ (e < 0 ∨ 32 ≤ e.toNatClampNeg)) = (0 ≤ e ∧ e < 32) := by
  refine propext ⟨fun h => ⟨Int32.not_lt.mp fun q => h (Or.inl q), ?_⟩, fun h => vp_of (c := 32) h.1 h.2 rfl⟩
  have h1 : ¬ e < 0 := fun q => h (Or.inl q)
  have h2 : ¬ 32 ≤ e.toNatClampNeg := fun q => h (Or.inr q)
  rw [Int32.lt_iff_toInt_lt] at h1 ⊢
  have z : (0 : Int32).toInt = 0 := rfl
  have y : (32 : Int32).toInt = 32 := rfl
  have q : e.toNatClampNeg = e.toInt.toNat := rfl
  omega
theorem vp_40 (e : Int32) : (¬ (e < 0 ∨ 40 ≤ e.toNatClampNeg)) = (0 ≤ e ∧ e < 40) := by
  refine propext ⟨fun h => ⟨Int32.not_lt.mp fun q => h (Or.inl q), ?_⟩, fun h => vp_of (c := 40) h.1 h.2 rfl⟩
  have h1 : ¬ e < 0 := fun q => h (Or.inl q)
  have h2 : ¬ 40 ≤ e.toNatClampNeg := fun q => h (Or.inr q)
  rw [Int32.lt_iff_toInt_lt] at h1 ⊢
  have z : (0 : Int32).toInt = 0 := rfl
  have y : (40 : Int32).toInt = 40 := rfl
  have q : e.toNatClampNeg = e.toInt.toNat := rfl
  omega
theorem vp_50 (e : Int32) : (¬ (e < 0 ∨ 50 ≤ e.toNatClampNeg)) = (0 ≤ e ∧ e < 50) := by
  refine propext ⟨fun h => ⟨Int32.not_lt.mp fun q => h (Or.inl q), ?_⟩, fun h => vp_of (c := 50) h.1 h.2 rfl⟩
  have h1 : ¬ e < 0 := fun q => h (Or.inl q)
  have h2 : ¬ 50 ≤ e.toNatClampNeg := fun q => h (Or.inr q)
  rw [Int32.lt_iff_toInt_lt] at h1 ⊢
  have z : (0 : Int32).toInt = 0 := rfl
  have y : (50 : Int32).toInt = 50 := rfl
  have q : e.toNatClampNeg = e.toInt.toNat := rfl
  omega
theorem vp_60 (e : Int32) : (¬ (e < 0 ∨ 60 ≤ e.toNatClampNeg)) = (0 ≤ e ∧ e < 60) := by
  refine propext ⟨fun h => ⟨Int32.not_lt.mp fun q => h (Or.inl q), ?_⟩, fun h => vp_of (c := 60) h.1 h.2 rfl⟩
  have h1 : ¬ e < 0 := fun q => h (Or.inl q)
  have h2 : ¬ 60 ≤ e.toNatClampNeg := fun q => h (Or.inr q)
  rw [Int32.lt_iff_toInt_lt] at h1 ⊢
  have z : (0 : Int32).toInt = 0 := rfl
  have y : (60 : Int32).toInt = 60 := rfl
  have q : e.toNatClampNeg = e.toInt.toNat := rfl
  omega
theorem vp_75 (e : Int32) : (¬ (e < 0 ∨ 75 ≤ e.toNatClampNeg)) = (0 ≤ e ∧ e < 75) := by
  refine propext ⟨fun h => ⟨Int32.not_lt.mp fun q => h (Or.inl q), ?_⟩, fun h => vp_of (c := 75) h.1 h.2 rfl⟩
  have h1 : ¬ e < 0 := fun q => h (Or.inl q)
  have h2 : ¬ 75 ≤ e.toNatClampNeg := fun q => h (Or.inr q)
  rw [Int32.lt_iff_toInt_lt] at h1 ⊢
  have z : (0 : Int32).toInt = 0 := rfl
  have y : (75 : Int32).toInt = 75 := rfl
  have q : e.toNatClampNeg = e.toInt.toNat := rfl
  omega
theorem vp_120 (e : Int32) : (¬ (e < 0 ∨ 120 ≤ e.toNatClampNeg)) = (0 ≤ e ∧ e < 120) := by
  refine propext ⟨fun h => ⟨Int32.not_lt.mp fun q => h (Or.inl q), ?_⟩, fun h => vp_of (c := 120) h.1 h.2 rfl⟩
  have h1 : ¬ e < 0 := fun q => h (Or.inl q)
  have h2 : ¬ 120 ≤ e.toNatClampNeg := fun q => h (Or.inr q)
  rw [Int32.lt_iff_toInt_lt] at h1 ⊢
  have z : (0 : Int32).toInt = 0 := rfl
  have y : (120 : Int32).toInt = 120 := rfl
  have q : e.toNatClampNeg = e.toInt.toNat := rfl
  omega
theorem vp_360 (e : Int32) : (¬ (e < 0 ∨ 360 ≤ e.toNatClampNeg)) = (0 ≤ e ∧ e < 360) := by
  refine propext ⟨fun h => ⟨Int32.not_lt.mp fun q => h (Or.inl q), ?_⟩, fun h => vp_of (c := 360) h.1 h.2 rfl⟩
  have h1 : ¬ e < 0 := fun q => h (Or.inl q)
  have h2 : ¬ 360 ≤ e.toNatClampNeg := fun q => h (Or.inr q)
  rw [Int32.lt_iff_toInt_lt] at h1 ⊢
  have z : (0 : Int32).toInt = 0 := rfl
  have y : (360 : Int32).toInt = 360 := rfl
  have q : e.toNatClampNeg = e.toInt.toNat := rfl
  omega
theorem E_led (a0 : Int32) {S : z_Stt} (h : Inv S) : ∃ (v : Int32) (S1 S2 : z_Stt), f_X10_led a0 S = some (v, S1) ∧ f_X11_led a0 S1 = some (v, S2) ∧ Inv S2 := by
  have hd := h.2.2.1.2.2.2.2.2.1
  refine ⟨if 0 ≤ a0 ∧ a0 ≤ 4 then S.2.2.1 9 a0.toNatClampNeg else -1, S, S, ?_, ?_, h⟩
  · simp only [f_X10_led, e_within10, g_bd, vp_5]; grind
  · simp only [f_X11_led, e_w_0_4, g_bd, vp_5, hd]; grind
theorem E_trace (a0 : Int32) {S : z_Stt} (h : Inv S) : ∃ (v : Int32) (S1 S2 : z_Stt), f_X10_trace a0 S = some (v, S1) ∧ f_X11_trace a0 S1 = some (v, S2) ∧ Inv S2 := by
  obtain ⟨-, h1, h2, h3, h4⟩ := h.2.2.2.2.2.1
  refine ⟨if 0 ≤ a0 ∧ a0 < S.1 3203 ∧ a0 < 24 then S.2.2.1 34 a0.toNatClampNeg else -1, S, S, ?_, ?_, h⟩
  · simp only [f_X10_trace, vp_24]; grind
  · simp only [f_X11_trace, vp_24, h3, h4]; grind
theorem E_rung {S : z_Stt} (h : Inv S) : ∃ (v : Int32) (S1 S2 : z_Stt), f_X10_rung S = some (v, S1) ∧ f_X11_rung S1 = some (v, S2) ∧ Inv S2 := by
  obtain ⟨⟨d1, d2, hr, d3⟩, d4, d5, d6, h4, d7⟩ := id h.2.2.1
  have e1 : (if 12 < S.1 703 + 1 then (12 : Int32) else S.1 703 + 1) = if S.1 703 < 12 then S.1 703 + 1 else 12 := by grind
  have e2 : (if 12 ≤ S.1 4810 then (0 : Int32) + S.1 4810 else 1 + S.1 4810) = if S.1 703 < 12 then S.1 703 + 1 else 12 := by grind
  refine ⟨if S.1 703 < 12 then S.1 703 + 1 else 12, sI S 703 (if S.1 703 < 12 then S.1 703 + 1 else 12), sI (sI S 703 (if S.1 703 < 12 then S.1 703 + 1 else 12)) 4810 (if S.1 703 < 12 then S.1 703 + 1 else 12), ?_, ?_, ?_⟩
  · simp only [f_X10_rung, g_let, e1]; rfl
  · simp only [f_X11_rung, f_X11_rung_19, g_let]
    have r : (sI S 703 (if S.1 703 < 12 then S.1 703 + 1 else 12)).1 4810 = S.1 4810 := rfl
    rw [r]
    by_cases c : 12 ≤ S.1 4810
    · rw [if_pos c] at e2 ⊢
      rw [← e2, Int32.zero_add, Int32.add_zero]; rfl
    · rw [if_neg c] at e2 ⊢
      rw [← e2, Int32.add_comm]; rfl
  · refine ⟨h.1.of rfl rfl rfl rfl, h.2.1.of rfl rfl rfl rfl rfl rfl rfl rfl rfl rfl rfl, ⟨⟨d1, d2, ?_, d3⟩, d4, d5, d6, rfl, d7⟩, h.2.2.2.1.of rfl rfl rfl rfl rfl rfl rfl rfl rfl rfl rfl rfl, h.2.2.2.2.1.of rfl rfl rfl rfl rfl rfl rfl rfl rfl, h.2.2.2.2.2.1.of rfl rfl rfl rfl rfl rfl rfl rfl, h.2.2.2.2.2.2.of rfl (fun n q1 q2 => by simp only [sI, sJ, sA, sE, sR]; repeat rw [if_neg (by omega)]) (fun n q1 q2 => by simp only [sI, sJ, sA, sE, sR]; repeat rw [if_neg (by omega)]) rfl rfl rfl⟩
    show 0 ≤ (if S.1 703 < 12 then S.1 703 + 1 else 12) ∧ (if S.1 703 < 12 then S.1 703 + 1 else 12) ≤ 12
    grind
