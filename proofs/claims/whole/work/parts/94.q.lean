/-! FEED -/
theorem tn_s {x : Int32} (h0 : 0 ≤ x) (h : x < 120) : (x + 1).toNatClampNeg = x.toNatClampNeg + 1 := by
  have a := tn h0
  have b := inc32 h
  have c := tn (a := x + 1) (by lia)
  omega
theorem tn_on {x : Int32} (h0 : 0 ≤ x) (h : x ≤ 120) : x = Int32.ofNat x.toNatClampNeg := by
  have a := tn h0
  have i120 : (120 : Int32).toInt = 120 := rfl
  rw [Int32.le_iff_toInt_le, i120] at h
  exact on_eq a.symm (by omega)
theorem tn_120 {x : Int32} (h0 : 0 ≤ x) (h : x ≤ 120) : x.toNatClampNeg ≤ 120 := by
  have a := tn h0
  have i120 : (120 : Int32).toInt = 120 := rfl
  rw [Int32.le_iff_toInt_le, i120] at h
  omega
theorem E_feed14 {a0 : Int32} {S : z_Stt} (h : Inv S) (g0 : 0 ≤ a0 ∧ a0 ≤ 255) (c : S.1 1301 < 120) (ra : S.2.2.2.2 1300 = 14) (rb : S.2.2.2.2 1302 = 15) : ∃ (v : Int32) (S1 S2 : z_Stt), f_X10_feed a0 S = some (v, S1) ∧ f_X11_feed a0 S1 = some (v, S2) ∧ Inv S2 := by
  have hl := h.2.2.2.2.1
  unfold iLaw at hl
  rw [ra, rb] at hl
  obtain ⟨⟨w1, w2, w3, w4, w5, w6⟩, r1, r2, r3⟩ := hl
  have nt := tn_s w2.1 c
  have vp : ¬ (S.1 1301 < 0 ∨ 120 ≤ (S.1 1301).toNatClampNeg) := by rw [vp_120]; exact ⟨w2.1, c⟩
  refine ⟨S.1 1301 + 1, sI (sA S 14 (upd (S.2.2.1 14) (S.1 1301).toNatClampNeg a0)) 1301 (S.1 1301 + 1), sI (sA (sI (sA S 14 (upd (S.2.2.1 14) (S.1 1301).toNatClampNeg a0)) 1301 (S.1 1301 + 1)) 55 (upd (S.2.2.1 55) (S.1 1301).toNatClampNeg a0)) 4814 (S.1 1301 + 1), ?_, ?_, ⟨h.1.of rfl rfl rfl rfl, h.2.1.of rfl rfl rfl rfl rfl rfl rfl rfl rfl rfl rfl, h.2.2.1.of rfl rfl rfl rfl rfl rfl rfl rfl rfl rfl rfl rfl rfl rfl rfl, h.2.2.2.1.of rfl rfl rfl rfl rfl rfl rfl rfl rfl rfl rfl rfl, ?_, h.2.2.2.2.2.1.of rfl rfl rfl rfl rfl rfl rfl rfl, h.2.2.2.2.2.2.of rfl (fun n q1 q2 => by simp only [sI, sJ, sA, sE, sR]; repeat rw [if_neg (by omega)]) (fun n q1 q2 => by simp only [sI, sJ, sA, sE, sR]; repeat rw [if_neg (by omega)]) rfl rfl rfl⟩⟩
  · unfold f_X10_feed
    rw [e_within10, g_bds, decide_eq_true g0, if_pos rfl, if_pos c]
    unfold f_X6_append
    rw [if_neg (Int32.not_le.mpr c), if_pos (by rw [ra]; decide), if_pos vp, ra, g_lets, g_lets, f_X6_append_29, g_bds]
    rfl
  · have e1 : (sI (sA S 14 (upd (S.2.2.1 14) (S.1 1301).toNatClampNeg a0)) 1301 (S.1 1301 + 1)).1 4814 = S.1 1301 := r1
    have e2 : (sI (sA S 14 (upd (S.2.2.1 14) (S.1 1301).toNatClampNeg a0)) 1301 (S.1 1301 + 1)).2.2.1 55 = S.2.2.1 55 := rfl
    have n120 : ¬ S.1 1301 = 120 := by lia
    unfold f_X11_feed
    rw [e_w_0_255, g_bds, decide_eq_true g0, if_pos rfl, e1, if_neg n120, if_pos vp, g_lets, g_lets, e2]
    have e3 : (sA (sI (sA S 14 (upd (S.2.2.1 14) (S.1 1301).toNatClampNeg a0)) 1301 (S.1 1301 + 1)) 55 (upd (S.2.2.1 55) (S.1 1301).toNatClampNeg a0)).1 4814 = S.1 1301 := r1
    rw [e3]
    rfl
  · unfold iLaw
    show wLaw (S.2.2.2.2 1300) (S.2.2.2.2 1302) _ _ _ _ ∧ _
    have q1 : (sI (sA (sI (sA S 14 (upd (S.2.2.1 14) (S.1 1301).toNatClampNeg a0)) 1301 (S.1 1301 + 1)) 55 (upd (S.2.2.1 55) (S.1 1301).toNatClampNeg a0)) 4814 (S.1 1301 + 1)).2.2.2.2 1300 = 14 := ra
    have q2 : (sI (sA (sI (sA S 14 (upd (S.2.2.1 14) (S.1 1301).toNatClampNeg a0)) 1301 (S.1 1301 + 1)) 55 (upd (S.2.2.1 55) (S.1 1301).toNatClampNeg a0)) 4814 (S.1 1301 + 1)).2.2.2.2 1302 = 15 := rb
    rw [q1, q2, ra, rb]
    show wLaw 14 15 (upd (S.2.2.1 14) (S.1 1301).toNatClampNeg a0) (S.2.2.1 15) (S.1 1301 + 1) (S.1 1303) ∧ rLaw (upd (S.2.2.1 14) (S.1 1301).toNatClampNeg a0) (S.2.2.1 15) (S.1 1301 + 1) (S.1 1303) (upd (S.2.2.1 55) (S.1 1301).toNatClampNeg a0) (S.2.2.1 56) (S.1 1301 + 1) (S.1 4816)
    refine ⟨⟨w1, by lia, fun k hk => ?_, w4, w5, w6⟩, rfl, fun k hk => ?_, r3⟩
    · rw [nt] at hk
      unfold upd
      split
      · exact g0
      · exact w3 k (by omega)
    · rw [nt] at hk
      unfold upd
      split
      · rfl
      · exact r2 k (by omega)
theorem E_feed15 {a0 : Int32} {S : z_Stt} (h : Inv S) (g0 : 0 ≤ a0 ∧ a0 ≤ 255) (c : S.1 1301 < 120) (ra : S.2.2.2.2 1300 = 15) (rb : S.2.2.2.2 1302 = 14) : ∃ (v : Int32) (S1 S2 : z_Stt), f_X10_feed a0 S = some (v, S1) ∧ f_X11_feed a0 S1 = some (v, S2) ∧ Inv S2 := by
  have hl := h.2.2.2.2.1
  unfold iLaw at hl
  rw [ra, rb] at hl
  obtain ⟨⟨w1, w2, w3, w4, w5, w6⟩, r1, r2, r3⟩ := hl
  have nt := tn_s w2.1 c
  have vp : ¬ (S.1 1301 < 0 ∨ 120 ≤ (S.1 1301).toNatClampNeg) := by rw [vp_120]; exact ⟨w2.1, c⟩
  refine ⟨S.1 1301 + 1, sI (sA S 15 (upd (S.2.2.1 15) (S.1 1301).toNatClampNeg a0)) 1301 (S.1 1301 + 1), sI (sA (sI (sA S 15 (upd (S.2.2.1 15) (S.1 1301).toNatClampNeg a0)) 1301 (S.1 1301 + 1)) 55 (upd (S.2.2.1 55) (S.1 1301).toNatClampNeg a0)) 4814 (S.1 1301 + 1), ?_, ?_, ⟨h.1.of rfl rfl rfl rfl, h.2.1.of rfl rfl rfl rfl rfl rfl rfl rfl rfl rfl rfl, h.2.2.1.of rfl rfl rfl rfl rfl rfl rfl rfl rfl rfl rfl rfl rfl rfl rfl, h.2.2.2.1.of rfl rfl rfl rfl rfl rfl rfl rfl rfl rfl rfl rfl, ?_, h.2.2.2.2.2.1.of rfl rfl rfl rfl rfl rfl rfl rfl, h.2.2.2.2.2.2.of rfl (fun n q1 q2 => by simp only [sI, sJ, sA, sE, sR]; repeat rw [if_neg (by omega)]) (fun n q1 q2 => by simp only [sI, sJ, sA, sE, sR]; repeat rw [if_neg (by omega)]) rfl rfl rfl⟩⟩
  · unfold f_X10_feed
    rw [e_within10, g_bds, decide_eq_true g0, if_pos rfl, if_pos c]
    unfold f_X6_append
    rw [if_neg (Int32.not_le.mpr c), if_pos (by rw [ra]; decide), if_pos vp, ra, g_lets, g_lets, f_X6_append_29, g_bds]
    rfl
  · have e1 : (sI (sA S 15 (upd (S.2.2.1 15) (S.1 1301).toNatClampNeg a0)) 1301 (S.1 1301 + 1)).1 4814 = S.1 1301 := r1
    have e2 : (sI (sA S 15 (upd (S.2.2.1 15) (S.1 1301).toNatClampNeg a0)) 1301 (S.1 1301 + 1)).2.2.1 55 = S.2.2.1 55 := rfl
    have n120 : ¬ S.1 1301 = 120 := by lia
    unfold f_X11_feed
    rw [e_w_0_255, g_bds, decide_eq_true g0, if_pos rfl, e1, if_neg n120, if_pos vp, g_lets, g_lets, e2]
    have e3 : (sA (sI (sA S 15 (upd (S.2.2.1 15) (S.1 1301).toNatClampNeg a0)) 1301 (S.1 1301 + 1)) 55 (upd (S.2.2.1 55) (S.1 1301).toNatClampNeg a0)).1 4814 = S.1 1301 := r1
    rw [e3]
    rfl
  · unfold iLaw
    show wLaw (S.2.2.2.2 1300) (S.2.2.2.2 1302) _ _ _ _ ∧ _
    have q1 : (sI (sA (sI (sA S 15 (upd (S.2.2.1 15) (S.1 1301).toNatClampNeg a0)) 1301 (S.1 1301 + 1)) 55 (upd (S.2.2.1 55) (S.1 1301).toNatClampNeg a0)) 4814 (S.1 1301 + 1)).2.2.2.2 1300 = 15 := ra
    have q2 : (sI (sA (sI (sA S 15 (upd (S.2.2.1 15) (S.1 1301).toNatClampNeg a0)) 1301 (S.1 1301 + 1)) 55 (upd (S.2.2.1 55) (S.1 1301).toNatClampNeg a0)) 4814 (S.1 1301 + 1)).2.2.2.2 1302 = 14 := rb
    rw [q1, q2, ra, rb]
    show wLaw 15 14 (upd (S.2.2.1 15) (S.1 1301).toNatClampNeg a0) (S.2.2.1 14) (S.1 1301 + 1) (S.1 1303) ∧ rLaw (upd (S.2.2.1 15) (S.1 1301).toNatClampNeg a0) (S.2.2.1 14) (S.1 1301 + 1) (S.1 1303) (upd (S.2.2.1 55) (S.1 1301).toNatClampNeg a0) (S.2.2.1 56) (S.1 1301 + 1) (S.1 4816)
    refine ⟨⟨w1, by lia, fun k hk => ?_, w4, w5, w6⟩, rfl, fun k hk => ?_, r3⟩
    · rw [nt] at hk
      unfold upd
      split
      · exact g0
      · exact w3 k (by omega)
    · rw [nt] at hk
      unfold upd
      split
      · rfl
      · exact r2 k (by omega)
theorem E_feed (a0 : Int32) {S : z_Stt} (h : Inv S) : ∃ (v : Int32) (S1 S2 : z_Stt), f_X10_feed a0 S = some (v, S1) ∧ f_X11_feed a0 S1 = some (v, S2) ∧ Inv S2 := by
  have w2 := h.2.2.2.2.1.1.2.1
  have r1 := h.2.2.2.2.1.2.1
  by_cases g0 : 0 ≤ a0 ∧ a0 ≤ 255
  · by_cases c : S.1 1301 < 120
    · rcases h.2.2.2.2.1.1.1 with ⟨ra, rb⟩ | ⟨ra, rb⟩
      · exact E_feed14 h g0 c ra rb
      · exact E_feed15 h g0 c ra rb
    · refine ⟨-3, S, S, ?_, ?_, h⟩
      · unfold f_X10_feed
        rw [e_within10, g_bds, decide_eq_true g0, if_pos rfl, if_neg c]
      · unfold f_X11_feed
        rw [e_w_0_255, g_bds, decide_eq_true g0, if_pos rfl, r1, if_pos (by lia)]
  · refine ⟨-1, S, S, ?_, ?_, h⟩
    · unfold f_X10_feed
      rw [e_within10, g_bds, decide_eq_false g0, if_neg (by decide)]
    · unfold f_X11_feed
      rw [e_w_0_255, g_bds, decide_eq_false g0, if_neg (by decide)]
