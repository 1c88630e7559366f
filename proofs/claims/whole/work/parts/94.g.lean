/-! ACT: the call -/
def aV (nb kd a x : Int32) : Int32 := if a = 0 then vg nb kd x else if a = 1 then vl nb kd kd x else if a = 2 then vs nb kd kd x else vt nb kd kd x
def aL (kd a : Int32) : List Int32 := if a = 0 then ng kd else if a = 1 then nl kd kd else if a = 2 then ns kd kd else nt kd kd
theorem cs03 {a : Int32} (h : 0 ≤ a ∧ a ≤ 3) : a = 0 ∨ a = 1 ∨ a = 2 ∨ a = 3 := by grind
theorem aL_len {kd a : Int32} (hk : 0 ≤ kd ∧ kd ≤ 7) (ha : 0 ≤ a ∧ a ≤ 3) : (aL kd a).length ≤ 100 := by
  rcases cs08 hk with rfl | rfl | rfl | rfl | rfl | rfl | rfl | rfl <;> rcases cs03 ha with rfl | rfl | rfl | rfl <;> decide +kernel
theorem c_act {nb kd a x : Int32} (hk : 0 ≤ kd ∧ kd ≤ 7) (ha : 0 ≤ a ∧ a ≤ 3) (m : Nat) : acC nb kd ((g_X5_does (m + 9) 64).1 kd a x 0) (aV nb kd a x) (aL kd a) := by
  rcases cs03 ha with rfl | rfl | rfl | rfl
  · exact c_goes m 60 hk x (by decide +kernel)
  · exact c_looks hk m 54 hk x (by decide +kernel)
  · exact c_shuts hk m 58 hk x (by decide +kernel)
  · exact c_tells hk m 50 hk x (by decide +kernel)
theorem e_act10 {n : Nat} {a0 a1 a2 : Int32} {S : z_Stt} (g0 : 0 ≤ a0 ∧ a0 < S.1 3201) (h50 : a0 < 50) (g1 : 0 ≤ a1 ∧ a1 ≤ 3) {v : Int32} {U : z_Stt} (h : (g_X5_does n 64).1 (S.2.2.1 33 a0.toNatClampNeg) a1 a2 0 (sI (sI (sI S 3203 0) 3204 a0) 3205 (S.2.2.1 33 a0.toNatClampNeg)) = some (v, U)) : f_X10_act n a0 a1 a2 S = some (v, U) := by
  unfold f_X10_act
  rw [g_lets, e_isGoer, g_bds]
  have e1 : (sI S 3203 0).1 3201 = S.1 3201 := rfl
  rw [e1, decide_eq_true g0, if_pos rfl, e_within10, g_bds, decide_eq_true g1, if_pos rfl]
  have b : f_X5_begin n a0 a1 a2 (sI S 3203 0) = some (v, U) := by
    unfold f_X5_begin
    rw [if_neg (Int32.not_lt.mpr g0.1), e1, if_pos g0.2, g_lets, if_pos (by rw [vp_50]; exact ⟨g0.1, h50⟩), g_lets]
    have e2 : (sI (sI S 3203 0) 3204 a0).2.2.1 33 = S.2.2.1 33 := rfl
    rw [e2]
    have e3 : (sI (sI (sI S 3203 0) 3204 a0) 3205 (S.2.2.1 33 a0.toNatClampNeg)).1 3205 = S.2.2.1 33 a0.toNatClampNeg := rfl
    rw [e3, h, g_bds]
  rw [b, g_bds]
theorem e_act11 {a0 a1 a2 kd : Int32} {S : z_Stt} (h0 : 0 ≤ S.1 4836) (g0 : 0 ≤ a0 ∧ a0 < S.1 4836) (h50 : a0 < 50) (g1 : 0 ≤ a1 ∧ a1 ≤ 3) (hk : 0 ≤ kd ∧ kd ≤ 7) (ek : S.2.2.1 64 a0.toNatClampNeg = kd) : f_X11_act a0 a1 a2 S = some (aV a0 kd a1 a2, nS 4839 65 (sI (sI (sI S 4839 0) 4840 kd) 4841 a0) 0 (aL kd a1)) := by
  have e1 : (sI S 4839 0).1 4836 = S.1 4836 := rfl
  have e2 : (sI S 4839 0).2.2.1 64 = S.2.2.1 64 := rfl
  have e3 : (sI (sI (sI S 4839 0) 4840 kd) 4841 a0).1 4840 = kd := rfl
  have e4 : (sI (sI (sI S 4839 0) 4840 kd) 4841 a0).1 4839 = Int32.ofNat 0 := rfl
  have e5 : (sI (sI (sI S 4839 0) 4840 kd) 4841 a0).1 4841 = a0 := rfl
  have ln := aL_len hk g1
  unfold f_X11_act
  rw [g_lets, e_isBody a0 (S := sI S 4839 0) h0, g_bds, e1, decide_eq_true g0, if_pos rfl, if_pos (by rw [vp_50]; exact ⟨g0.1, h50⟩), g_lets, e2, ek, g_lets, e3]
  rcases cs03 g1 with rfl | rfl | rfl | rfl
  · rw [if_pos rfl, r_goes 62 hk a2 _ 0 (by exact Nat.le_trans (Nat.le_of_eq (Nat.zero_add _)) (Nat.le_trans ln (by decide))) e4 e5 e3, g_bds]; rfl
  · rw [if_neg (by decide), if_pos rfl, r_looks hk 61 hk a2 _ 0 (by exact Nat.le_trans (Nat.le_of_eq (Nat.zero_add _)) (Nat.le_trans ln (by decide))) e4 e5 e3, g_bds]; rfl
  · rw [if_neg (by decide), if_neg (by decide), if_pos rfl, r_shuts hk 62 hk a2 _ 0 (by exact Nat.le_trans (Nat.le_of_eq (Nat.zero_add _)) (Nat.le_trans ln (by decide))) e4 e5 e3, g_bds]; rfl
  · rw [if_neg (by decide), if_neg (by decide), if_neg (by decide), if_pos rfl, r_tells hk 62 hk a2 _ 0 (by exact Nat.le_trans (Nat.le_of_eq (Nat.zero_add _)) (Nat.le_trans ln (by decide))) e4 e5 e3, g_bds]; rfl
theorem E_act (a0 : Int32) (a1 : Int32) (a2 : Int32) {S : z_Stt} (h : Inv S) : ∃ (v : Int32) (S1 S2 : z_Stt), f_X10_act FUEL a0 a1 a2 S = some (v, S1) ∧ f_X11_act a0 a1 a2 S1 = some (v, S2) ∧ Inv S2 := by
  obtain ⟨m, hm⟩ := fuel9
  rw [hm]
  obtain ⟨⟨g1, g2, g3⟩, g4, g5, g6, g7⟩ := h.2.2.2.2.2.1
  by_cases g0 : 0 ≤ a0 ∧ a0 < S.1 3201
  · have h50 : a0 < 50 := by have := g0.2; have := g1.2; lia
    have gk : 0 ≤ S.2.2.1 33 a0.toNatClampNeg ∧ S.2.2.1 33 a0.toNatClampNeg ≤ 7 := g2 _ (lt_nat g0.1 g0.2)
    have ek : S.2.2.1 64 a0.toNatClampNeg = S.2.2.1 33 a0.toNatClampNeg := by rw [g4]
    by_cases c : 0 ≤ a1 ∧ a1 ≤ 3
    · have ln := aL_len gk c
      have r10 := e_act10 (n := m + 9) (a2 := a2) g0 h50 c (c_act gk c m (sI (sI (sI S 3203 0) 3204 a0) 3205 (S.2.2.1 33 a0.toNatClampNeg)) 0 (by exact Nat.le_trans (Nat.le_of_eq (Nat.zero_add _)) (Nat.le_trans ln (by decide))) rfl rfl rfl)
      have r11 := e_act11 (a2 := a2) (S := nS 3203 34 (sI (sI (sI S 3203 0) 3204 a0) 3205 (S.2.2.1 33 a0.toNatClampNeg)) 0 (aL (S.2.2.1 33 a0.toNatClampNeg) a1)) (by show 0 ≤ S.1 4836; rw [g5]; exact g1.1) (by show 0 ≤ a0 ∧ a0 < S.1 4836; rw [g5]; exact g0) h50 c gk ek
      generalize S.2.2.1 33 a0.toNatClampNeg = kd at *
      generalize aL kd a1 = l at *
      refine ⟨_, _, _, r10, r11, ⟨h.1.of rfl rfl rfl rfl, h.2.1.of rfl rfl rfl rfl rfl rfl rfl rfl rfl rfl rfl, h.2.2.1.of rfl rfl rfl rfl rfl rfl rfl rfl rfl rfl rfl rfl rfl rfl rfl, h.2.2.2.1.of rfl rfl rfl rfl rfl rfl rfl rfl rfl rfl rfl rfl, h.2.2.2.2.1.of rfl rfl rfl rfl rfl rfl rfl rfl rfl, ?_, h.2.2.2.2.2.2.of rfl (fun n q1 q2 => by simp only [nS, sI, sA]; repeat rw [if_neg (by omega)]) (fun _ _ _ => rfl) rfl rfl rfl⟩⟩
      have w : (0 : Int32) ≤ Int32.ofNat (0 + l.length) ∧ Int32.ofNat (0 + l.length) ≤ 1000 := by
        refine ⟨on_p0 (by omega), ?_⟩
        have i1000 : (1000 : Int32).toInt = 1000 := rfl
        rw [Int32.le_iff_toInt_le, on_ti (by omega), i1000]; omega
      refine ⟨⟨g1, g2, w⟩, g4, g5, ?_, rfl⟩
      show wrN l 0 (S.2.2.1 65) = wrN l 0 (S.2.2.1 34)
      rw [g6]
    · refine ⟨0, sI S 3203 0, sI (sI (sI (sI S 3203 0) 4839 0) 4840 (S.2.2.1 33 a0.toNatClampNeg)) 4841 a0, ?_, ?_, ⟨h.1.of rfl rfl rfl rfl, h.2.1.of rfl rfl rfl rfl rfl rfl rfl rfl rfl rfl rfl, h.2.2.1.of rfl rfl rfl rfl rfl rfl rfl rfl rfl rfl rfl rfl rfl rfl rfl, h.2.2.2.1.of rfl rfl rfl rfl rfl rfl rfl rfl rfl rfl rfl rfl, h.2.2.2.2.1.of rfl rfl rfl rfl rfl rfl rfl rfl rfl, ⟨⟨g1, g2, (show (0 : Int32) ≤ 0 ∧ (0 : Int32) ≤ 1000 from by decide +kernel)⟩, g4, g5, g6, rfl⟩, h.2.2.2.2.2.2.of rfl (fun n q1 q2 => by simp only [sI, sJ, sA, sE, sR]; repeat rw [if_neg (by omega)]) (fun n q1 q2 => by simp only [sI, sJ, sA, sE, sR]; repeat rw [if_neg (by omega)]) rfl rfl rfl⟩⟩
      · unfold f_X10_act
        rw [g_lets, e_isGoer, g_bds]
        have e1 : (sI S 3203 0).1 3201 = S.1 3201 := rfl
        rw [e1, decide_eq_true g0, if_pos rfl, e_within10, g_bds, decide_eq_false c, if_neg (by decide)]
      · have e1 : (sI (sI S 3203 0) 4839 0).1 4836 = S.1 3201 := g5
        have e2 : (sI (sI S 3203 0) 4839 0).2.2.1 64 = S.2.2.1 64 := rfl
        have n0 : ¬ a1 = 0 := fun q => c (by rw [q]; decide +kernel)
        have n1 : ¬ a1 = 1 := fun q => c (by rw [q]; decide +kernel)
        have n2 : ¬ a1 = 2 := fun q => c (by rw [q]; decide +kernel)
        have n3 : ¬ a1 = 3 := fun q => c (by rw [q]; decide +kernel)
        unfold f_X11_act
        rw [g_lets, e_isBody a0 (S := sI (sI S 3203 0) 4839 0) (by rw [e1]; exact g1.1), g_bds, e1, decide_eq_true g0, if_pos rfl, if_pos (by rw [vp_50]; exact ⟨g0.1, h50⟩), g_lets, e2, ek, g_lets, if_neg n0, if_neg n1, if_neg n2, if_neg n3]
  · refine ⟨0, sI S 3203 0, sI (sI S 3203 0) 4839 0, ?_, ?_, ⟨h.1.of rfl rfl rfl rfl, h.2.1.of rfl rfl rfl rfl rfl rfl rfl rfl rfl rfl rfl, h.2.2.1.of rfl rfl rfl rfl rfl rfl rfl rfl rfl rfl rfl rfl rfl rfl rfl, h.2.2.2.1.of rfl rfl rfl rfl rfl rfl rfl rfl rfl rfl rfl rfl, h.2.2.2.2.1.of rfl rfl rfl rfl rfl rfl rfl rfl rfl, ⟨⟨g1, g2, (show (0 : Int32) ≤ 0 ∧ (0 : Int32) ≤ 1000 from by decide +kernel)⟩, g4, g5, g6, rfl⟩, h.2.2.2.2.2.2.of rfl (fun n q1 q2 => by simp only [sI, sJ, sA, sE, sR]; repeat rw [if_neg (by omega)]) (fun n q1 q2 => by simp only [sI, sJ, sA, sE, sR]; repeat rw [if_neg (by omega)]) rfl rfl rfl⟩⟩
    · unfold f_X10_act
      rw [g_lets, e_isGoer, g_bds]
      have e1 : (sI S 3203 0).1 3201 = S.1 3201 := rfl
      rw [e1, decide_eq_false g0, if_neg (by decide)]
    · have e1 : (sI (sI S 3203 0) 4839 0).1 4836 = S.1 3201 := g5
      unfold f_X11_act
      rw [g_lets, e_isBody a0 (S := sI (sI S 3203 0) 4839 0) (by rw [e1]; exact g1.1), g_bds, e1, decide_eq_false g0, if_neg (by decide)]
