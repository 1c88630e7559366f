/-! SHELVES: what a call reads and writes of them -/
theorem ti_add {a b : Int32} (h : -2147483648 ≤ a.toInt + b.toInt ∧ a.toInt + b.toInt < 2147483648) : (a + b).toInt = a.toInt + b.toInt := by
  rw [Int32.toInt_add]; exact Int.bmod_eq_of_le (by omega) (by omega)
theorem ti_mul {a b : Int32} (h : -2147483648 ≤ a.toInt * b.toInt ∧ a.toInt * b.toInt < 2147483648) : (a * b).toInt = a.toInt * b.toInt := by
  rw [Int32.toInt_mul]; exact Int.bmod_eq_of_le (by omega) (by omega)
theorem rg {a l u : Int32} (h : l ≤ a ∧ a ≤ u) : l.toInt ≤ a.toInt ∧ a.toInt ≤ u.toInt := ⟨Int32.le_iff_toInt_le.mp h.1, Int32.le_iff_toInt_le.mp h.2⟩
theorem i_60 : (60 : Int32).toInt = 60 := rfl
theorem i_5 : (5 : Int32).toInt = 5 := rfl
theorem i_6 : (6 : Int32).toInt = 6 := rfl
theorem ix60 {a b : Int32} (ha : 0 ≤ a ∧ a ≤ 5) (hb : 0 ≤ b ∧ b ≤ 60) : (60 * a + b).toNatClampNeg = 60 * a.toNatClampNeg + b.toNatClampNeg ∧ 0 ≤ 60 * a + b := by
  have h1 := rg ha
  have h2 := rg hb
  rw [z0_32, i_5] at h1
  rw [z0_32, i_60] at h2
  have e1 : (60 * a).toInt = 60 * a.toInt := by rw [ti_mul (by rw [i_60]; omega), i_60]
  have e2 : (60 * a + b).toInt = 60 * a.toInt + b.toInt := by rw [ti_add (by rw [e1]; omega), e1]
  have p : 0 ≤ 60 * a + b := by rw [Int32.le_iff_toInt_le, e2, z0_32]; omega
  have t1 := tn p
  have t2 := tn ha.1
  have t3 := tn hb.1
  exact ⟨by omega, p⟩
theorem vi60 {a b : Int32} (ha : 0 ≤ a ∧ a ≤ 5) (hb : 0 ≤ b ∧ b < 60) : 0 ≤ 60 * a + b ∧ 60 * a + b < 360 := by
  refine ⟨(ix60 ha ⟨hb.1, by lia⟩).2, ?_⟩
  have := (ix60 ha (b := b) ⟨hb.1, by lia⟩).1
  have h2 := (ix60 ha (b := b) ⟨hb.1, by lia⟩).2
  have h1 := rg ha
  have hb2 := hb.2
  rw [Int32.lt_iff_toInt_lt] at hb2 ⊢
  have e : (360 : Int32).toInt = 360 := rfl
  rw [e]; rw [i_60] at hb2; rw [z0_32, i_5] at h1
  have t1 := tn h2
  have t2 := tn ha.1
  have t3 := tn hb.1
  omega
theorem d6 {a : Int32} (h : 0 ≤ a ∧ a ≤ 5) : a.toNatClampNeg < 6 := ix_l ⟨h.1, by lia⟩
theorem v6 {a : Int32} (h : 0 ≤ a ∧ a ≤ 5) : 0 ≤ a ∧ a < 6 := ⟨h.1, by lia⟩
theorem e_isShelf10 (a : Int32) (S : z_Stt) : f_X10_isShelf a S = some (decide (0 ≤ a ∧ a ≤ 5), S) := by simp only [f_X10_isShelf, e_within10, g_bd]
theorem e_isShelf11 (a : Int32) (S : z_Stt) : f_X11_isShelf a S = some (decide (0 ≤ a ∧ a ≤ 5), S) := by simp only [f_X11_isShelf, e_w_0_5, g_bd]
theorem e_isGoer (a : Int32) (S : z_Stt) : f_X10_isGoer a S = some (decide (0 ≤ a ∧ a < S.1 3201), S) := by unfold f_X10_isGoer; grind
theorem e_isBody (a : Int32) {S : z_Stt} (h : 0 ≤ S.1 4836) : f_X11_isBody a S = some (decide (0 ≤ a ∧ a < S.1 4836), S) := by
  unfold f_X11_isBody
  rw [e_within11 (l := 0) (h := S.1 4836 - 1) (by decide +kernel) rfl]
  have : (0 ≤ a ∧ a ≤ S.1 4836 - 1) = (0 ≤ a ∧ a < S.1 4836) := propext (by constructor <;> (intro q; constructor <;> lia))
  simp only [g_bd, this]
/-- the state's other parts, where a shelf is written -/
theorem Inv.ofSh {S T : z_Stt} (h : Inv S) (e1 : ∀ n, n < 3600 ∨ 4800 ≤ n → T.1 n = S.1 n) (e2 : ∀ k, k ≠ 66 → k ≠ 67 → T.2.2.1 k = S.2.2.1 k) (e3 : T.2.2.2.2 = S.2.2.2.2) (e4 : iSh T) : Inv T := by
  obtain ⟨h1, h2, h3, h4, h5, h6, -⟩ := h
  refine ⟨h1.of ?_ ?_ ?_ ?_, h2.of ?_ ?_ ?_ ?_ ?_ ?_ ?_ ?_ ?_ ?_ ?_, h3.of ?_ ?_ ?_ ?_ ?_ ?_ ?_ ?_ ?_ ?_ ?_ ?_ ?_ ?_ ?_, h4.of ?_ ?_ ?_ ?_ ?_ ?_ ?_ ?_ ?_ ?_ ?_ ?_, h5.of e3 ?_ ?_ ?_ ?_ ?_ ?_ ?_ ?_, h6.of ?_ ?_ ?_ ?_ ?_ ?_ ?_ ?_, e4⟩ <;> first | exact e1 _ (by decide) | exact e2 _ (by decide) (by decide)
theorem iSh.more {S T : z_Stt} (h : iSh S) (e1 : S.1 3201 ≤ T.1 3201) (e2 : ∀ n, 3600 ≤ n → n < 4800 → T.1 n = S.1 n) (e3 : ∀ k, 36 ≤ k → k < 48 → T.2.2.2.1 k = S.2.2.2.1 k) (e4 : T.2.2.1 66 = S.2.2.1 66) (e5 : T.2.2.1 67 = S.2.2.1 67) (e6 : T.2.2.2.1 68 = S.2.2.2.1 68) : iSh T := by
  intro d hd
  have q := h d hd
  have a1 : shH T d = shH S d := e2 _ (by omega) (by omega)
  have a2 : shG T d = shG S d := e2 _ (by omega) (by omega)
  have a3 : shS T d = shS S d := e2 _ (by omega) (by omega)
  have a4 : shN T d = shN S d := e2 _ (by omega) (by omega)
  have a5 : shE T d = shE S d := e3 _ (by omega) (by omega)
  rw [a1, a2, a3, a4, a5, e4, e5, e6]
  exact ⟨⟨q.1.1, fun c => ⟨(q.1.2.1 c).1, by have := (q.1.2.1 c).2; lia⟩, q.1.2.2⟩, q.2⟩
theorem iSh.set {S T : z_Stt} {d : Nat} (h : iSh S) (e0 : T.1 3201 = S.1 3201) (e1 : ∀ n, n < 100 * (36 + 2 * d) ∨ 100 * (36 + 2 * d) + 100 ≤ n → T.1 n = S.1 n) (e2 : ∀ d', d' < 6 → d' ≠ d → shE T d' = shE S d' ∧ T.2.2.1 66 d' = S.2.2.1 66 d' ∧ T.2.2.1 67 d' = S.2.2.1 67 d' ∧ ∀ i, i < 60 → T.2.2.2.1 68 (60 * d' + i) = S.2.2.2.1 68 (60 * d' + i))
    (e3 : wShelf (S.1 3201) (shH T d) (shG T d) (shS T d) (shN T d) (shE T d) ∧ rShelf (shH T d) (shG T d) (shS T d) (shN T d) (shE T d) (T.2.2.1 66 d) (T.2.2.1 67 d) (fun i => T.2.2.2.1 68 (60 * d + i))) : iSh T := by
  intro d' hd
  by_cases q : d' = d
  · subst q; rw [e0]; exact e3
  · obtain ⟨a1, a2, a3, a4⟩ := e2 d' hd q
    obtain ⟨w, r1, r2, r3⟩ := h d' hd
    have b1 : shH T d' = shH S d' := e1 _ (by omega)
    have b2 : shG T d' = shG S d' := e1 _ (by omega)
    have b3 : shS T d' = shS S d' := e1 _ (by omega)
    have b4 : shN T d' = shN S d' := e1 _ (by omega)
    rw [b1, b2, b3, b4, a1, a2, a3, e0]
    refine ⟨w, r1, r2, fun q => ?_⟩
    obtain ⟨c1, c2, c3⟩ := r3 q
    exact ⟨c1, c2, fun i hi => (a4 i hi).trans (c3 i hi)⟩
/-- may element a1 of a shelf be read -/
def refV (ho sz a : Int32) : Int32 := if ho = 0 then -11 else if ho = 2 then (if 0 ≤ a ∧ a < sz then 0 else -13) else -12
theorem e_refusalAt {d : Nat} {S : z_Stt} (a : Int32) (w : wShelf (S.1 3201) (shH S d) (shG S d) (shS S d) (shN S d) (shE S d)) : f_X8_refusalAt (36 + 2 * d) a S = some (refV (shH S d) (shN S d) a, S) := by
  have e1 : S.1 (100 * (36 + 2 * d) + 0) = shH S d := rfl
  have e2 : S.1 (100 * (36 + 2 * d) + 3) = shN S d := rfl
  simp only [f_X8_refusalAt, f_X8_hasPlaces, e1, e2, refV]
  by_cases c0 : shH S d = 0
  · rw [if_pos c0, if_pos c0]
  · rw [if_neg c0, if_neg c0]
    by_cases c2 : shH S d = 2
    · rw [if_pos c2, if_pos c2]
      have sz := (w.2.2 c2).2.1
      by_cases c : 0 ≤ a ∧ a < shN S d
      · simp only [if_pos c, if_neg (by lia : ¬ a < 0), if_neg (by decide +kernel : ¬ (1 : Int32) < 0), if_neg (by lia : ¬ shN S d < 1), if_neg (by lia : ¬ shN S d - 1 < a), g_bd, if_true]
      · rw [if_neg c]
        by_cases ca : a < 0
        · simp only [if_pos ca, g_bd, Bool.false_eq_true, if_false]
        · simp only [if_neg ca, if_neg (by decide +kernel : ¬ (1 : Int32) < 0)]
          by_cases cb : shN S d < 1
          · simp only [if_pos cb, g_bd, Bool.false_eq_true, if_false]
          · simp only [if_neg cb, if_pos (by lia : shN S d - 1 < a), g_bd, Bool.false_eq_true, if_false]
    · rw [if_neg c2, if_neg c2]
theorem e_refusal11 {a0 : Int32} {S : z_Stt} (a : Int32) (ha : 0 ≤ a0 ∧ a0 ≤ 5) (h : Inv S) : f_X11_refusal a0 a S = some (refV (shH S a0.toNatClampNeg) (shN S a0.toNatClampNeg) a, S) := by
  obtain ⟨w, r⟩ := h.2.2.2.2.2.2 _ (d6 ha)
  have gz := h.2.2.2.2.2.1.1.1
  simp only [f_X11_refusal, e_isShelf11, decide_eq_true ha, g_bd, if_true, vp_6, if_pos (v6 ha), refV]
  rcases w.1 with c | c | c
  · have q := r.1 c
    rw [q, c]; rfl
  · have q := r.2.1 c
    have g := w.2.1 c
    rw [q, c, if_pos g.1, if_neg (by lia)]
    rfl
  · obtain ⟨q, q2, -⟩ := r.2.2 c
    have g := w.2.2 c
    rw [q, q2, c, if_pos (by lia), if_pos (by lia), if_neg (by decide +kernel : ¬ (2 : Int32) = 0), if_pos (rfl : (2 : Int32) = 2)]
    by_cases ca : a < 0
    · rw [if_pos ca, if_neg (by lia)]
    · rw [if_neg ca]
      by_cases cb : shN S a0.toNatClampNeg ≤ a
      · rw [if_pos cb, if_neg (by lia)]
      · rw [if_neg cb, if_pos (by lia)]
theorem e_refusal11n {a0 : Int32} {S : z_Stt} (a : Int32) (ha : ¬ (0 ≤ a0 ∧ a0 ≤ 5)) : f_X11_refusal a0 a S = some (-1, S) := by
  simp only [f_X11_refusal, e_isShelf11, decide_eq_false ha, g_bd, Bool.false_eq_true, if_false]
theorem refV_0 {ho sz a : Int32} (h : refV ho sz a = 0) : ho = 2 ∧ 0 ≤ a ∧ a < sz := by
  unfold refV at h
  split at h
  · exact absurd h (by decide +kernel)
  · split at h
    · split at h
      · exact ⟨by assumption, by assumption⟩
      · exact absurd h (by decide +kernel)
    · exact absurd h (by decide +kernel)
theorem e_at8 {d : Nat} {S : z_Stt} {a : Int32} (ha : 0 ≤ a ∧ a < 60) : f_X8_at (36 + 2 * d) a S = some (shE S d a.toNatClampNeg, S) := by
  simp only [f_X8_at, vp_60, if_neg (by lia : ¬ a < 0), if_neg (by lia : ¬ 60 ≤ a), if_pos ha]; rfl
theorem E_element (a0 : Int32) (a1 : Int32) {S : z_Stt} (h : Inv S) : ∃ (v : Int64) (S1 S2 : z_Stt), f_X10_element a0 a1 S = some (v, S1) ∧ f_X11_element a0 a1 S1 = some (v, S2) ∧ Inv S2 := by
  by_cases ha : 0 ≤ a0 ∧ a0 ≤ 5
  · obtain ⟨w, r⟩ := h.2.2.2.2.2.2 _ (d6 ha)
    refine ⟨if refV (shH S a0.toNatClampNeg) (shN S a0.toNatClampNeg) a1 = 0 then shE S a0.toNatClampNeg a1.toNatClampNeg else -9223372036854775808, S, S, ?_, ?_, h⟩
    · simp only [f_X10_element, e_isShelf10, decide_eq_true ha, g_bds, if_true, vp_6, if_pos (v6 ha), e_refusalAt a1 w]
      by_cases c : refV (shH S a0.toNatClampNeg) (shN S a0.toNatClampNeg) a1 = 0
      · have q := refV_0 c
        have z := (w.2.2 q.1).2.1
        simp only [if_pos c, e_at8 (a := a1) (d := a0.toNatClampNeg) (S := S) ⟨q.2.1, by lia⟩, g_bds]
      · simp only [if_neg c]
    · simp only [f_X11_element, e_refusal11 a1 ha h, g_bds]
      by_cases c : refV (shH S a0.toNatClampNeg) (shN S a0.toNatClampNeg) a1 = 0
      · have q := refV_0 c
        have z := (w.2.2 q.1).2.1
        have i := vi60 ha (b := a1) ⟨q.2.1, by lia⟩
        have e := (r.2.2 q.1).2.2 a1.toNatClampNeg (by have t := tn q.2.1; have u : a1 < 60 := by lia
                                                       rw [Int32.lt_iff_toInt_lt, i_60] at u; omega)
        simp only [if_pos c, vp_360, if_pos i]
        rw [(ix60 ha (b := a1) ⟨q.2.1, by lia⟩).1]
        exact congrArg (fun x => some (x, S)) e
      · simp only [if_neg c]
  · refine ⟨-9223372036854775808, S, S, ?_, ?_, h⟩
    · simp only [f_X10_element, e_isShelf10, decide_eq_false ha, g_bds, Bool.false_eq_true, if_false]
    · simp only [f_X11_element, e_refusal11n a1 ha, g_bds, if_neg (by decide +kernel : ¬ (-1 : Int32) = 0)]
theorem E_body (a0 : Int32) {S : z_Stt} (h : Inv S) : ∃ (v : Int32) (S1 S2 : z_Stt), f_X10_body a0 S = some (v, S1) ∧ f_X11_body a0 S1 = some (v, S2) ∧ Inv S2 := by
  obtain ⟨⟨g1, g2, g3⟩, g4, g5, g6⟩ := h.2.2.2.2.2.1
  by_cases ha : 0 ≤ a0 ∧ a0 ≤ 7
  · by_cases c : S.1 3201 < 50
    · have i : 0 ≤ S.1 3201 ∧ S.1 3201 < 50 := ⟨g1.1, c⟩
      refine ⟨S.1 3201, sI (sA S 33 (upd (S.2.2.1 33) (S.1 3201).toNatClampNeg a0)) 3201 (S.1 3201 + 1), sI (sA (sI (sA S 33 (upd (S.2.2.1 33) (S.1 3201).toNatClampNeg a0)) 3201 (S.1 3201 + 1)) 64 (upd (S.2.2.1 33) (S.1 3201).toNatClampNeg a0)) 4836 (S.1 3201 + 1), ?_, ?_, ?_⟩
      · simp only [f_X10_body, e_within10, decide_eq_true ha, g_bd, if_true, if_pos c, f_X5_come, g_let, vp_50, if_pos i, rI, rI2, rJ1, rJ2, rJ3, rA1, rA2, rA3, rA4, rE1, rE2, rE3, rE4, rE5, rR1, rR2, rR3, rR4, rR5, Nat.reduceEqDiff, reduceIte]
        exact some_ext (by lia) rfl
      · simp only [f_X11_body, e_w_0_7, decide_eq_true ha, g_bd, if_true, g_let, vp_50, rI, rI2, rJ1, rJ2, rJ3, rA1, rA2, rA3, rA4, rE1, rE2, rE3, rE4, rE5, rR1, rR2, rR3, rR4, rR5, Nat.reduceEqDiff, reduceIte, g4, g5, if_neg (by lia : ¬ S.1 3201 = 50), if_pos i]
        exact some_ext (by lia) rfl
      · refine ⟨h.1.of rfl rfl rfl rfl, h.2.1.of rfl rfl rfl rfl rfl rfl rfl rfl rfl rfl rfl, h.2.2.1.of rfl rfl rfl rfl rfl rfl rfl rfl rfl rfl rfl rfl rfl rfl rfl, h.2.2.2.1.of rfl rfl rfl rfl rfl rfl rfl rfl rfl rfl rfl rfl, h.2.2.2.2.1.of rfl rfl rfl rfl rfl rfl rfl rfl rfl, ⟨⟨?_, ?_, g3⟩, rfl, rfl, g6⟩, ?_⟩
        · show 0 ≤ S.1 3201 + 1 ∧ S.1 3201 + 1 ≤ 50; lia
        · intro k hk
          have hk : k < (S.1 3201 + 1).toNatClampNeg := hk
          have t1 := tn i.1
          have t2 := tn (a := S.1 3201 + 1) (by lia)
          have t3 : (S.1 3201 + 1).toInt = (S.1 3201).toInt + 1 := inc32 c
          show 0 ≤ upd (S.2.2.1 33) (S.1 3201).toNatClampNeg a0 k ∧ upd (S.2.2.1 33) (S.1 3201).toNatClampNeg a0 k ≤ 7
          by_cases e : k = (S.1 3201).toNatClampNeg
          · rw [e, upd_same]; exact ha
          · rw [upd_ne e]; exact g2 k (by omega)
        · exact h.2.2.2.2.2.2.more (by show S.1 3201 ≤ S.1 3201 + 1; lia) (fun n q1 q2 => by simp only [sI, sJ, sA, sE, sR]; repeat rw [if_neg (by omega)]) (fun _ _ _ => rfl) rfl rfl rfl
    · have e : S.1 3201 = 50 := by lia
      refine ⟨-3, S, S, ?_, ?_, h⟩
      · simp only [f_X10_body, e_within10, decide_eq_true ha, g_bd, if_true, if_neg c]
      · simp only [f_X11_body, e_w_0_7, decide_eq_true ha, g_bd, if_true, g5, if_pos e]
  · refine ⟨-1, S, S, ?_, ?_, h⟩
    · simp only [f_X10_body, e_within10, decide_eq_false ha, g_bd, Bool.false_eq_true, if_false]
    · simp only [f_X11_body, e_w_0_7, decide_eq_false ha, g_bd, Bool.false_eq_true, if_false]
