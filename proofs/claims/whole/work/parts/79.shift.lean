/-! SHIFT: elements from shelf to shelf -/
theorem e_hasPlaces {d : Nat} (a c : Int32) {S : z_Stt} (hz : 0 ≤ shN S d ∧ shN S d ≤ 60) : f_X8_hasPlaces (36 + 2 * d) a c S = some (decide (0 ≤ a ∧ 0 ≤ c ∧ c ≤ shN S d ∧ a ≤ shN S d - c), S) := by
  have e2 : S.1 (100 * (36 + 2 * d) + 3) = shN S d := rfl
  simp only [f_X8_hasPlaces, e2]
  generalize shN S d = sz at *
  repeat' split
  all_goals first | rw [decide_eq_true (by lia)] | rw [decide_eq_false (by lia)]
theorem ix_add {a b : Int32} (ha : 0 ≤ a ∧ a ≤ 60) (hb : 0 ≤ b ∧ b ≤ 60) : (a + b).toNatClampNeg = a.toNatClampNeg + b.toNatClampNeg ∧ 0 ≤ a + b := by
  have h1 := rg ha
  have h2 := rg hb
  rw [z0_32, i_60] at h1 h2
  have e2 : (a + b).toInt = a.toInt + b.toInt := ti_add (by omega)
  have p : 0 ≤ a + b := by lia
  have t1 := tn p
  have t2 := tn ha.1
  have t3 := tn hb.1
  exact ⟨by omega, p⟩
theorem le_nat {a b : Int32} (ha : 0 ≤ a) (h : a ≤ b) : a.toNatClampNeg ≤ b.toNatClampNeg := by
  have t1 := tn ha
  have t2 := tn (Int32.le_trans ha h)
  rw [Int32.le_iff_toInt_le] at h
  omega
theorem lt_nat {a b : Int32} (ha : 0 ≤ a) (h : a < b) : a.toNatClampNeg < b.toNatClampNeg := by
  have t1 := tn ha
  have t2 := tn (Int32.le_of_lt (Int32.lt_of_le_of_lt ha h))
  rw [Int32.lt_iff_toInt_lt] at h
  omega
/-- g with what f holds from base on at lo .. hi - 1 -/
def cpB (f g : Nat → Int64) (base lo hi : Nat) : Nat → Int64 := fun k => if lo ≤ k ∧ k < hi then f (base + k) else g k
def cpC (f g : Nat → Int64) (base lo hi : Nat) : Nat → Int64 := fun k => if base + lo ≤ k ∧ k < base + hi then f (k - base) else g k
theorem cpB_s (f g : Nat → Int64) {base lo hi : Nat} (h : lo < hi) : cpB f (vp_updL g lo (f (base + lo))) base (lo + 1) hi = cpB f g base lo hi := by
  funext k
  unfold cpB vp_updL
  by_cases c : lo + 1 ≤ k ∧ k < hi
  · rw [if_pos c, if_pos (by omega)]
  · rw [if_neg c]
    by_cases e : k = lo
    · rw [if_pos e, if_pos (by omega), e]
    · rw [if_neg e, if_neg (by omega)]
theorem cpC_s (f g : Nat → Int64) {base lo hi : Nat} (h : lo < hi) : cpC f (vp_updL g (base + lo) (f lo)) base (lo + 1) hi = cpC f g base lo hi := by
  funext k
  unfold cpC vp_updL
  by_cases c : base + (lo + 1) ≤ k ∧ k < base + hi
  · rw [if_pos c, if_pos (by omega)]
  · rw [if_neg c]
    by_cases e : k = base + lo
    · rw [if_pos e, if_pos (by omega), e, Nat.add_sub_cancel_left]
    · rw [if_neg e, if_neg (by omega)]
theorem cpB_end (f g : Nat → Int64) {base lo hi : Nat} (h : hi ≤ lo) : cpB f g base lo hi = g := by funext k; unfold cpB; rw [if_neg (by omega)]
theorem cpC_end (f g : Nat → Int64) {base lo hi : Nat} (h : hi ≤ lo) : cpC f g base lo hi = g := by funext k; unfold cpC; rw [if_neg (by omega)]
theorem ix3 {a0 a1 x c : Int32} (ha : 0 ≤ a0 ∧ a0 ≤ 5) (h1 : 0 ≤ a1) (hx : 0 ≤ x) (hc : x < c) (hs : a1 ≤ 60 - c ∧ c ≤ 60) : (60 * a0 + a1 + x).toNatClampNeg = 60 * a0.toNatClampNeg + a1.toNatClampNeg + x.toNatClampNeg ∧ 0 ≤ 60 * a0 + a1 + x ∧ 60 * a0 + a1 + x < 360 := by
  have q := ix_add (a := a1) (b := x) ⟨h1, by lia⟩ ⟨hx, by lia⟩
  have b60 : 0 ≤ a1 + x ∧ a1 + x < 60 := ⟨q.2, by lia⟩
  have i := ix60 ha (b := a1 + x) ⟨b60.1, by lia⟩
  have v := vi60 ha b60
  rw [Int32.add_assoc]
  exact ⟨by omega, v⟩
theorem e_shift150 {n : Nat} {a2 a3 c : Int32} (ha : 0 ≤ a2 ∧ a2 ≤ 5) (h1 : 0 ≤ a3) (hs : a3 ≤ 60 - c ∧ c ≤ 60) : ∀ (m : Nat) (x : Int32) (S : z_Stt), 0 ≤ x → x ≤ c → c.toInt - x.toInt < m → f_X11_shift_150 n m a2 a3 c x S = some (c, sE S 68 (cpC (S.2.2.2.1 69) (S.2.2.2.1 68) (60 * a2.toNatClampNeg + a3.toNatClampNeg) x.toNatClampNeg c.toNatClampNeg)) := by
  intro m
  induction m with
  | zero => intro x S h1 h2 h3; rw [Int32.le_iff_toInt_le] at h2; omega
  | succ m ih =>
    intro x S x0 h2 h3
    unfold f_X11_shift_150
    by_cases e : c ≤ x
    · have e1 : x = c := by lia
      subst e1
      rw [if_pos e, cpC_end _ _ (Nat.le_refl _), sE_self]
    · have lt : x < c := Int32.not_le.mp e
      have i := ix3 ha h1 x0 lt hs
      have q1 : (x + 1).toInt = x.toInt + 1 := inc32 lt
      have q2 := tn x0
      have q3 := tn (a := x + 1) (by lia)
      have q4 : (x + 1).toNatClampNeg = x.toNatClampNeg + 1 := by omega
      have q5 := lt_nat x0 lt
      rw [if_neg e]
      simp only [vp_60, vp_360, if_pos (⟨x0, by lia⟩ : 0 ≤ x ∧ x < 60), if_pos i.2, g_let]
      rw [ih _ _ (by lia) (by lia) (by omega), sE_sE]
      simp only [rI, rI2, rJ1, rJ2, rJ3, rA1, rA2, rA3, rA4, rE1, rE2, rE3, rE4, rE5, rR1, rR2, rR3, rR4, rR5, Nat.reduceEqDiff, reduceIte]
      rw [i.1, q4, cpC_s _ _ q5]
theorem e_shift113 {n : Nat} {a0 a1 a2 a3 c : Int32} (ha : 0 ≤ a0 ∧ a0 ≤ 5) (h1 : 0 ≤ a1) (hs : a1 ≤ 60 - c ∧ c ≤ 60) : ∀ (m : Nat) (x : Int32) (S : z_Stt), 0 ≤ x → x ≤ c → c.toInt - x.toInt < m → f_X11_shift_113 n m a0 a1 a2 a3 c x S = f_X11_shift_150 n n a2 a3 c 0 (sE S 69 (cpB (S.2.2.2.1 68) (S.2.2.2.1 69) (60 * a0.toNatClampNeg + a1.toNatClampNeg) x.toNatClampNeg c.toNatClampNeg)) := by
  intro m
  induction m with
  | zero => intro x S h1 h2 h3; rw [Int32.le_iff_toInt_le] at h2; omega
  | succ m ih =>
    intro x S x0 h2 h3
    unfold f_X11_shift_113
    by_cases e : c ≤ x
    · have e1 : x = c := by lia
      subst e1
      rw [if_pos e, cpB_end _ _ (Nat.le_refl _), sE_self]
    · have lt : x < c := Int32.not_le.mp e
      have i := ix3 ha h1 x0 lt hs
      have q1 : (x + 1).toInt = x.toInt + 1 := inc32 lt
      have q2 := tn x0
      have q3 := tn (a := x + 1) (by lia)
      have q4 : (x + 1).toNatClampNeg = x.toNatClampNeg + 1 := by omega
      have q5 := lt_nat x0 lt
      rw [if_neg e]
      simp only [vp_60, vp_360, if_pos (⟨x0, by lia⟩ : 0 ≤ x ∧ x < 60), if_pos i.2, g_let]
      rw [ih _ _ (by lia) (by lia) (by omega), sE_sE]
      simp only [rI, rI2, rJ1, rJ2, rJ3, rA1, rA2, rA3, rA4, rE1, rE2, rE3, rE4, rE5, rR1, rR2, rR3, rR4, rR5, Nat.reduceEqDiff, reduceIte]
      rw [i.1, q4, cpB_s _ _ q5]
theorem sh10 {d : Nat} {S : z_Stt} (j : Nat) : S.1 (100 * (36 + 2 * d) + j) = S.1 (100 * (36 + 2 * d) + j) := rfl
theorem E_shift (a0 : Int32) (a1 : Int32) (a2 : Int32) (a3 : Int32) (a4 : Int32) {S : z_Stt} (h : Inv S) : ∃ (v : Int32) (S1 S2 : z_Stt), f_X10_shift a0 a1 a2 a3 a4 S = some (v, S1) ∧ f_X11_shift FUEL a0 a1 a2 a3 a4 S1 = some (v, S2) ∧ Inv S2 := by
  have fu : ∀ c : Int32, c ≤ 60 → c.toInt - (0 : Int32).toInt < (FUEL : Nat) := by
    intro c hc
    rw [Int32.le_iff_toInt_le, i_60] at hc
    rw [z0_32]; unfold FUEL; omega
  generalize FUEL = F at *
  by_cases ha : 0 ≤ a0 ∧ a0 ≤ 5
  · by_cases hb : 0 ≤ a2 ∧ a2 ≤ 5
    · obtain ⟨w, r⟩ := h.2.2.2.2.2.2 _ (d6 ha)
      obtain ⟨w', r'⟩ := h.2.2.2.2.2.2 _ (d6 hb)
      have v6a := v6 ha
      have v6b := v6 hb
      have g0 : S.1 3201 ≤ 50 := h.2.2.2.2.2.1.1.1.2
      have H1 : S.1 (100 * (36 + 2 * a0.toNatClampNeg) + 0) = shH S a0.toNatClampNeg := rfl
      have H2 : S.1 (100 * (36 + 2 * a2.toNatClampNeg) + 0) = shH S a2.toNatClampNeg := rfl
      have S1 : S.1 (100 * (36 + 2 * a0.toNatClampNeg) + 2) = shS S a0.toNatClampNeg := rfl
      have S2 : S.1 (100 * (36 + 2 * a2.toNatClampNeg) + 2) = shS S a2.toNatClampNeg := rfl
      by_cases H : shH S a0.toNatClampNeg = 2 ∧ shH S a2.toNatClampNeg = 2 ∧ shS S a0.toNatClampNeg = shS S a2.toNatClampNeg
      · obtain ⟨c1, c2, c3⟩ := H
        have z := w.2.2 c1
        have z' := w'.2.2 c2
        have k := r.2.2 c1
        have k' := r'.2.2 c2
        by_cases P : (0 ≤ a1 ∧ 0 ≤ a4 ∧ a4 ≤ shN S a0.toNatClampNeg ∧ a1 ≤ shN S a0.toNatClampNeg - a4) ∧ (0 ≤ a3 ∧ 0 ≤ a4 ∧ a4 ≤ shN S a2.toNatClampNeg ∧ a3 ≤ shN S a2.toNatClampNeg - a4)
        · obtain ⟨P1, P2⟩ := P
          have c60 : a4 ≤ 60 := by lia
          have n1 : a1 ≤ 60 - a4 := by lia
          have n3 : a3 ≤ 60 - a4 := by lia
          have m1 := ix_add (a := a1) (b := a4) ⟨P1.1, by lia⟩ ⟨P1.2.1, c60⟩
          have m2 := le_nat m1.2 (by lia : a1 + a4 ≤ 60)
          have m3 := ix_add (a := a3) (b := a4) ⟨P2.1, by lia⟩ ⟨P1.2.1, c60⟩
          have m4 := le_nat m3.2 (by lia : a3 + a4 ≤ 60)
          have m60 : (60 : Int32).toNatClampNeg = 60 := rfl
          have hP : ¬ a1 < 0 ∧ ¬ a3 < 0 ∧ ¬ a4 < 0 ∧ a1.toNatClampNeg + a4.toNatClampNeg ≤ 60 ∧ a3.toNatClampNeg + a4.toNatClampNeg ≤ 60 := ⟨by lia, by lia, by lia, by omega, by omega⟩
          have i1 := d6 ha
          have i2 := d6 hb
          refine ⟨a4, sE S (36 + 2 * a2.toNatClampNeg + 1) (va_cpy (S.2.2.2.1 (36 + 2 * a0.toNatClampNeg + 1)) (S.2.2.2.1 (36 + 2 * a2.toNatClampNeg + 1)) a1.toNatClampNeg a3.toNatClampNeg a4.toNatClampNeg), sE (sE (sE S (36 + 2 * a2.toNatClampNeg + 1) (va_cpy (S.2.2.2.1 (36 + 2 * a0.toNatClampNeg + 1)) (S.2.2.2.1 (36 + 2 * a2.toNatClampNeg + 1)) a1.toNatClampNeg a3.toNatClampNeg a4.toNatClampNeg)) 69 (cpB (S.2.2.2.1 68) (S.2.2.2.1 69) (60 * a0.toNatClampNeg + a1.toNatClampNeg) 0 a4.toNatClampNeg)) 68 (cpC (cpB (S.2.2.2.1 68) (S.2.2.2.1 69) (60 * a0.toNatClampNeg + a1.toNatClampNeg) 0 a4.toNatClampNeg) (S.2.2.2.1 68) (60 * a2.toNatClampNeg + a3.toNatClampNeg) 0 a4.toNatClampNeg), ?_, ?_, ?_⟩
          · simp only [f_X10_shift, e_isShelf10, decide_eq_true ha, decide_eq_true hb, g_bds, if_true, vp_6, if_pos v6a, if_pos v6b, H1, H2, S1, S2, c1, c2, c3, if_neg (by decide +kernel : ¬ (2 : Int32) = 0), e_hasPlaces a1 a4 z.2.1, e_hasPlaces a3 a4 z'.2.1, decide_eq_true P1, decide_eq_true P2, if_pos hP, g_let]
          · have f1 : 50 + shS S a0.toNatClampNeg = 50 + shS S a2.toNatClampNeg := by rw [c3]
            simp only [f_X11_shift, e_isShelf11, decide_eq_true ha, decide_eq_true hb, g_bds, if_true, vp_6, if_pos v6a, if_pos v6b, rE3, k.1, k.2.1, k'.1, k'.2.1, if_pos f1, if_neg (by lia : ¬ 50 + shS S a0.toNatClampNeg < 0), if_neg (by lia : ¬ 50 + shS S a0.toNatClampNeg < 50), if_pos (by lia : 0 ≤ 50 + shS S a2.toNatClampNeg), if_neg (by lia : ¬ a4 < 0), if_neg (by lia : ¬ a1 < 0), if_neg (by lia : ¬ a3 < 0), if_neg (by lia : ¬ shN S a0.toNatClampNeg - a4 < a1), if_pos P2.2.2.2]
            rw [e_shift113 ha P1.1 ⟨n1, c60⟩ F 0 _ (by decide +kernel) P1.2.1 (fu _ c60), e_shift150 hb P2.1 ⟨n3, c60⟩ F 0 _ (by decide +kernel) P1.2.1 (fu _ c60)]
            simp only [rI, rI2, rJ1, rJ2, rJ3, rA1, rA2, rA3, rA4, rE1, rE2, rE3, rE4, rE5, rR1, rR2, rR3, rR4, rR5, Nat.reduceEqDiff, reduceIte]
            rw [if_neg (by omega), if_neg (by omega)]
            rfl
          · refine h.ofSh (fun _ _ => rfl) (fun _ _ _ => rfl) rfl (h.2.2.2.2.2.2.set (d := a2.toNatClampNeg) rfl (fun _ _ => rfl) (fun d' d6' hd' => ⟨?_, rfl, rfl, fun i hi => ?_⟩) ?_)
            · simp only [shE, rI, rI2, rJ1, rJ2, rJ3, rA1, rA2, rA3, rA4, rE1, rE2, rE3, rE4, rE5, rR1, rR2, rR3, rR4, rR5, Nat.reduceEqDiff, reduceIte]; rw [if_neg (by omega), if_neg (by omega), if_neg (by omega)]
            · show cpC _ (S.2.2.2.1 68) _ _ _ (60 * d' + i) = _
              unfold cpC; rw [if_neg (by omega)]
            · have e4 : shE (sE (sE (sE S (36 + 2 * a2.toNatClampNeg + 1) (va_cpy (S.2.2.2.1 (36 + 2 * a0.toNatClampNeg + 1)) (S.2.2.2.1 (36 + 2 * a2.toNatClampNeg + 1)) a1.toNatClampNeg a3.toNatClampNeg a4.toNatClampNeg)) 69 (cpB (S.2.2.2.1 68) (S.2.2.2.1 69) (60 * a0.toNatClampNeg + a1.toNatClampNeg) 0 a4.toNatClampNeg)) 68 (cpC (cpB (S.2.2.2.1 68) (S.2.2.2.1 69) (60 * a0.toNatClampNeg + a1.toNatClampNeg) 0 a4.toNatClampNeg) (S.2.2.2.1 68) (60 * a2.toNatClampNeg + a3.toNatClampNeg) 0 a4.toNatClampNeg)) a2.toNatClampNeg = va_cpy (shE S a0.toNatClampNeg) (shE S a2.toNatClampNeg) a1.toNatClampNeg a3.toNatClampNeg a4.toNatClampNeg := by
                simp only [shE, rI, rI2, rJ1, rJ2, rJ3, rA1, rA2, rA3, rA4, rE1, rE2, rE3, rE4, rE5, rR1, rR2, rR3, rR4, rR5, Nat.reduceEqDiff, reduceIte]; rw [if_neg (by omega), if_neg (by omega)]
              rw [e4]
              refine ⟨⟨w'.1, w'.2.1, fun _ => ⟨z'.1, z'.2.1, fun i hi => ?_⟩⟩, r'.1, r'.2.1, fun _ => ⟨k'.1, k'.2.1, fun i hi => ?_⟩⟩
              · show inSort (shS S a2.toNatClampNeg) _
                unfold va_cpy
                split
                · rw [← c3]; exact z.2.2 _ (by omega)
                · exact z'.2.2 _ hi
              · show cpC (cpB (S.2.2.2.1 68) _ _ _ _) (S.2.2.2.1 68) _ _ _ (60 * a2.toNatClampNeg + i) = _
                unfold va_cpy cpC
                by_cases q : a3.toNatClampNeg ≤ i ∧ i < a3.toNatClampNeg + a4.toNatClampNeg
                · rw [if_pos q, if_pos (by omega)]
                  unfold cpB
                  rw [if_pos (by omega)]
                  have k2 := k.2.2 (a1.toNatClampNeg + (i - a3.toNatClampNeg)) (by omega)
                  rw [← k2]
                  show S.2.2.2.1 68 _ = S.2.2.2.1 68 _
                  exact congrArg (S.2.2.2.1 68) (by omega)
                · rw [if_neg q, if_neg (by omega)]
                  exact k'.2.2 i hi
        · refine ⟨-13, S, S, ?_, ?_, h⟩
          · simp only [f_X10_shift, e_isShelf10, decide_eq_true ha, decide_eq_true hb, g_bds, if_true, vp_6, if_pos v6a, if_pos v6b, H1, H2, S1, S2, c1, c2, c3, if_neg (by decide +kernel : ¬ (2 : Int32) = 0), e_hasPlaces a1 a4 z.2.1, e_hasPlaces a3 a4 z'.2.1]
            by_cases P1 : (0 ≤ a1 ∧ 0 ≤ a4 ∧ a4 ≤ shN S a0.toNatClampNeg ∧ a1 ≤ shN S a0.toNatClampNeg - a4)
            · have P2 := fun q => P ⟨P1, q⟩
              simp only [decide_eq_true P1, decide_eq_false P2, if_true, Bool.false_eq_true, if_false]
            · simp only [decide_eq_false P1, Bool.false_eq_true, if_false]
          · have f1 : 50 + shS S a0.toNatClampNeg = 50 + shS S a2.toNatClampNeg := by rw [c3]
            simp only [f_X11_shift, e_isShelf11, decide_eq_true ha, decide_eq_true hb, g_bds, if_true, vp_6, if_pos v6a, if_pos v6b, k.1, k.2.1, k'.1, k'.2.1, if_pos f1, if_neg (by lia : ¬ 50 + shS S a0.toNatClampNeg < 0), if_neg (by lia : ¬ 50 + shS S a0.toNatClampNeg < 50), if_pos (by lia : 0 ≤ 50 + shS S a2.toNatClampNeg)]
            by_cases q4 : a4 < 0
            · rw [if_pos q4]
            · rw [if_neg q4]
              by_cases q1 : a1 < 0
              · rw [if_pos q1]
              · rw [if_neg q1]
                by_cases q3 : a3 < 0
                · rw [if_pos q3]
                · rw [if_neg q3]
                  by_cases q5 : shN S a0.toNatClampNeg - a4 < a1
                  · rw [if_pos q5]
                  · rw [if_neg q5, if_neg (by lia)]
      · refine ⟨if shH S a0.toNatClampNeg = 0 ∨ shH S a2.toNatClampNeg = 0 then -11 else -12, S, S, ?_, ?_, h⟩
        · simp only [f_X10_shift, e_isShelf10, decide_eq_true ha, decide_eq_true hb, g_bds, if_true, vp_6, if_pos v6a, if_pos v6b, H1, H2, S1, S2]
          grind
        · simp only [f_X11_shift, e_isShelf11, decide_eq_true ha, decide_eq_true hb, g_bds, if_true, vp_6, if_pos v6a, if_pos v6b]
          rcases w.1 with c | c | c
          · rw [r.1 c, if_pos (by decide +kernel : (-1 : Int32) < 0), if_pos (Or.inl c)]
          · have q := r.2.1 c
            have g := w.2.1 c
            rw [q, if_neg (by lia)]
            rcases w'.1 with c' | c' | c'
            · rw [r'.1 c', if_neg (by decide +kernel : ¬ (0 : Int32) ≤ -1), if_pos (Or.inr c')]
            · have q' := r'.2.1 c'
              have g' := w'.2.1 c'
              rw [q', if_pos (by lia), if_pos (by lia), if_neg (by rw [c, c']; decide +kernel)]
            · have q' := (r'.2.2 c').1
              have g' := (w'.2.2 c').1
              rw [q', if_pos (by lia), if_pos (by lia), if_neg (by rw [c, c']; decide +kernel)]
          · have q := (r.2.2 c).1
            have g := (w.2.2 c).1
            rw [q, if_neg (by lia)]
            rcases w'.1 with c' | c' | c'
            · rw [r'.1 c', if_neg (by decide +kernel : ¬ (0 : Int32) ≤ -1), if_pos (Or.inr c')]
            · have q' := r'.2.1 c'
              have g' := w'.2.1 c'
              rw [q', if_pos (by lia), if_neg (by lia), if_neg (by lia), if_neg (by rw [c, c']; decide +kernel)]
            · have q' := (r'.2.2 c').1
              have g' := (w'.2.2 c').1
              rw [q', if_pos (by lia), if_neg (by lia), if_neg (fun e => H ⟨c, c', by lia⟩), if_neg (by rw [c, c']; decide +kernel)]
    · refine ⟨-1, S, S, ?_, ?_, h⟩
      · simp only [f_X10_shift, e_isShelf10, decide_eq_true ha, decide_eq_false hb, g_bds, if_true, Bool.false_eq_true, if_false]
      · simp only [f_X11_shift, e_isShelf11, decide_eq_true ha, decide_eq_false hb, g_bds, if_true, Bool.false_eq_true, if_false]
  · refine ⟨-1, S, S, ?_, ?_, h⟩
    · simp only [f_X10_shift, e_isShelf10, decide_eq_false ha, g_bds, Bool.false_eq_true, if_false]
    · simp only [f_X11_shift, e_isShelf11, decide_eq_false ha, g_bds, Bool.false_eq_true, if_false]
