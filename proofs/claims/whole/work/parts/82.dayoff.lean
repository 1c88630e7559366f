/-! A DAY OFF -/
theorem sb_x (w : Int32) {x : Int32} (h : 0 ≤ x ∧ x < 6) : (w >>> (x &&& 31)) &&& 1 = sb w x.toNatClampNeg := by
  rcases cs06 h with rfl | rfl | rfl | rfl | rfl | rfl <;> rfl
abbrev tir (f b : Nat → Int32) (k : Nat) : Prop := b k = 0 ∧ ¬ f k ≤ 0
def cnt (f b : Nat → Int32) : Nat → Nat → Int32
  | _, 0 => 0
  | lo, k + 1 => (if tir f b lo then 1 else 0) + cnt f b (lo + 1) k
def rst (f b : Nat → Int32) (lo hi : Nat) : Nat → Int32 := fun k => if lo ≤ k ∧ k < hi ∧ tir f b k then f k - 1 else f k
theorem cnt_congr {f b g c : Nat → Int32} : ∀ (k lo : Nat), (∀ j, lo ≤ j → j < lo + k → f j = g j ∧ b j = c j) → cnt f b lo k = cnt g c lo k := by
  intro k
  induction k with
  | zero => intro lo h; rfl
  | succ k ih =>
    intro lo h
    have e := h lo (Nat.le_refl _) (by omega)
    have t : tir f b lo = tir g c lo := by unfold tir; rw [e.1, e.2]
    simp only [cnt, t]
    rw [ih (lo + 1) (fun j hj hj2 => h j (by omega) (by omega))]
theorem cnt_0 {f b : Nat → Int32} : ∀ (k lo : Nat), (∀ j, lo ≤ j → j < lo + k → ¬ tir f b j) → cnt f b lo k = 0 := by
  intro k
  induction k with
  | zero => intro lo h; rfl
  | succ k ih =>
    intro lo h
    simp only [cnt]
    rw [if_neg (h lo (Nat.le_refl _) (by omega)), ih (lo + 1) (fun j h1 h2 => h j (by omega) (by omega))]
    rfl
theorem cnt_add {f b : Nat → Int32} : ∀ (a lo k : Nat), cnt f b lo (a + k) = cnt f b lo a + cnt f b (lo + a) k := by
  intro a
  induction a with
  | zero => intro lo k; rw [Nat.zero_add]; show _ = 0 + cnt f b (lo + 0) k; rw [Int32.zero_add]; rfl
  | succ a ih =>
    intro lo k
    rw [Nat.succ_add]
    simp only [cnt]
    rw [ih, Int32.add_assoc, Nat.add_assoc, Nat.add_comm 1 a]
theorem sA_self (S : z_Stt) (k : Nat) : sA S k (S.2.2.1 k) = S := by
  refine z_ext rfl rfl ?_ rfl rfl
  funext j
  simp only [rA3]
  split
  · rename_i e; rw [e]
  · rfl
theorem sA_sA (S : z_Stt) (k : Nat) (f g : Nat → Int32) : sA (sA S k f) k g = sA S k g := by
  refine z_ext rfl rfl ?_ rfl rfl
  funext j
  simp only [rA3]
  split <;> rfl
theorem rst_end {f b : Nat → Int32} {lo hi : Nat} (h : hi ≤ lo) : rst f b lo hi = f := by
  funext k; unfold rst; rw [if_neg (by omega)]
theorem rst_next {f b g c : Nat → Int32} {lo hi : Nat} (h : ∀ j, j ≠ lo → g j = f j ∧ c j = b j) (hh : lo < hi) (hx : g lo = if tir f b lo then f lo - 1 else f lo) : rst g c (lo + 1) hi = rst f b lo hi := by
  funext j; unfold rst
  by_cases ej : j = lo
  · subst ej
    rw [if_neg (by omega), hx]
    by_cases q : tir f b j
    · rw [if_pos q, if_pos ⟨Nat.le_refl _, hh, q⟩]
    · rw [if_neg q, if_neg (fun z => q z.2.2)]
  · have e := h j ej
    by_cases q : lo + 1 ≤ j ∧ j < hi ∧ tir f b j
    · rw [if_pos (⟨q.1, q.2.1, by rw [tir, e.1, e.2]; exact q.2.2⟩ : lo + 1 ≤ j ∧ j < hi ∧ tir g c j), if_pos ⟨by omega, q.2⟩, e.1]
    · rw [if_neg (fun z : lo + 1 ≤ j ∧ j < hi ∧ tir g c j => q ⟨z.1, z.2.1, by have := z.2.2; rw [tir, e.1, e.2] at this; exact this⟩), if_neg (fun z => q ⟨by omega, z.2⟩), e.1]
theorem e_rest (n : Nat) : ∀ (m : Nat) (c x : Int32) (S : z_Stt), 0 ≤ x → x ≤ 6 → 6 - x.toInt < m → f_X1_rest_4 n m 7 c x S = some (c + cnt (S.2.2.1 8) (sb (S.1 701)) x.toNatClampNeg (6 - x.toNatClampNeg), sI (sA S 8 (rst (S.2.2.1 8) (sb (S.1 701)) x.toNatClampNeg 6)) 701 0) := by
  intro m
  induction m with
  | zero => intro c x S h1 h2 h3; rw [Int32.le_iff_toInt_le, i_6] at h2; omega
  | succ m ih =>
    intro c x S h1 h2 h3
    have q := tn h1
    unfold f_X1_rest_4
    by_cases e : 6 ≤ x
    · have e6 : x = 6 := by lia
      subst e6
      have n6 : (6 : Int32).toNatClampNeg = 6 := rfl
      rw [if_pos e, n6, rst_end (Nat.le_refl _), sA_self]
      show some (c, _) = some (c + 0, _)
      rw [Int32.add_zero]
    · have lt : x < 6 := Int32.not_le.mp e
      have lx : 0 ≤ x ∧ x < 6 := ⟨h1, lt⟩
      have q1 : (x + 1).toInt = x.toInt + 1 := inc32 lt
      have q3 := tn (a := x + 1) (by lia)
      have q4 : (x + 1).toNatClampNeg = x.toNatClampNeg + 1 := by omega
      have q5 := ix_l lx
      obtain ⟨k, hk⟩ : ∃ k, 6 - x.toNatClampNeg = k + 1 := ⟨5 - x.toNatClampNeg, by omega⟩
      have hk2 : 6 - (x.toNatClampNeg + 1) = k := by omega
      rw [if_neg e, sb_x _ lx, hk]
      simp only [vp_6, if_pos lx, f_X1_rest_43, g_let, Nat.reduceAdd, Nat.reduceMul]
      by_cases tt : tir (S.2.2.1 8) (sb (S.1 701)) x.toNatClampNeg
      · rw [if_pos tt.1, if_neg tt.2, ih (c + 1) (x + 1) _ (by lia) (by lia) (by omega), q4, hk2]
        simp only [rI, rI2, rJ1, rJ2, rJ3, rA1, rA2, rA3, rA4, rE1, rE2, rE3, rE4, rE5, rR1, rR2, rR3, rR4, rR5, Nat.reduceEqDiff, reduceIte]
        rw [sA_sA]
        refine some_ext ?_ ?_
        · simp only [cnt, if_pos tt]
          rw [Int32.add_assoc, cnt_congr (g := S.2.2.1 8) (c := sb (S.1 701)) _ _ (fun j hj _ => ⟨upd_ne (by omega), rfl⟩)]
        · rw [rst_next (f := S.2.2.1 8) (b := sb (S.1 701)) (fun j hj => ⟨upd_ne hj, rfl⟩) q5 (by rw [if_pos tt, upd_same])]
      · have e2 : f_X1_rest_4 n m 7 c (x + 1) S = some (c + cnt (S.2.2.1 8) (sb (S.1 701)) x.toNatClampNeg (k + 1), sI (sA S 8 (rst (S.2.2.1 8) (sb (S.1 701)) x.toNatClampNeg 6)) 701 0) := by
          rw [ih c (x + 1) S (by lia) (by lia) (by omega), q4, hk2]
          refine some_ext ?_ ?_
          · simp only [cnt, if_neg tt, Int32.zero_add]
          · rw [rst_next (f := S.2.2.1 8) (b := sb (S.1 701)) (fun j hj => ⟨rfl, rfl⟩) q5 (by rw [if_neg tt])]
        by_cases b0 : sb (S.1 701) x.toNatClampNeg = 0
        · rw [if_pos b0, if_pos (Decidable.byContradiction fun z => tt ⟨b0, z⟩)]; exact e2
        · rw [if_neg b0]; exact e2
def zr (b : Nat → Int32) (lo hi : Nat) : Nat → Int32 := fun k => if lo ≤ k ∧ k < hi then 0 else b k
theorem zr_next {b c : Nat → Int32} {lo hi : Nat} (h : ∀ j, j ≠ lo → c j = b j) (h0 : c lo = 0) (hh : lo < hi) : zr c (lo + 1) hi = zr b lo hi := by
  funext j; unfold zr
  by_cases ej : j = lo
  · subst ej; rw [if_neg (by omega), if_pos ⟨Nat.le_refl _, hh⟩, h0]
  · by_cases q : lo + 1 ≤ j ∧ j < hi
    · rw [if_pos q, if_pos ⟨by omega, q.2⟩]
    · rw [if_neg q, if_neg (fun z => q ⟨by omega, z.2⟩), h j ej]
theorem zr_end {b : Nat → Int32} {lo hi : Nat} (h : hi ≤ lo) : zr b lo hi = b := by
  funext k; unfold zr; rw [if_neg (by omega)]
theorem e_off11 (n : Nat) {th : Int32} (ht : 0 ≤ th ∧ th ≤ 6) : ∀ (m : Nat) (c x : Int32) (T : z_Stt), T.1 4806 = th → 0 ≤ x → x ≤ th → th.toInt - x.toInt < m → f_X11_dayOff_4 n m c x T = some (c + cnt (T.2.2.1 53) (T.2.2.1 54) x.toNatClampNeg (th.toNatClampNeg - x.toNatClampNeg), sA (sA T 53 (rst (T.2.2.1 53) (T.2.2.1 54) x.toNatClampNeg th.toNatClampNeg)) 54 (zr (T.2.2.1 54) x.toNatClampNeg th.toNatClampNeg)) := by
  intro m
  induction m with
  | zero => intro c x T h0 h1 h2 h3; rw [Int32.le_iff_toInt_le] at h2; omega
  | succ m ih =>
    intro c x T h0 h1 h2 h3
    have q := tn h1
    unfold f_X11_dayOff_4
    rw [h0]
    by_cases e : th ≤ x
    · have e6 : x = th := by lia
      subst e6
      rw [if_pos e, rst_end (Nat.le_refl _), zr_end (Nat.le_refl _), sA_self, sA_self, Nat.sub_self]
      show some (c, _) = some (c + 0, _)
      rw [Int32.add_zero]
    · have lt : x < th := Int32.not_le.mp e
      have lx : 0 ≤ x ∧ x < 6 := ⟨h1, lt_of6 lt ht.2⟩
      have q1 : (x + 1).toInt = x.toInt + 1 := inc32 lt
      have q3 := tn (a := x + 1) (by lia)
      have q4 : (x + 1).toNatClampNeg = x.toNatClampNeg + 1 := by omega
      have q5 := lt_nat h1 lt
      obtain ⟨k, hk⟩ : ∃ k, th.toNatClampNeg - x.toNatClampNeg = k + 1 := ⟨th.toNatClampNeg - x.toNatClampNeg - 1, by omega⟩
      have hk2 : th.toNatClampNeg - (x.toNatClampNeg + 1) = k := by omega
      rw [if_neg e, hk]
      simp only [vp_6, if_pos lx]
      have fin : ∀ (y a : Int32), (a = 0 ∨ a = 1) → T.2.2.1 53 x.toNatClampNeg - y = (if tir (T.2.2.1 53) (T.2.2.1 54) x.toNatClampNeg then T.2.2.1 53 x.toNatClampNeg - 1 else T.2.2.1 53 x.toNatClampNeg) → (c + a = c + (if tir (T.2.2.1 53) (T.2.2.1 54) x.toNatClampNeg then 1 else 0)) → f_X11_dayOff_52 n (f_X11_dayOff_4 n m) c x a y (T.2.2.1 53 x.toNatClampNeg) x T = some (c + cnt (T.2.2.1 53) (T.2.2.1 54) x.toNatClampNeg (k + 1), sA (sA T 53 (rst (T.2.2.1 53) (T.2.2.1 54) x.toNatClampNeg th.toNatClampNeg)) 54 (zr (T.2.2.1 54) x.toNatClampNeg th.toNatClampNeg)) := by
        intro y a ha hy hc
        have h64 : f_X11_dayOff_52 n (f_X11_dayOff_4 n m) c x a y (T.2.2.1 53 x.toNatClampNeg) x T = f_X11_dayOff_4 n m (c + a) (x + 1) (sA (sA T 53 (upd (T.2.2.1 53) x.toNatClampNeg (T.2.2.1 53 x.toNatClampNeg - y))) 54 (upd (T.2.2.1 54) x.toNatClampNeg 0)) := by
          simp only [f_X11_dayOff_52, f_X11_dayOff_64, vp_6, if_pos lx, g_let, rI, rI2, rJ1, rJ2, rJ3, rA1, rA2, rA3, rA4, rE1, rE2, rE3, rE4, rE5, rR1, rR2, rR3, rR4, rR5, Nat.reduceEqDiff, reduceIte]
          rcases ha with rfl | rfl
          · rw [if_pos rfl]
          · rw [if_neg (by decide +kernel)]
        rw [h64, ih _ _ (sA (sA T 53 (upd (T.2.2.1 53) x.toNatClampNeg (T.2.2.1 53 x.toNatClampNeg - y))) 54 (upd (T.2.2.1 54) x.toNatClampNeg 0)) h0 (by lia) (by lia) (by omega), q4, hk2]
        simp only [rI, rI2, rJ1, rJ2, rJ3, rA1, rA2, rA3, rA4, rE1, rE2, rE3, rE4, rE5, rR1, rR2, rR3, rR4, rR5, Nat.reduceEqDiff, reduceIte]
        refine some_ext ?_ ?_
        · simp only [cnt]
          rw [hc, Int32.add_assoc, cnt_congr (g := T.2.2.1 53) (c := T.2.2.1 54) _ _ (fun j hj _ => ⟨upd_ne (by omega), upd_ne (by omega)⟩)]
        · rw [rst_next (f := T.2.2.1 53) (b := T.2.2.1 54) (fun j hj => ⟨upd_ne hj, upd_ne hj⟩) q5 (by rw [upd_same, hy]), zr_next (b := T.2.2.1 54) (fun j hj => upd_ne hj) (upd_same _ _ _) q5]
          refine z_ext rfl rfl ?_ rfl rfl
          funext j; simp only [rI, rI2, rJ1, rJ2, rJ3, rA1, rA2, rA3, rA4, rE1, rE2, rE3, rE4, rE5, rR1, rR2, rR3, rR4, rR5, Nat.reduceEqDiff, reduceIte]
          split
          · rfl
          · split <;> rfl
      by_cases tt : tir (T.2.2.1 53) (T.2.2.1 54) x.toNatClampNeg
      · rw [if_pos tt.1, if_neg tt.2]
        simp only [f_X11_dayOff_35, vp_6, if_pos lx, if_neg (by decide +kernel : ¬ (1 : Int32) = 0)]
        exact fin 1 1 (Or.inr rfl) (by rw [if_pos tt]) (by rw [if_pos tt])
      · have e2 : f_X11_dayOff_34 n (f_X11_dayOff_4 n m) c x T = some (c + cnt (T.2.2.1 53) (T.2.2.1 54) x.toNatClampNeg (k + 1), sA (sA T 53 (rst (T.2.2.1 53) (T.2.2.1 54) x.toNatClampNeg th.toNatClampNeg)) 54 (zr (T.2.2.1 54) x.toNatClampNeg th.toNatClampNeg)) := by
          simp only [f_X11_dayOff_34, f_X11_dayOff_35, vp_6, if_pos lx, if_true]
          exact fin 0 0 (Or.inl rfl) (by rw [if_neg tt, Int32.sub_zero]) (by rw [if_neg tt])
        by_cases b0 : T.2.2.1 54 x.toNatClampNeg = 0
        · rw [if_pos b0, if_pos (Decidable.byContradiction fun z => tt ⟨b0, z⟩)]; exact e2
        · rw [if_neg b0]; exact e2
theorem E_dayOff {S : z_Stt} (h : Inv S) : ∃ (v : Int32) (S1 S2 : z_Stt), f_X10_dayOff FUEL S = some (v, S1) ∧ f_X11_dayOff FUEL S1 = some (v, S2) ∧ Inv S2 := by
  have fz : 6 - (0 : Int32).toInt < (FUEL : Nat) := by decide +kernel
  have ft := th_lt h.1.1.1
  generalize FUEL = F at *
  obtain ⟨hw, e1, e2⟩ := h.1
  obtain ⟨⟨d1, d2, d3, d4, d5⟩, k1, k2, k3, k4, k5, k6, k7⟩ := h.2.2.1
  have n0 : (0 : Int32).toNatClampNeg = 0 := rfl
  have t6 : (S.1 101).toNatClampNeg ≤ 6 := by
    have := le_nat hw.1.1 hw.1.2
    exact this
  have l10 := e_rest F F 0 0 S (by decide +kernel) (by decide +kernel) fz
  have l11 := e_off11 F hw.1 F 0 0 (sI (sA S 8 (rst (S.2.2.1 8) (sb (S.1 701)) 0 6)) 701 0) e2 (by decide +kernel) hw.1.1 ft
  rw [n0] at l10 l11
  have c1 : cnt (S.2.2.1 53) (S.2.2.1 54) 0 ((S.1 101).toNatClampNeg - 0) = cnt (S.2.2.1 8) (sb (S.1 701)) 0 6 := by
    have a := cnt_add (f := S.2.2.1 8) (b := sb (S.1 701)) (S.1 101).toNatClampNeg 0 (6 - (S.1 101).toNatClampNeg)
    rw [show (S.1 101).toNatClampNeg + (6 - (S.1 101).toNatClampNeg) = 6 by omega] at a
    rw [a, cnt_0 (6 - (S.1 101).toNatClampNeg) (0 + (S.1 101).toNatClampNeg) (fun j h1 h2 q => q.2 (by rw [((d1 j (by omega)).2 (by omega)).1]; decide +kernel)), Int32.add_zero, Nat.sub_zero, k1]
    exact cnt_congr _ _ (fun j _ h2 => ⟨rfl, k2 j (by omega)⟩)
  have c2 : rst (S.2.2.1 53) (S.2.2.1 54) 0 (S.1 101).toNatClampNeg = rst (S.2.2.1 8) (sb (S.1 701)) 0 6 := by
    rw [k1]
    funext j; unfold rst
    by_cases q : 0 ≤ j ∧ j < (S.1 101).toNatClampNeg ∧ tir (S.2.2.1 8) (S.2.2.1 54) j
    · rw [if_pos q, if_pos ⟨q.1, by omega, by rw [tir, ← k2 j (by omega)]; exact q.2.2⟩]
    · rw [if_neg q, if_neg]
      intro z
      by_cases w : j < (S.1 101).toNatClampNeg
      · exact q ⟨z.1, w, by rw [tir, k2 j z.2.1]; exact z.2.2⟩
      · exact z.2.2.2 (by rw [((d1 j z.2.1).2 (by omega)).1]; decide +kernel)
  refine ⟨0 + cnt (S.2.2.1 8) (sb (S.1 701)) 0 6, sI (sA S 8 (rst (S.2.2.1 8) (sb (S.1 701)) 0 6)) 701 0, sA (sA (sI (sA S 8 (rst (S.2.2.1 8) (sb (S.1 701)) 0 6)) 701 0) 53 (rst (S.2.2.1 8) (sb (S.1 701)) 0 6)) 54 (zr (S.2.2.1 54) 0 (S.1 101).toNatClampNeg), ?_, ?_, ?_⟩
  · unfold f_X10_dayOff f_X1_rest
    rw [l10]; rfl
  · unfold f_X11_dayOff
    rw [l11]
    have r53 : (sI (sA S 8 (rst (S.2.2.1 8) (sb (S.1 701)) 0 6)) 701 0).2.2.1 53 = S.2.2.1 53 := rfl
    have r54 : (sI (sA S 8 (rst (S.2.2.1 8) (sb (S.1 701)) 0 6)) 701 0).2.2.1 54 = S.2.2.1 54 := rfl
    rw [r53, r54, c1, c2]
  · refine ⟨h.1.of rfl rfl rfl rfl, h.2.1.of rfl rfl rfl rfl rfl rfl rfl rfl rfl rfl rfl, ⟨⟨fun t ht => ?_, d2, d3, d4, d5⟩, rfl, fun t ht => ?_, k3, k4, k5, k6, k7⟩, h.2.2.2.1.of rfl rfl rfl rfl rfl rfl rfl rfl rfl rfl rfl rfl, h.2.2.2.2.1.of rfl rfl rfl rfl rfl rfl rfl rfl rfl, h.2.2.2.2.2.1.of rfl rfl rfl rfl rfl rfl rfl rfl, h.2.2.2.2.2.2.of rfl (fun n q1 q2 => by simp only [sI, sJ, sA, sE, sR]; repeat rw [if_neg (by omega)]) (fun n q1 q2 => by simp only [sI, sJ, sA, sE, sR]; repeat rw [if_neg (by omega)]) rfl rfl rfl⟩
    · show (0 ≤ rst (S.2.2.1 8) (sb (S.1 701)) 0 6 t ∧ rst (S.2.2.1 8) (sb (S.1 701)) 0 6 t ≤ 12) ∧ ((S.1 101).toNatClampNeg ≤ t → rst (S.2.2.1 8) (sb (S.1 701)) 0 6 t = 0 ∧ sb 0 t = 0)
      obtain ⟨b1, b2⟩ := d1 t ht
      unfold rst
      by_cases q : 0 ≤ t ∧ t < 6 ∧ tir (S.2.2.1 8) (sb (S.1 701)) t
      · rw [if_pos q]
        have q2 := q.2.2.2
        generalize S.2.2.1 8 t = y at *
        exact ⟨by grind, fun z => absurd (b2 z).1 (by intro y0; exact q2 (by rw [y0]; decide +kernel))⟩
      · rw [if_neg q]
        exact ⟨b1, fun z => ⟨(b2 z).1, sb_0 ht⟩⟩
    · show zr (S.2.2.1 54) 0 (S.1 101).toNatClampNeg t = sb 0 t
      rw [sb_0 ht]
      unfold zr
      by_cases q : 0 ≤ t ∧ t < (S.1 101).toNatClampNeg
      · rw [if_pos q]
      · rw [if_neg q, k2 t ht]
        exact ((d1 t ht).2 (by omega)).2
