/-! GRAVEL: what a shelf holds; the first morning told otherwise -/
theorem t32_in {x : Int64} {so : Int32} (hs : so = 0 ∨ so = 1) (h : inSort so x) : x = x.toInt32.toInt64 := by
  have b : -32768 ≤ x.toInt ∧ x.toInt ≤ 32767 := by
    have c1 : (-128 : Int64).toInt = -128 := rfl
    have c2 : (127 : Int64).toInt = 127 := rfl
    have c3 : (-32768 : Int64).toInt = -32768 := rfl
    have c4 : (32767 : Int64).toInt = 32767 := rfl
    rcases hs with e | e
    · obtain ⟨h1, h2⟩ := h.1 e
      rw [Int64.le_iff_toInt_le, c1] at h1
      rw [Int64.le_iff_toInt_le, c2] at h2
      omega
    · obtain ⟨h1, h2⟩ := h.2.1 e
      rw [Int64.le_iff_toInt_le, c3] at h1
      rw [Int64.le_iff_toInt_le, c4] at h2
      omega
  rw [← Int64.toInt_inj, Int32.toInt_toInt64, Int64.toInt_toInt32]
  exact (Int.bmod_eq_of_le (by omega) (by omega)).symm
theorem sh_cls {S : z_Stt} (h : Inv S) {a0 so : Int32} (ha : 0 ≤ a0 ∧ a0 ≤ 5) (hs : so = 0 ∨ so = 1) : ((∀ T, agQ S T → f_X8_refusal (36 + 2 * a0.toNatClampNeg) so T = some (-11, T)) ∧ S.2.2.1 66 a0.toNatClampNeg < 0) ∨ ((∀ T, agQ S T → f_X8_refusal (36 + 2 * a0.toNatClampNeg) so T = some (-12, T)) ∧ 0 ≤ S.2.2.1 66 a0.toNatClampNeg ∧ ¬ S.2.2.1 66 a0.toNatClampNeg = 50 + so) ∨ ∃ n, rowOf S a0 so n ∧ ∀ T, agQ S T → f_X8_refusal (36 + 2 * a0.toNatClampNeg) so T = some (0, T) := by
  have hd := d6 ha
  obtain ⟨w, r⟩ := h.2.2.2.2.2.2 _ hd
  have e0 : ∀ T, agQ S T → T.1 (100 * (36 + 2 * a0.toNatClampNeg) + 0) = shH S a0.toNatClampNeg := fun T a => q_sh a hd (by decide)
  have e2 : ∀ T, agQ S T → T.1 (100 * (36 + 2 * a0.toNatClampNeg) + 2) = shS S a0.toNatClampNeg := fun T a => q_sh a hd (by decide)
  rcases w.1 with c | c | c
  · refine Or.inl ⟨fun T a => ?_, by rw [r.1 c]; decide +kernel⟩
    unfold f_X8_refusal
    rw [e0 T a, if_pos c]
  · have g := w.2.1 c
    have g1 := h.2.2.2.2.2.1.1.1
    refine Or.inr (Or.inl ⟨fun T a => ?_, by rw [r.2.1 c]; exact g.1, ?_⟩)
    · unfold f_X8_refusal f_X8_isRow
      rw [e0 T a, if_neg (by rw [c]; decide +kernel), if_neg (by rw [c]; decide +kernel), g_bds, if_neg (by decide)]
    · rw [r.2.1 c]
      generalize shG S a0.toNatClampNeg = x at g
      rcases hs with e | e <;> rw [e] <;> lia
  · obtain ⟨q1, q2, q3⟩ := r.2.2 c
    obtain ⟨s1, s2, s3⟩ := w.2.2 c
    have c0 : ¬ shH S a0.toNatClampNeg = 0 := by rw [c]; decide +kernel
    by_cases s : shS S a0.toNatClampNeg = so
    · refine Or.inr (Or.inr ⟨(shN S a0.toNatClampNeg).toNatClampNeg, ⟨ha, ?_, ?_, ?_, ?_, fun q hq => ?_, fun q hq => ?_⟩, fun T a => ?_⟩)
      · have t := tn s2.1
        have u := rg s2
        rw [z0_32, i_60] at u
        omega
      · exact tn_on s2.1 (by have := s2.2; lia)
      · rw [q1, s]
      · rw [q2]; exact tn_on s2.1 (by have := s2.2; lia)
      · exact t32_in hs (s ▸ s3 q hq)
      · exact (q3 q hq).trans (t32_in hs (s ▸ s3 q hq))
      · unfold f_X8_refusal f_X8_isRow
        rw [e0 T a, if_neg c0, if_pos c, e2 T a, if_pos s, g_bds, if_pos rfl]
    · refine Or.inr (Or.inl ⟨fun T a => ?_, ?_, ?_⟩)
      · unfold f_X8_refusal f_X8_isRow
        rw [e0 T a, if_neg c0, if_pos c, e2 T a, if_neg s, g_bds, if_neg (by decide)]
      · rw [q1]; lia
      · rw [q1]; intro e; exact s (by lia)
theorem on_half {k : Nat} (h : k ≤ 1000) : Int32.ofNat (2 * k) / 2 = Int32.ofNat k := by
  have i2 : (2 : Int32).toInt = 2 := rfl
  rw [← Int32.toInt_inj, Int32.toInt_div, on_ti (by omega), on_ti (by omega), i2, Int.tdiv_eq_ediv_of_nonneg (by omega)]
  have e : ((2 * k : Nat) : Int) / 2 = k := by omega
  rw [e]; exact Int.bmod_eq_of_le (by omega) (by omega)
theorem on_dbl {k : Nat} (h : k ≤ 1000) : 2 * Int32.ofNat k = Int32.ofNat (2 * k) := by
  have i2 : (2 : Int32).toInt = 2 := rfl
  refine on_eq ?_ (by omega)
  rw [ti_mul (by rw [i2, on_ti (by omega)]; omega), i2, on_ti (by omega)]; omega
theorem fo_both {S : z_Stt} (h : Inv S) {a0 a1 w : Int32} {n p : Nat} (r : rowOf S a0 0 n) (hn : n = 2 * p) (gr : ∀ k, k < n → okG S a0 k) (ht : 0 ≤ a1 / 10 ∧ a1 / 10 < S.1 101) (hr : 0 ≤ a1 % 10 ∧ a1 % 10 ≤ 1) (hw : 0 ≤ w ∧ w ≤ 4) : ∀ (j k m m' : Nat), k + j = p → j < m → j < m' → ∃ o : Int32, (∀ C, agQ S C → ∃ C', f_X10_firstOtherwise_3 FUEL m (36 + 2 * a0.toNatClampNeg) a1 w (Int32.ofNat (2 * k)) C = some (o, C')) ∧ ∀ T, agQ S T → ∃ T', f_X11_firstOther_3 FUEL m' a0 a1 w (Int32.ofNat k) T = some (if 0 ≤ o then o else -2, T') := by
  intro j
  have n60 := r.2.1
  have hd := d6 r.1
  have v6a : ¬ (a0 < 0 ∨ 6 ≤ a0.toNatClampNeg) := by rw [vp_6]; exact v6 r.1
  have eN : ∀ C, agQ S C → C.1 (100 * (36 + 2 * a0.toNatClampNeg) + 3) = Int32.ofNat n := fun C a => (q_sh a hd (by decide)).trans r.2.2.1
  have rN : ∀ T, agQ S T → T.2.2.1 67 a0.toNatClampNeg = Int32.ofNat n := fun T a => by rw [a.2.1 67 (by decide)]; exact r.2.2.2.2.1
  induction j with
  | zero =>
    intro k m m' hk hm hm'
    obtain ⟨m, rfl⟩ : ∃ q, m = q + 1 := ⟨m - 1, by omega⟩
    obtain ⟨m', rfl⟩ : ∃ q, m' = q + 1 := ⟨m' - 1, by omega⟩
    refine ⟨-1, fun C a => ⟨C, ?_⟩, fun T a => ⟨T, ?_⟩⟩
    · rw [f_X10_firstOtherwise_3, eN C a, on_s _ (by omega), if_pos (by rw [on_le (by omega) (by omega)]; omega)]
    · rw [f_X11_firstOther_3, if_pos v6a, rN T a, on_dbl (by omega), if_pos (by rw [on_le (by omega) (by omega)]; omega), if_neg (by decide +kernel)]
  | succ j ih =>
    intro k m m' hk hm hm'
    obtain ⟨m, rfl⟩ : ∃ q, m = q + 1 := ⟨m - 1, by omega⟩
    obtain ⟨m', rfl⟩ : ∃ q, m' = q + 1 := ⟨m' - 1, by omega⟩
    have y99 : 0 ≤ elV S a0.toNatClampNeg (2 * k + 1) ∧ elV S a0.toNatClampNeg (2 * k + 1) ≤ 99 := by
      have z := gr (2 * k + 1) (by omega)
      unfold okG mxG at z
      rw [if_neg (by omega)] at z
      exact z
    obtain ⟨b, d10, d11⟩ := q_decides h hw ht hr y99
    obtain ⟨o, i10, i11⟩ := ih (k + 1) m m' (by omega) (by omega) (by omega)
    have o64 : (1 : Int64) = (1 : Int32).toInt64 := rfl
    have c10 : ∀ C, agQ S C → ∃ C', agQ S C' ∧ f_X10_firstOtherwise_3 FUEL (m + 1) (36 + 2 * a0.toNatClampNeg) a1 w (Int32.ofNat (2 * k)) C = f_X10_firstOtherwise_56 FUEL (f_X10_firstOtherwise_3 FUEL m) (36 + 2 * a0.toNatClampNeg) a1 w (Int32.ofNat (2 * k)) (if elV S a0.toNatClampNeg (2 * k) = 1 then 1 else 0) (bI b) C' := by
      intro C a
      obtain ⟨C', e⟩ := d10 C a
      have a' := a.trans (fq_X10_decides _ _ _ _ _ e)
      refine ⟨C', a', ?_⟩
      rw [f_X10_firstOtherwise_3, eN C a, on_s _ (by omega), if_neg (by rw [on_le (by omega) (by omega)]; omega), at_q r a (by omega), g_bds, Int32.toInt32_toInt64, e, g_bds, at_q r a' (by omega), g_bds]
      by_cases c : elV S a0.toNatClampNeg (2 * k) = 1
      · rw [if_pos (by rw [lg_cmp_eq, o64, t64_eq]; exact c), if_pos c]
      · rw [if_neg (by rw [lg_cmp_eq, o64, t64_eq]; exact c), if_neg c]
    have c11 : ∀ T, agQ S T → ∃ T', agQ S T' ∧ f_X11_firstOther_3 FUEL (m' + 1) a0 a1 w (Int32.ofNat k) T = f_X11_firstOther_67 FUEL (f_X11_firstOther_3 FUEL m') a0 a1 w (Int32.ofNat k) (if elV S a0.toNatClampNeg (2 * k) = 1 then 1 else 0) (bI b) T' := by
      intro T a
      obtain ⟨T', e, -⟩ := d11 T a
      have a' := a.trans (fq_X11_goesBack _ _ _ _ _ e)
      have x0 := ix_q r.1 (x := Int32.ofNat (2 * k)) (q := 2 * k) (on_ti (by omega)) (by omega)
      have x1 : Int32.ofNat (60 * a0.toNatClampNeg + 2 * k) + 1 = Int32.ofNat (60 * a0.toNatClampNeg + (2 * k + 1)) := on_s _ (by omega)
      refine ⟨T', a', ?_⟩
      rw [f_X11_firstOther_3, if_pos v6a, rN T a, on_dbl (by omega), if_neg (by rw [on_le (by omega) (by omega)]; omega), x0, x1, if_pos (v360 (by omega)), it_q r a (by omega), Int32.toInt32_toInt64, e, g_bds, if_pos (v360 (by omega)), it_q r a' (by omega)]
      by_cases c : elV S a0.toNatClampNeg (2 * k) = 1
      · rw [if_pos (by rw [lg_cmp_eq, o64, t64_eq]; exact c), if_pos c]
      · rw [if_neg (by rw [lg_cmp_eq, o64, t64_eq]; exact c), if_neg c]
    by_cases q : bI b = if elV S a0.toNatClampNeg (2 * k) = 1 then 1 else 0
    · refine ⟨o, fun C a => ?_, fun T a => ?_⟩
      · obtain ⟨C', a', e⟩ := c10 C a
        obtain ⟨C2, z⟩ := i10 C' a'
        refine ⟨C2, ?_⟩
        rw [e, f_X10_firstOtherwise_56, if_pos q, on_s2 _ (by omega)]
        exact z
      · obtain ⟨T', a', e⟩ := c11 T a
        obtain ⟨T2, z⟩ := i11 T' a'
        refine ⟨T2, ?_⟩
        rw [e, f_X11_firstOther_67, if_pos q, on_s _ (by omega)]
        exact z
    · refine ⟨Int32.ofNat k, fun C a => ?_, fun T a => ?_⟩
      · obtain ⟨C', a', e⟩ := c10 C a
        refine ⟨C', ?_⟩
        rw [e, f_X10_firstOtherwise_56, if_neg q, on_half (by omega)]
      · obtain ⟨T', a', e⟩ := c11 T a
        refine ⟨T', ?_⟩
        rw [e, f_X11_firstOther_67, if_neg q, if_pos (on_p0 (by omega))]
