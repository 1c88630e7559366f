/-! FITS, WHEN -/
theorem e_tm1 (a : Int32) (S : z_Stt) : f_X10_isThingAndMemory a 1 S = some (decide (0 ≤ a ∧ a / 10 < S.1 101 ∧ a % 10 ≤ 1), S) := by
  unfold f_X10_isThingAndMemory
  by_cases c : a < 0
  · rw [if_pos c, decide_eq_false (fun q => absurd q.1 (Int32.not_le.mpr c))]
  · have a0 : 0 ≤ a := Int32.not_lt.mp c
    obtain ⟨d1, d2, d3, d4⟩ := dvk (k := 10) a0 (by decide +kernel)
    rw [if_neg c, e_isThing10, g_bds]
    by_cases t : a / 10 < S.1 101
    · rw [decide_eq_true (⟨d1, t⟩ : 0 ≤ a / 10 ∧ a / 10 < S.1 101), if_pos rfl, e_within10, g_bds]
      by_cases m : a % 10 ≤ 1
      · rw [decide_eq_true (⟨d3, m⟩ : 0 ≤ a % 10 ∧ a % 10 ≤ 1), if_pos rfl, decide_eq_true ⟨a0, t, m⟩]
      · rw [decide_eq_false (fun q : 0 ≤ a % 10 ∧ a % 10 ≤ 1 => m q.2), if_neg (by decide), decide_eq_false (fun q => m q.2.2)]
    · rw [decide_eq_false (fun q : 0 ≤ a / 10 ∧ a / 10 < S.1 101 => t q.2), if_neg (by decide), decide_eq_false (fun q => t q.2.1)]
theorem e_yn (a : Int32) {T : z_Stt} (h4 : 0 ≤ T.1 4806) : f_X11_isYesNo a T = some (decide (0 ≤ a ∧ a / 10 < T.1 4806 ∧ a % 10 ≤ 1), T) := by
  unfold f_X11_isYesNo
  rw [e_tr11 a h4, g_bds]
  by_cases c : 0 ≤ a ∧ a / 10 < T.1 4806 ∧ a % 10 ≤ 2
  · rw [decide_eq_true c, if_pos rfl]
    by_cases d : 2 ≤ a % 10
    · rw [if_pos d, decide_eq_false (fun q => by have := q.2.2; generalize a % 10 = x at *; lia)]
    · rw [if_neg d, decide_eq_true ⟨c.1, c.2.1, by generalize a % 10 = x at *; lia⟩]
  · rw [decide_eq_false c, if_neg (by decide), decide_eq_false (fun q => c ⟨q.1, q.2.1, by have := q.2.2; generalize a % 10 = x at *; lia⟩)]
theorem by_neg {a0 : Int32} {T : z_Stt} (h : ¬ (0 ≤ a0 ∧ a0 ≤ 5)) : f_X11_bytesIs a0 T = some (-1, T) := by
  unfold f_X11_bytesIs
  rw [e_isShelf11, g_bds, decide_eq_false h, if_neg (by decide)]
theorem by_pos {a0 : Int32} {T : z_Stt} (ha : 0 ≤ a0 ∧ a0 ≤ 5) : f_X11_bytesIs a0 T = some (if 0 ≤ T.2.2.1 66 a0.toNatClampNeg then (if T.2.2.1 66 a0.toNatClampNeg = 50 then 1 else -12) else -11, T) := by
  have v6a : ¬ (a0 < 0 ∨ 6 ≤ a0.toNatClampNeg) := by rw [vp_6]; exact v6 ha
  unfold f_X11_bytesIs
  rw [e_isShelf11, g_bds, decide_eq_true ha, if_pos rfl, if_pos v6a]
  by_cases c : 0 ≤ T.2.2.1 66 a0.toNatClampNeg
  · rw [if_pos c, if_pos c, if_pos v6a]
    by_cases e : T.2.2.1 66 a0.toNatClampNeg = 50
    · rw [if_pos e, if_pos e]
    · rw [if_neg e, if_neg e]
  · rw [if_neg c, if_neg c]
theorem by_any {a0 : Int32} (ha : 0 ≤ a0 ∧ a0 ≤ 5) (T : z_Stt) : ∃ y : Int32, ¬ y = -1 ∧ f_X11_bytesIs a0 T = some (y, T) := by
  refine ⟨_, ?_, by_pos ha⟩
  by_cases c : 0 ≤ T.2.2.1 66 a0.toNatClampNeg
  · rw [if_pos c]
    by_cases e : T.2.2.1 66 a0.toNatClampNeg = 50
    · rw [if_pos e]; decide +kernel
    · rw [if_neg e]; decide +kernel
  · rw [if_neg c]; decide +kernel
/-- what the gravel is to both: refused by x, or read through -/
theorem gr_both {S : z_Stt} (h : Inv S) {a0 : Int32} (ha : 0 ≤ a0 ∧ a0 ≤ 5) : (∃ x y : Int32, (¬ x = 0 ∧ ¬ y = -1) ∧ (∀ C, agQ S C → f_X10_gravelRefusal FUEL (36 + 2 * a0.toNatClampNeg) C = some (x, C)) ∧ (∀ T, agQ S T → f_X11_bytesIs a0 T = some (y, T)) ∧ ((¬ 0 ≤ y ∧ x = y) ∨ (0 ≤ y ∧ x = -5 ∧ ∀ T, agQ S T → f_X11_isGravel FUEL a0 T = some (false, T)))) ∨ ((∀ C, agQ S C → f_X10_gravelRefusal FUEL (36 + 2 * a0.toNatClampNeg) C = some (0, C)) ∧ (∀ T, agQ S T → f_X11_bytesIs a0 T = some (1, T)) ∧ (∀ T, agQ S T → f_X11_isGravel FUEL a0 T = some (true, T)) ∧ ∃ n p, rowOf S a0 0 n ∧ n = 2 * p ∧ ∀ k, k < n → okG S a0 k) := by
  have f61 : 61 < FUEL := by decide +kernel
  have e66 : ∀ T, agQ S T → T.2.2.1 66 = S.2.2.1 66 := fun T a => a.2.1 66 (by decide)
  rcases sh_cls h ha (Or.inl rfl) with ⟨r, m⟩ | ⟨r, m, m2⟩ | ⟨n, r, rf⟩
  · refine Or.inl ⟨-11, -11, by decide +kernel, fun C a => ?_, fun T a => ?_, Or.inl ⟨by decide +kernel, rfl⟩⟩
    · unfold f_X10_gravelRefusal
      rw [r C a, g_bds, if_neg (by decide +kernel)]
    · rw [by_pos ha, e66 T a, if_neg (Int32.not_le.mpr m)]
  · refine Or.inl ⟨-12, -12, by decide +kernel, fun C a => ?_, fun T a => ?_, Or.inl ⟨by decide +kernel, rfl⟩⟩
    · unfold f_X10_gravelRefusal
      rw [r C a, g_bds, if_neg (by decide +kernel)]
    · have e50 : (50 : Int32) + 0 = 50 := rfl
      rw [e50] at m2
      rw [by_pos ha, e66 T a, if_pos m, if_neg m2]
  · have hd := d6 ha
    have n60 := r.2.1
    have y1 : ∀ T, agQ S T → f_X11_bytesIs a0 T = some (1, T) := by
      intro T a
      have e50 : S.2.2.1 66 a0.toNatClampNeg = 50 := r.2.2.2.1
      rw [by_pos ha, e66 T a, e50, if_pos (by decide +kernel), if_pos rfl]
    have gr1 : ∀ C, agQ S C → f_X10_gravelRefusal FUEL (36 + 2 * a0.toNatClampNeg) C = if n % 2 = 0 then f_X10_gravelRefusal_26 FUEL FUEL (36 + 2 * a0.toNatClampNeg) (Int32.ofNat 0) C else some (-5, C) := by
      intro C a
      have eN : C.1 (100 * (36 + 2 * a0.toNatClampNeg) + 3) = Int32.ofNat n := (q_sh a hd (by decide)).trans r.2.2.1
      unfold f_X10_gravelRefusal
      rw [rf C a, g_bds, if_pos rfl, eN]
      by_cases c : n % 2 = 0
      · rw [if_pos (by rw [on_m2 (by omega)]; exact c), if_pos c]; rfl
      · rw [if_neg (by rw [on_m2 (by omega)]; exact c), if_neg c]
    by_cases g : n % 2 = 0 ∧ ∀ k, 0 ≤ k → k < n → okG S a0 k
    · refine Or.inr ⟨fun C a => ?_, y1, fun T a => (gr_r r a FUEL n 0 FUEL (by omega) (by omega)).1 g, n, n / 2, r, by omega, fun k hk => g.2 k (Nat.zero_le _) hk⟩
      rw [gr1 C a, if_pos g.1]
      exact (gr_c r a FUEL n 0 FUEL (by omega) (by omega)).1 g.2
    · refine Or.inl ⟨-5, 1, by decide +kernel, fun C a => ?_, y1, Or.inr ⟨by decide +kernel, rfl, fun T a => (gr_r r a FUEL n 0 FUEL (by omega) (by omega)).2 g⟩⟩
      rw [gr1 C a]
      by_cases c : n % 2 = 0
      · rw [if_pos c]
        exact (gr_c r a FUEL n 0 FUEL (by omega) (by omega)).2 (fun z => g ⟨c, z⟩)
      · rw [if_neg c]
theorem fits_both {S : z_Stt} (h : Inv S) {a0 a1 : Int32} {n p : Nat} (r : rowOf S a0 0 n) (hn : n = 2 * p) (gr : ∀ k, k < n → okG S a0 k) (ht : 0 ≤ a1 / 10 ∧ a1 / 10 < S.1 101) (hr : 0 ≤ a1 % 10 ∧ a1 % 10 ≤ 1) : ∀ (j i m m' : Nat) (x : Int32), i + j = 5 → j < m → j < m' → ∃ v : Int32, (∀ C, agQ S C → ∃ C', f_X10_fits_40 FUEL m a0 a1 x (Int32.ofNat i) C = some (v, C')) ∧ ∀ T, agQ S T → ∃ T', f_X11_fits_49 FUEL m' a0 a1 x (Int32.ofNat i) T = some (v, T') := by
  intro j
  have f61 : 61 < FUEL := by decide +kernel
  have n60 := r.2.1
  have v6a : ¬ (a0 < 0 ∨ 6 ≤ a0.toNatClampNeg) := by rw [vp_6]; exact v6 r.1
  have i4 : (4 : Int32).toInt = 4 := rfl
  have i5 : (5 : Int32).toInt = 5 := rfl
  induction j with
  | zero =>
    intro i m m' x hi hm hm'
    obtain ⟨m, rfl⟩ : ∃ q, m = q + 1 := ⟨m - 1, by omega⟩
    obtain ⟨m', rfl⟩ : ∃ q, m' = q + 1 := ⟨m' - 1, by omega⟩
    have e5 : i = 5 := by omega
    subst e5
    refine ⟨x, fun C _ => ⟨C, ?_⟩, fun T _ => ⟨T, ?_⟩⟩
    · rw [f_X10_fits_40, if_pos (by decide +kernel)]
    · rw [f_X11_fits_49, if_pos (by decide +kernel)]
  | succ j ih =>
    intro i m m' x hi hm hm'
    obtain ⟨m, rfl⟩ : ∃ q, m = q + 1 := ⟨m - 1, by omega⟩
    obtain ⟨m', rfl⟩ : ∃ q, m' = q + 1 := ⟨m' - 1, by omega⟩
    have c4 : ¬ 4 < Int32.ofNat i := by rw [Int32.lt_iff_toInt_lt, i4, on_ti (by omega)]; omega
    have c5 : ¬ 5 ≤ Int32.ofNat i := by rw [Int32.le_iff_toInt_le, i5, on_ti (by omega)]; omega
    obtain ⟨o, o10, o11⟩ := fo_both h r hn gr ht hr (w := Int32.ofNat i) ⟨on_p0 (by omega), Int32.not_lt.mp c4⟩ p 0 FUEL FUEL (by omega) (by omega) (by omega)
    obtain ⟨v, i10, i11⟩ := ih (i + 1) m m' (if 0 ≤ o then x else x ||| (1 <<< (Int32.ofNat i &&& 31))) (by omega) (by omega) (by omega)
    refine ⟨v, fun C a => ?_, fun T a => ?_⟩
    · obtain ⟨C', e⟩ := o10 C a
      have e' : f_X10_firstOtherwise FUEL (36 + 2 * a0.toNatClampNeg) a1 (Int32.ofNat i) C = some (o, C') := e
      have a' := a.trans (fq_X10_firstOtherwise _ _ _ _ e')
      obtain ⟨C2, z⟩ := i10 C' a'
      refine ⟨C2, ?_⟩
      rw [f_X10_fits_40, if_neg c4, if_pos v6a, e', g_bds]
      by_cases c : 0 ≤ o
      · rw [if_pos c] at z
        rw [if_pos c, f_X10_fits_71, on_s _ (by omega)]; exact z
      · rw [if_neg c] at z
        rw [if_neg c, f_X10_fits_71, on_s _ (by omega)]; exact z
    · obtain ⟨T', e⟩ := o11 T a
      have e' : f_X11_firstOther FUEL a0 a1 (Int32.ofNat i) T = some (if 0 ≤ o then o else -2, T') := e
      have a' := a.trans (fq_X11_firstOther _ _ _ _ e')
      obtain ⟨T2, z⟩ := i11 T' a'
      refine ⟨T2, ?_⟩
      rw [f_X11_fits_49, if_neg c5, e', g_bds]
      by_cases c : 0 ≤ o
      · rw [if_pos c] at z
        rw [if_pos c, if_pos c, f_X11_fits_75, Int32.or_zero, on_s _ (by omega)]; exact z
      · rw [if_neg c] at z
        rw [if_neg c, if_neg (by decide +kernel), f_X11_fits_75, on_s _ (by omega)]; exact z
theorem E_fits (a0 : Int32) (a1 : Int32) {S : z_Stt} (h : Inv S) : ∃ (v : Int32) (S1 S2 : z_Stt), f_X10_fits FUEL a0 a1 S = some (v, S1) ∧ f_X11_fits FUEL a0 a1 S1 = some (v, S2) ∧ Inv S2 := by
  have f61 : 61 < FUEL := by decide +kernel
  suffices z : ∃ v S1, f_X10_fits FUEL a0 a1 S = some (v, S1) ∧ (agQ S S1 → ∃ S2, f_X11_fits FUEL a0 a1 S1 = some (v, S2)) by
    obtain ⟨v, S1, z1, z2⟩ := z
    have a := fq_X10_fits _ _ _ z1
    obtain ⟨S2, z3⟩ := z2 a
    exact ⟨v, S1, S2, z1, z3, (h.quiet a).quiet (fq_X11_fits _ _ _ z3)⟩
  by_cases ha : 0 ≤ a0 ∧ a0 ≤ 5
  · have v6a : ¬ (a0 < 0 ∨ 6 ≤ a0.toNatClampNeg) := by rw [vp_6]; exact v6 ha
    by_cases g : 0 ≤ a1 ∧ a1 / 10 < S.1 101 ∧ a1 % 10 ≤ 1
    · obtain ⟨t0, -, t2, -⟩ := dvk (k := 10) g.1 (by decide +kernel)
      rcases gr_both h ha with ⟨x, y, ⟨x0, y0⟩, rc, rb, rr⟩ | ⟨rc, rb, rg', n, p, r, hn, ok⟩
      · refine ⟨x, S, ?_, fun a => ⟨S, ?_⟩⟩
        · unfold f_X10_fits
          rw [e_isShelf10, g_bds, decide_eq_true ha, if_pos rfl, e_tm1, g_bds, decide_eq_true g, if_pos rfl, if_pos v6a, rc S (agQ.rfl S), g_bds, if_neg x0]
        · unfold f_X11_fits
          rw [rb S a, g_bds, if_neg y0, e_yn a1 (q_h4 h a), g_bds, q_4806 h a, decide_eq_true g, if_pos rfl, rb S a, g_bds]
          rcases rr with ⟨q1, q2⟩ | ⟨q1, q2, q3⟩
          · rw [if_neg q1, rb S a, g_bds, q2]
          · rw [if_pos q1, q3 S a, g_bds, if_neg (by decide), q2]
      · obtain ⟨v, z10, z11⟩ := fits_both h r hn ok ⟨t0, g.2.1⟩ ⟨t2, g.2.2⟩ 5 0 FUEL FUEL 0 (by omega) (by omega) (by omega)
        obtain ⟨C', z10⟩ := z10 S (agQ.rfl S)
        refine ⟨v, C', ?_, fun a => ?_⟩
        · unfold f_X10_fits
          rw [e_isShelf10, g_bds, decide_eq_true ha, if_pos rfl, e_tm1, g_bds, decide_eq_true g, if_pos rfl, if_pos v6a, rc S (agQ.rfl S), g_bds, if_pos rfl]
          exact z10
        · obtain ⟨T', z11⟩ := z11 C' a
          refine ⟨T', ?_⟩
          unfold f_X11_fits
          rw [rb C' a, g_bds, if_neg (by decide +kernel), e_yn a1 (q_h4 h a), g_bds, q_4806 h a, decide_eq_true g, if_pos rfl, rb C' a, g_bds, if_pos (by decide +kernel), rg' C' a, g_bds, if_pos rfl]
          exact z11
    · refine ⟨-1, S, ?_, fun a => ⟨S, ?_⟩⟩
      · unfold f_X10_fits
        rw [e_isShelf10, g_bds, decide_eq_true ha, if_pos rfl, e_tm1, g_bds, decide_eq_false g, if_neg (by decide)]
      · unfold f_X11_fits
        obtain ⟨y, y0, ey⟩ := by_any ha S
        rw [ey, g_bds, if_neg y0, e_yn a1 (q_h4 h a), g_bds, q_4806 h a, decide_eq_false g, if_neg (by decide)]
  · refine ⟨-1, S, ?_, fun a => ⟨S, ?_⟩⟩
    · unfold f_X10_fits
      rw [e_isShelf10, g_bds, decide_eq_false ha, if_neg (by decide)]
    · unfold f_X11_fits
      rw [by_neg ha, g_bds, if_pos rfl]
theorem E_when (a0 : Int32) (a1 : Int32) (a2 : Int32) {S : z_Stt} (h : Inv S) : ∃ (v : Int32) (S1 S2 : z_Stt), f_X10_when FUEL a0 a1 a2 S = some (v, S1) ∧ f_X11_when FUEL a0 a1 a2 S1 = some (v, S2) ∧ Inv S2 := by
  have f61 : 61 < FUEL := by decide +kernel
  suffices z : ∃ v S1, f_X10_when FUEL a0 a1 a2 S = some (v, S1) ∧ (agQ S S1 → ∃ S2, f_X11_when FUEL a0 a1 a2 S1 = some (v, S2)) by
    obtain ⟨v, S1, z1, z2⟩ := z
    have a := fq_X10_when _ _ _ _ z1
    obtain ⟨S2, z3⟩ := z2 a
    exact ⟨v, S1, S2, z1, z3, (h.quiet a).quiet (fq_X11_when _ _ _ _ z3)⟩
  by_cases ha : 0 ≤ a0 ∧ a0 ≤ 5
  · have v6a : ¬ (a0 < 0 ∨ 6 ≤ a0.toNatClampNeg) := by rw [vp_6]; exact v6 ha
    by_cases g : 0 ≤ a1 ∧ a1 / 10 < S.1 101 ∧ a1 % 10 ≤ 1
    · obtain ⟨t0, -, t2, -⟩ := dvk (k := 10) g.1 (by decide +kernel)
      by_cases gw : 0 ≤ a2 ∧ a2 ≤ 4
      · rcases gr_both h ha with ⟨x, y, ⟨x0, y0⟩, rc, rb, rr⟩ | ⟨rc, rb, rg', n, p, r, hn, ok⟩
        · refine ⟨x, S, ?_, fun a => ⟨S, ?_⟩⟩
          · unfold f_X10_when f_X10_isWay
            rw [e_isShelf10, g_bds, decide_eq_true ha, if_pos rfl, e_tm1, g_bds, decide_eq_true g, if_pos rfl, e_within10, g_bds, g_bds, decide_eq_true gw, if_pos rfl, if_pos v6a, rc S (agQ.rfl S), g_bds, if_neg x0]
          · unfold f_X11_when
            rw [rb S a, g_bds, if_neg y0, e_yn a1 (q_h4 h a), g_bds, q_4806 h a, decide_eq_true g, if_pos rfl, e_w_0_4, g_bds, decide_eq_true gw, if_pos rfl, rb S a, g_bds]
            rcases rr with ⟨q1, q2⟩ | ⟨q1, q2, q3⟩
            · rw [if_neg q1, rb S a, g_bds, q2]
            · rw [if_pos q1, q3 S a, g_bds, if_neg (by decide), q2]
        · have n60 := r.2.1
          obtain ⟨o, z10, z11⟩ := fo_both h r hn ok ⟨t0, g.2.1⟩ ⟨t2, g.2.2⟩ gw p 0 FUEL FUEL (by omega) (by omega) (by omega)
          obtain ⟨C', z10⟩ := z10 S (agQ.rfl S)
          have z10' : f_X10_firstOtherwise FUEL (36 + 2 * a0.toNatClampNeg) a1 a2 S = some (o, C') := z10
          refine ⟨if 0 ≤ o then o else -2, C', ?_, fun a => ?_⟩
          · unfold f_X10_when f_X10_isWay
            rw [e_isShelf10, g_bds, decide_eq_true ha, if_pos rfl, e_tm1, g_bds, decide_eq_true g, if_pos rfl, e_within10, g_bds, g_bds, decide_eq_true gw, if_pos rfl, if_pos v6a, rc S (agQ.rfl S), g_bds, if_pos rfl, if_pos v6a, z10', g_bds]
            split <;> rfl
          · obtain ⟨T', z11⟩ := z11 C' a
            have z11' : f_X11_firstOther FUEL a0 a1 a2 C' = some (if 0 ≤ o then o else -2, T') := z11
            refine ⟨T', ?_⟩
            unfold f_X11_when
            rw [rb C' a, g_bds, if_neg (by decide +kernel), e_yn a1 (q_h4 h a), g_bds, q_4806 h a, decide_eq_true g, if_pos rfl, e_w_0_4, g_bds, decide_eq_true gw, if_pos rfl, rb C' a, g_bds, if_pos (by decide +kernel), rg' C' a, g_bds, if_pos rfl, z11', g_bds]
      · refine ⟨-1, S, ?_, fun a => ⟨S, ?_⟩⟩
        · unfold f_X10_when f_X10_isWay
          rw [e_isShelf10, g_bds, decide_eq_true ha, if_pos rfl, e_tm1, g_bds, decide_eq_true g, if_pos rfl, e_within10, g_bds, g_bds, decide_eq_false gw, if_neg (by decide)]
        · unfold f_X11_when
          obtain ⟨y, y0, ey⟩ := by_any ha S
          rw [ey, g_bds, if_neg y0, e_yn a1 (q_h4 h a), g_bds, q_4806 h a, decide_eq_true g, if_pos rfl, e_w_0_4, g_bds, decide_eq_false gw, if_neg (by decide)]
    · refine ⟨-1, S, ?_, fun a => ⟨S, ?_⟩⟩
      · unfold f_X10_when
        rw [e_isShelf10, g_bds, decide_eq_true ha, if_pos rfl, e_tm1, g_bds, decide_eq_false g, if_neg (by decide)]
      · unfold f_X11_when
        obtain ⟨y, y0, ey⟩ := by_any ha S
        rw [ey, g_bds, if_neg y0, e_yn a1 (q_h4 h a), g_bds, q_4806 h a, decide_eq_false g, if_neg (by decide)]
  · refine ⟨-1, S, ?_, fun a => ⟨S, ?_⟩⟩
    · unfold f_X10_when
      rw [e_isShelf10, g_bds, decide_eq_false ha, if_neg (by decide)]
    · unfold f_X11_when
      rw [by_neg ha, g_bds, if_pos rfl]
