/-! JUDGE -/
theorem on_lt {a b : Nat} (ha : a ≤ 2000) (hb : b ≤ 2000) : (Int32.ofNat a < Int32.ofNat b) = (a < b) := by
  rw [Int32.lt_iff_toInt_lt, on_ti (by omega), on_ti (by omega)]; exact propext (by omega)
theorem on_tri {k : Nat} (h : k ≤ 600) : 3 * Int32.ofNat k = Int32.ofNat (3 * k) := by
  have i3 : (3 : Int32).toInt = 3 := rfl
  refine on_eq ?_ (by omega)
  rw [ti_mul (by rw [i3, on_ti (by omega)]; omega), i3, on_ti (by omega)]; omega
theorem on_third {k : Nat} (h : k ≤ 600) : Int32.ofNat (3 * k) / 3 = Int32.ofNat k := by
  have i3 : (3 : Int32).toInt = 3 := rfl
  rw [← Int32.toInt_inj, Int32.toInt_div, on_ti (by omega), on_ti (by omega), i3, Int.tdiv_eq_ediv_of_nonneg (by omega)]
  have e : ((3 * k : Nat) : Int) / 3 = k := by omega
  rw [e]; exact Int.bmod_eq_of_le (by omega) (by omega)
theorem on_s3 (c : Nat) (h : c ≤ 2000) : Int32.ofNat c + 3 = Int32.ofNat (c + 3) := by
  have i1 : (3 : Int32).toInt = 3 := rfl
  rw [← Int32.toInt_inj, ti_add (by rw [on_ti (by omega), i1]; omega), on_ti (by omega), on_ti (by omega), i1]; omega
theorem o144_64 {S : z_Stt} (h : Inv S) {t : Int32} (r : Int32) (ht : 0 ≤ t ∧ t < 6) (c : 0 < opB S t r) : 144 * opN S t r / opB S t r = (o144 S t r).toInt64 := by
  have nb := opN_ok h r ht
  unfold o144
  rw [if_pos c]
  generalize opN S t r = nn at *
  generalize opB S t r = bb at *
  rw [i64lt] at c
  have i144 : (144 : Int64).toInt = 144 := rfl
  have m1 : (144 * nn).toInt = 144 * nn.toInt := by rw [tj_mul (by rw [i144]; omega), i144]
  have q : (144 * nn.toInt) / bb.toInt ≤ 144 * nn.toInt := Int.ediv_le_self _ (by omega)
  have q0 : 0 ≤ (144 * nn.toInt) / bb.toInt := Int.ediv_nonneg (by omega) (by omega)
  have e : (144 * nn / bb).toInt = (144 * nn.toInt) / bb.toInt := by
    rw [Int64.toInt_div, m1, Int.tdiv_eq_ediv_of_nonneg (by omega)]
    exact Int.bmod_eq_of_le (by omega) (by omega)
  rw [← Int64.toInt_inj, Int32.toInt_toInt64, Int64.toInt_toInt32, e]
  exact (Int.bmod_eq_of_le (by omega) (by omega)).symm
def soP (S : z_Stt) (t r x : Int32) : Prop := (0 ≤ t ∧ t < S.1 101) ∧ (0 ≤ r ∧ r ≤ 1) ∧ 0 < opB S t r ∧ o144 S t r = x
theorem so_10 {S : z_Stt} (h : Inv S) (t r x : Int32) : ∃ b : Bool, (b = true ↔ soP S t r x) ∧ ∀ C, agQ S C → ∃ C', f_X10_isSo FUEL t.toInt64 r.toInt64 x.toInt64 C = some (b, C') := by
  have f92 : 92 < FUEL := by decide +kernel
  have z64 : (0 : Int64) = (0 : Int32).toInt64 := rfl
  have o64 : (1 : Int64) = (1 : Int32).toInt64 := rfl
  have u : ∀ C, agQ S C → f_X10_isSo FUEL t.toInt64 r.toInt64 x.toInt64 C = if 0 ≤ t ∧ t < S.1 101 then (if r < 0 then some (false, C) else if r ≤ 1 then g_bd (f_X10_findOpen FUEL t r 17 C) fun v7 S8 => if v7 = true then g_bd (f_X4_of144 17 S8) fun v11 S12 => if v11 = x then some (true, S12) else some (false, S12) else some (false, S8) else some (false, C)) else some (false, C) := by
    intro C a
    unfold f_X10_isSo
    rw [Int32.toInt32_toInt64, Int32.toInt32_toInt64, e_isThing10, g_bds, q_101 a]
    have l1 : (lg_cmp r.toInt64 0 < 0) = (r < 0) := by rw [lg_cmp_lt, z64, t64_lt]
    have l2 : (lg_cmp r.toInt64 1 ≤ 0) = (r ≤ 1) := by rw [lg_cmp_le, o64, t64_le]
    have l3 : ∀ v : Int32, (lg_cmp v.toInt64 x.toInt64 = 0) = (v = x) := fun v => by rw [lg_cmp_eq, t64_eq]
    by_cases c : 0 ≤ t ∧ t < S.1 101
    · rw [decide_eq_true c, if_pos rfl, if_pos c]
      simp only [l1, l2, l3]
    · rw [decide_eq_false c, if_neg (by decide), if_neg c]
  by_cases c1 : 0 ≤ t ∧ t < S.1 101
  · by_cases c2 : r < 0
    · refine ⟨false, ⟨fun q => absurd q (by decide), fun q => absurd c2 (Int32.not_lt.mpr q.2.1.1)⟩, fun C a => ⟨C, ?_⟩⟩
      rw [u C a, if_pos c1, if_pos c2]
    · by_cases c3 : r ≤ 1
      · refine ⟨decide (0 < opB S t r ∧ o144 S t r = x), ⟨fun q => ?_, fun q => decide_eq_true ⟨q.2.2.1, q.2.2.2⟩⟩, fun C a => ?_⟩
        · have q := of_decide_eq_true q
          exact ⟨c1, ⟨Int32.not_lt.mp c2, c3⟩, q.1, q.2⟩
        · obtain ⟨C', x0, y0, f, e, a2, o, g1, g2⟩ := q_find (r := r) f92 h a c1
          refine ⟨C', ?_⟩
          rw [u C a, if_pos c1, if_neg c2, if_pos c3, f, g_bds]
          by_cases d : 0 < opB S t r
          · rw [decide_eq_true d, if_pos rfl, o, g_bds]
            by_cases w : o144 S t r = x
            · rw [if_pos w, decide_eq_true ⟨d, w⟩]
            · rw [if_neg w, decide_eq_false (fun q => w q.2)]
          · rw [decide_eq_false d, if_neg (by decide), decide_eq_false (fun q => d q.1)]
      · refine ⟨false, ⟨fun q => absurd q (by decide), fun q => absurd q.2.1.2 c3⟩, fun C a => ⟨C, ?_⟩⟩
        rw [u C a, if_pos c1, if_neg c2, if_neg c3]
  · refine ⟨false, ⟨fun q => absurd q (by decide), fun q => absurd q.1 c1⟩, fun C a => ⟨C, ?_⟩⟩
    rw [u C a, if_neg c1]
theorem so_11 {S T : z_Stt} (h : Inv S) (a : agQ S T) {a0 so : Int32} {n k : Nat} (rw_ : rowOf S a0 so n) (hk : 3 * k + 2 < n) {b : Bool} (hb : b = true ↔ soP S (elV S a0.toNatClampNeg (3 * k)) (elV S a0.toNatClampNeg (3 * k + 1)) (elV S a0.toNatClampNeg (3 * k + 2))) : ∃ T', f_X11_isSo a0 (Int32.ofNat k) T = some (b, T') := by
  have n60 := rw_.2.1
  have hd := d6 rw_.1
  have v6a : ¬ (a0 < 0 ∨ 6 ≤ a0.toNatClampNeg) := by rw [vp_6]; exact v6 rw_.1
  have rN : T.2.2.1 67 a0.toNatClampNeg = Int32.ofNat n := by rw [a.2.1 67 (by decide)]; exact rw_.2.2.2.2.1
  have x0 := ix_q rw_.1 (x := Int32.ofNat (3 * k)) (q := 3 * k) (on_ti (by omega)) (by omega)
  have x1 : Int32.ofNat (60 * a0.toNatClampNeg + 3 * k) + 1 = Int32.ofNat (60 * a0.toNatClampNeg + (3 * k + 1)) := on_s _ (by omega)
  have x2 : Int32.ofNat (60 * a0.toNatClampNeg + 3 * k) + 2 = Int32.ofNat (60 * a0.toNatClampNeg + (3 * k + 2)) := on_s2 _ (by omega)
  have i0 := it_q rw_ a (q := 3 * k) (by omega)
  have i1 := it_q rw_ a (q := 3 * k + 1) (by omega)
  have i2 := fun (U : z_Stt) (aU : agQ S U) => it_q rw_ aU (q := 3 * k + 2) (by omega)
  generalize elV S a0.toNatClampNeg (3 * k) = t at *
  generalize elV S a0.toNatClampNeg (3 * k + 1) = r at *
  generalize elV S a0.toNatClampNeg (3 * k + 2) = x at *
  have nope : ¬ soP S t r x → b = false := fun z => by
    cases b with
    | false => rfl
    | true => exact absurd (hb.mp rfl) z
  unfold f_X11_isSo
  rw [if_pos v6a, rN, on_tri (by omega), on_s2 _ (by omega), if_pos (by rw [on_lt (by omega) (by omega)]; exact hk), x0, x1, x2, if_pos (v360 (by omega)), i0, e_isThing11 _ (q_h4 h a), g_bds, q_4806 h a]
  by_cases c1 : 0 ≤ t ∧ t < S.1 101
  · have t6 : 0 ≤ t ∧ t < 6 := ⟨c1.1, lt_of6 c1.2 h.1.1.1.2⟩
    rw [decide_eq_true c1, if_pos rfl, if_pos (v360 (by omega)), i1, e_w_0_1, g_bds]
    by_cases c2 : 0 ≤ r ∧ r ≤ 1
    · have k := q_ask h a r t6
      have a2 := a.trans (fq_X11_asksOpen _ _ _ k)
      rw [decide_eq_true c2, if_pos rfl, if_pos (v360 (by omega)), if_pos (v360 (by omega)), i0, i1, Int32.toInt32_toInt64, Int32.toInt32_toInt64, k, g_bds]
      by_cases c3 : opB S t r ≤ 0
      · rw [decide_eq_false (fun z => z c3), if_neg (by decide), nope (fun z => absurd c3 (Int64.not_le.mpr z.2.2.1))]
        exact ⟨_, rfl⟩
      · rw [decide_eq_true c3, if_pos rfl, rJa, rJb, if_pos (fun q => c3 (by rw [q]; decide +kernel)), if_pos (v360 (by omega)), i2 _ a2, o144_64 h r t6 (Int64.not_le.mp c3)]
        by_cases c4 : o144 S t r = x
        · rw [if_pos (by rw [lg_cmp_eq, t64_eq]; exact c4), hb.mpr ⟨c1, c2, Int64.not_le.mp c3, c4⟩]
          exact ⟨_, rfl⟩
        · rw [if_neg (by rw [lg_cmp_eq, t64_eq]; exact c4), nope (fun z => c4 z.2.2.2)]
          exact ⟨_, rfl⟩
    · rw [decide_eq_false c2, if_neg (by decide), nope (fun z => c2 z.2.1)]
      exact ⟨_, rfl⟩
  · rw [decide_eq_false c1, if_neg (by decide), nope (fun z => c1 z.1)]
    exact ⟨_, rfl⟩
theorem so_end {S T : z_Stt} (a : agQ S T) {a0 so : Int32} {n k : Nat} (r : rowOf S a0 so n) (hk : ¬ 3 * k + 2 < n) (hk2 : k ≤ 100) : f_X11_isSo a0 (Int32.ofNat k) T = some (false, T) := by
  have n60 := r.2.1
  have v6a : ¬ (a0 < 0 ∨ 6 ≤ a0.toNatClampNeg) := by rw [vp_6]; exact v6 r.1
  have rN : T.2.2.1 67 a0.toNatClampNeg = Int32.ofNat n := by rw [a.2.1 67 (by decide)]; exact r.2.2.2.2.1
  unfold f_X11_isSo
  rw [if_pos v6a, rN, on_tri (by omega), on_s2 _ (by omega), if_neg (by rw [on_lt (by omega) (by omega)]; exact hk)]
theorem jd_both {S : z_Stt} (h : Inv S) {a0 so : Int32} {n : Nat} (r : rowOf S a0 so n) : ∀ (j k m m' : Nat), k + j = 61 → j < m → j < m' → ∃ v : Int32, (∀ C, agQ S C → ∃ C', f_X10_judge_31 FUEL m (36 + 2 * a0.toNatClampNeg) (Int32.ofNat (3 * k)) C = some (v, C')) ∧ ∀ T, agQ S T → ∃ T', f_X11_judge_37 FUEL m' a0 (Int32.ofNat k) T = some (v, T') := by
  intro j
  have n60 := r.2.1
  have hd := d6 r.1
  have v6a : ¬ (a0 < 0 ∨ 6 ≤ a0.toNatClampNeg) := by rw [vp_6]; exact v6 r.1
  have eN : ∀ C, agQ S C → C.1 (100 * (36 + 2 * a0.toNatClampNeg) + 3) = Int32.ofNat n := fun C a => (q_sh a hd (by decide)).trans r.2.2.1
  have rN : ∀ T, agQ S T → T.2.2.1 67 a0.toNatClampNeg = Int32.ofNat n := fun T a => by rw [a.2.1 67 (by decide)]; exact r.2.2.2.2.1
  have done : ∀ k m m', k ≤ 61 → 0 < m → 0 < m' → n ≤ 3 * k → ∃ v : Int32, (∀ C, agQ S C → ∃ C', f_X10_judge_31 FUEL m (36 + 2 * a0.toNatClampNeg) (Int32.ofNat (3 * k)) C = some (v, C')) ∧ ∀ T, agQ S T → ∃ T', f_X11_judge_37 FUEL m' a0 (Int32.ofNat k) T = some (v, T') := by
    intro k m m' hk hm hm' hn
    obtain ⟨m, rfl⟩ : ∃ q, m = q + 1 := ⟨m - 1, by omega⟩
    obtain ⟨m', rfl⟩ : ∃ q, m' = q + 1 := ⟨m' - 1, by omega⟩
    refine ⟨-2, fun C a => ⟨C, ?_⟩, fun T a => ⟨T, ?_⟩⟩
    · rw [f_X10_judge_31, eN C a, if_pos (by rw [on_le (by omega) (by omega)]; exact hn)]
    · rw [f_X11_judge_37, if_pos v6a, rN T a, on_tri (by omega), if_pos (by rw [on_le (by omega) (by omega)]; exact hn)]
  induction j with
  | zero => intro k m m' hk hm hm'; exact done k m m' (by omega) (by omega) (by omega) (by omega)
  | succ j ih =>
    intro k m m' hk hm hm'
    by_cases hn : n ≤ 3 * k
    · exact done k m m' (by omega) (by omega) (by omega) hn
    · obtain ⟨m, rfl⟩ : ∃ q, m = q + 1 := ⟨m - 1, by omega⟩
      obtain ⟨m', rfl⟩ : ∃ q, m' = q + 1 := ⟨m' - 1, by omega⟩
      have c1 : ¬ Int32.ofNat n ≤ Int32.ofNat (3 * k) := by rw [on_le (by omega) (by omega)]; exact hn
      by_cases c2 : 3 * k + 2 < n
      · obtain ⟨b, hb, b10⟩ := so_10 h (elV S a0.toNatClampNeg (3 * k)) (elV S a0.toNatClampNeg (3 * k + 1)) (elV S a0.toNatClampNeg (3 * k + 2))
        obtain ⟨v, i10, i11⟩ := ih (k + 1) m m' (by omega) (by omega) (by omega)
        have c10 : ∀ C, agQ S C → ∃ C', agQ S C' ∧ f_X10_judge_31 FUEL (m + 1) (36 + 2 * a0.toNatClampNeg) (Int32.ofNat (3 * k)) C = if b = true then f_X10_judge_31 FUEL m (36 + 2 * a0.toNatClampNeg) (Int32.ofNat (3 * k) + 3) C' else f_X10_judge_80 FUEL (Int32.ofNat (3 * k)) C' := by
          intro C a
          obtain ⟨C', e⟩ := b10 C a
          refine ⟨C', a.trans (fq_X10_isSo _ _ _ _ e), ?_⟩
          rw [f_X10_judge_31, eN C a, if_neg c1, on_s2 _ (by omega), if_neg (by rw [on_le (by omega) (by omega)]; omega), at_q r a (by omega), g_bds, on_s _ (by omega), at_q r a (by omega), g_bds, at_q r a (by omega), g_bds, e, g_bds]
        have c11 : ∀ T, agQ S T → ∃ T', agQ S T' ∧ f_X11_judge_37 FUEL (m' + 1) a0 (Int32.ofNat k) T = if b = true then f_X11_judge_37 FUEL m' a0 (Int32.ofNat k + 1) T' else some (Int32.ofNat k, T') := by
          intro T a
          obtain ⟨T', e⟩ := so_11 h a r c2 hb
          refine ⟨T', a.trans (fq_X11_isSo _ _ _ e), ?_⟩
          rw [f_X11_judge_37, if_pos v6a, rN T a, on_tri (by omega), if_neg c1, e, g_bds]
        cases b with
        | true =>
          refine ⟨v, fun C a => ?_, fun T a => ?_⟩
          · obtain ⟨C', a', e⟩ := c10 C a
            obtain ⟨C2, z⟩ := i10 C' a'
            refine ⟨C2, ?_⟩
            rw [e, if_pos rfl, on_s3 _ (by omega)]
            exact z
          · obtain ⟨T', a', e⟩ := c11 T a
            obtain ⟨T2, z⟩ := i11 T' a'
            refine ⟨T2, ?_⟩
            rw [e, if_pos rfl, on_s _ (by omega)]
            exact z
        | false =>
          refine ⟨Int32.ofNat k, fun C a => ?_, fun T a => ?_⟩
          · obtain ⟨C', a', e⟩ := c10 C a
            refine ⟨C', ?_⟩
            rw [e, if_neg (by decide), f_X10_judge_80, on_third (by omega)]
          · obtain ⟨T', a', e⟩ := c11 T a
            refine ⟨T', ?_⟩
            rw [e, if_neg (by decide)]
      · refine ⟨Int32.ofNat k, fun C a => ⟨C, ?_⟩, fun T a => ⟨T, ?_⟩⟩
        · rw [f_X10_judge_31, eN C a, if_neg c1, on_s2 _ (by omega), if_pos (by rw [on_le (by omega) (by omega)]; omega), f_X10_judge_80, on_third (by omega)]
        · rw [f_X11_judge_37, if_pos v6a, rN T a, on_tri (by omega), if_neg c1, so_end a r c2 (by omega), g_bds, if_neg (by decide)]
theorem E_judge (a0 : Int32) {S : z_Stt} (h : Inv S) : ∃ (v : Int32) (S1 S2 : z_Stt), f_X10_judge FUEL a0 S = some (v, S1) ∧ f_X11_judge FUEL a0 S1 = some (v, S2) ∧ Inv S2 := by
  have f61 : 62 < FUEL := by decide +kernel
  suffices z : ∃ v S1, f_X10_judge FUEL a0 S = some (v, S1) ∧ (agQ S S1 → ∃ S2, f_X11_judge FUEL a0 S1 = some (v, S2)) by
    obtain ⟨v, S1, z1, z2⟩ := z
    have a := fq_X10_judge _ _ z1
    obtain ⟨S2, z3⟩ := z2 a
    exact ⟨v, S1, S2, z1, z3, (h.quiet a).quiet (fq_X11_judge _ _ z3)⟩
  by_cases ha : 0 ≤ a0 ∧ a0 ≤ 5
  · have v6a : ¬ (a0 < 0 ∨ 6 ≤ a0.toNatClampNeg) := by rw [vp_6]; exact v6 ha
    have e66 : ∀ T, agQ S T → T.2.2.1 66 = S.2.2.1 66 := fun T a => a.2.1 66 (by decide)
    rcases sh_cls h ha (Or.inr rfl) with ⟨r, m⟩ | ⟨r, m, m2⟩ | ⟨n, r, rf⟩
    · refine ⟨-11, S, ?_, fun a => ⟨S, ?_⟩⟩
      · unfold f_X10_judge
        rw [e_isShelf10, g_bds, decide_eq_true ha, if_pos rfl, if_pos v6a, r S (agQ.rfl S), g_bds, if_neg (by decide +kernel)]
      · unfold f_X11_judge
        rw [e_isShelf11, g_bds, decide_eq_true ha, if_pos rfl, if_pos v6a, if_neg (Int32.not_le.mpr m)]
    · have e51 : (50 : Int32) + 1 = 51 := rfl
      rw [e51] at m2
      refine ⟨-12, S, ?_, fun a => ⟨S, ?_⟩⟩
      · unfold f_X10_judge
        rw [e_isShelf10, g_bds, decide_eq_true ha, if_pos rfl, if_pos v6a, r S (agQ.rfl S), g_bds, if_neg (by decide +kernel)]
      · unfold f_X11_judge
        rw [e_isShelf11, g_bds, decide_eq_true ha, if_pos rfl, if_pos v6a, if_pos m, if_pos v6a, if_neg m2]
    · obtain ⟨v, z10, z11⟩ := jd_both h r 61 0 FUEL FUEL (by omega) (by omega) (by omega)
      obtain ⟨C', z10⟩ := z10 S (agQ.rfl S)
      have e51 : S.2.2.1 66 a0.toNatClampNeg = 51 := r.2.2.2.1
      refine ⟨v, C', ?_, fun a => ?_⟩
      · unfold f_X10_judge
        rw [e_isShelf10, g_bds, decide_eq_true ha, if_pos rfl, if_pos v6a, rf S (agQ.rfl S), g_bds, if_pos rfl]
        exact z10
      · obtain ⟨T', z11⟩ := z11 C' a
        refine ⟨T', ?_⟩
        unfold f_X11_judge
        rw [e_isShelf11, g_bds, decide_eq_true ha, if_pos rfl, if_pos v6a, e66 C' a, e51, if_pos (by decide +kernel), if_pos v6a, if_pos rfl]
        exact z11
  · refine ⟨-1, S, ?_, fun a => ⟨S, ?_⟩⟩
    · unfold f_X10_judge
      rw [e_isShelf10, g_bds, decide_eq_false ha, if_neg (by decide)]
    · unfold f_X11_judge
      rw [e_isShelf11, g_bds, decide_eq_false ha, if_neg (by decide)]
