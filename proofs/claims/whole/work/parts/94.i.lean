/-! THINGS: both loops -/
theorem sI_ne {S : z_Stt} {k n : Nat} {v : Int32} (h : ¬ n = k) : (sI S k v).1 n = S.1 n := if_neg h
theorem cS_N (S : z_Stt) (nu : Nat → Int32) (th : Int32) (d : Nat) : (cS S nu th).1 (100 * (36 + 2 * d) + 3) = shN S d := sI_ne (S := sA S 2 nu) (by omega)
theorem on_s2 (c : Nat) (h : c ≤ 2000) : Int32.ofNat c + 2 = Int32.ofNat (c + 2) := by
  have i1 : (2 : Int32).toInt = 2 := rfl
  rw [← Int32.toInt_inj, ti_add (by rw [on_ti (by omega), i1]; omega), on_ti (by omega), on_ti (by omega), i1]; omega
theorem t32_on {x : Int64} {q : Nat} (h : x.toInt = (q : Int)) (hq : q ≤ 2000) : x.toInt32 = Int32.ofNat q := by
  rw [← Int32.toInt_inj, Int64.toInt_toInt32, h, on_ti (by omega)]
  exact Int.bmod_eq_of_le (by omega) (by omega)
theorem t32_self {x : Int64} (h : -128 ≤ x ∧ x ≤ 127) : x = x.toInt32.toInt64 := by
  obtain ⟨h1, h2⟩ := h
  rw [Int64.le_iff_toInt_le] at h1 h2
  have c1 : (-128 : Int64).toInt = -128 := rfl
  have c2 : (127 : Int64).toInt = 127 := rfl
  rw [c1] at h1
  rw [c2] at h2
  rw [← Int64.toInt_inj, Int32.toInt_toInt64, Int64.toInt_toInt32]
  exact (Int.bmod_eq_of_le (by omega) (by omega)).symm
def elV (S : z_Stt) (d q : Nat) : Int32 := (shE S d q).toInt32
theorem pl_ti {i x : Int32} {k : Nat} (hx : x.toInt = (k : Int)) (hk : k ≤ 6) : (i.toInt64 + 3 * x.toInt64).toInt = i.toInt + 3 * k := by
  have i3 : (3 : Int64).toInt = 3 := rfl
  have a := i.toInt_lt
  have b := i.le_toInt
  have m : (3 * x.toInt64).toInt = 3 * k := by rw [tj_mul (by rw [i3, Int32.toInt_toInt64]; omega), i3, Int32.toInt_toInt64, hx]
  rw [tj_add (by rw [m, Int32.toInt_toInt64]; omega), m, Int32.toInt_toInt64]
theorem cf_full {S : z_Stt} {nu : Nat → Int32} {th : Int32} (d : Nat) (p : Int64) (h : 6 ≤ th) : f_X10_comesFrom (36 + 2 * d) p (cS S nu th) = some (false, cS S nu th) := by
  unfold f_X10_comesFrom
  rw [if_pos (show 6 ≤ (cS S nu th).1 101 from h)]
theorem cf_end {S : z_Stt} {nu : Nat → Int32} {th : Int32} (d : Nat) {p : Int64} (h : ¬ 6 ≤ th) (h2 : ¬ p.toInt + 2 < (shN S d).toInt) (h3 : p.toInt < 9223372036854775800) (h4 : 0 ≤ p.toInt) : f_X10_comesFrom (36 + 2 * d) p (cS S nu th) = some (false, cS S nu th) := by
  have i2 : (2 : Int64).toInt = 2 := rfl
  have n1 : ¬ lg_cmp p 0 < 0 := by rw [lg_cmp_lt, Int64.lt_iff_toInt_lt, z0_64]; omega
  have n2 : ¬ lg_cmp (p + 2) (shN S d).toInt64 < 0 := by rw [lg_cmp_lt, Int64.lt_iff_toInt_lt, tj_add (by rw [i2]; omega), i2, Int32.toInt_toInt64]; exact h2
  unfold f_X10_comesFrom
  rw [if_neg (show ¬ 6 ≤ (cS S nu th).1 101 from h), if_neg n1, cS_N, if_neg n2]
theorem cf_neg {S : z_Stt} {nu : Nat → Int32} {th : Int32} (d : Nat) {p : Int64} (h : ¬ 6 ≤ th) (h2 : p.toInt < 0) : f_X10_comesFrom (36 + 2 * d) p (cS S nu th) = some (false, cS S nu th) := by
  have n1 : lg_cmp p 0 < 0 := by rw [lg_cmp_lt, Int64.lt_iff_toInt_lt, z0_64]; omega
  unfold f_X10_comesFrom
  rw [if_neg (show ¬ 6 ≤ (cS S nu th).1 101 from h), if_pos n1]
def okT (S : z_Stt) (d q : Nat) : Prop := (0 ≤ elV S d q ∧ elV S d q ≤ 127) ∧ (0 ≤ elV S d (q + 1) ∧ elV S d (q + 1) ≤ 12) ∧ (0 ≤ elV S d (q + 2) ∧ elV S d (q + 2) ≤ 12)
theorem cf_at {S : z_Stt} {nu : Nat → Int32} {th : Int32} (d : Nat) {p : Int64} {q : Nat} (t6 : 0 ≤ th ∧ th < 6) (hp : p.toInt = (q : Int)) (h2 : (q : Int) + 2 < (shN S d).toInt) (hs : (shN S d).toInt ≤ 60) : (¬ okT S d q → f_X10_comesFrom (36 + 2 * d) p (cS S nu th) = some (false, cS S nu th)) ∧ (okT S d q → f_X10_comesFrom (36 + 2 * d) p (cS S nu th) = some (true, cS S (addV nu th.toNatClampNeg (elV S d q) (elV S d (q + 1)) (elV S d (q + 2)) 100) (th + 1))) := by
  have i2 : (2 : Int64).toInt = 2 := rfl
  have n0 : ¬ 6 ≤ th := Int32.not_le.mpr t6.2
  have n1 : ¬ lg_cmp p 0 < 0 := by rw [lg_cmp_lt, Int64.lt_iff_toInt_lt, z0_64]; omega
  have n2 : lg_cmp (p + 2) (shN S d).toInt64 < 0 := by rw [lg_cmp_lt, Int64.lt_iff_toInt_lt, tj_add (by rw [i2]; omega), i2, Int32.toInt_toInt64, hp]; exact h2
  have ep := t32_on hp (by omega)
  have at8 : ∀ r : Nat, r < 60 → f_X8_at (36 + 2 * d) (Int32.ofNat r) (cS S nu th) = some (shE S d r, cS S nu th) := by
    intro r hr
    have i60 : (60 : Int32).toInt = 60 := rfl
    have z := e_at8 (d := d) (S := cS S nu th) (a := Int32.ofNat r) ⟨on_p0 (by omega), by rw [Int32.lt_iff_toInt_lt, on_ti (by omega), i60]; omega⟩
    rw [on_tn (by omega)] at z
    exact z
  have u : f_X10_comesFrom (36 + 2 * d) p (cS S nu th) = g_bd (f_X10_within (elV S d q) 127 (cS S nu th)) fun v13 S14 => if v13 = true then g_bd (f_X10_within (elV S d (q + 1)) 12 S14) fun v17 S18 => if v17 = true then g_bd (f_X10_within (elV S d (q + 2)) 12 S18) fun v21 S22 => if v21 = true then g_bd (f_X9_come (elV S d q) (elV S d (q + 1)) (elV S d (q + 2)) 100 S22) fun _ S26 => some (true, S26) else some (false, S22) else some (false, S18) else some (false, S14) := by
    unfold f_X10_comesFrom
    rw [if_neg (show ¬ 6 ≤ (cS S nu th).1 101 from n0), if_neg n1, cS_N, if_pos n2, ep, at8 q (by omega), g_bds, on_s q (by omega), at8 (q + 1) (by omega), g_bds, on_s2 q (by omega), at8 (q + 2) (by omega), g_bds]
    rfl
  rw [u, e_within10, g_bds]
  by_cases c1 : 0 ≤ elV S d q ∧ elV S d q ≤ 127
  · rw [decide_eq_true c1, if_pos rfl, e_within10, g_bds]
    by_cases c2 : 0 ≤ elV S d (q + 1) ∧ elV S d (q + 1) ≤ 12
    · rw [decide_eq_true c2, if_pos rfl, e_within10, g_bds]
      by_cases c3 : 0 ≤ elV S d (q + 2) ∧ elV S d (q + 2) ≤ 12
      · rw [decide_eq_true c3, if_pos rfl, cS_come _ _ _ _ t6, g_bds]
        exact ⟨fun z => absurd ⟨c1, c2, c3⟩ z, fun _ => rfl⟩
      · rw [decide_eq_false c3, if_neg (by decide)]
        exact ⟨fun _ => rfl, fun z => absurd z.2.2 c3⟩
    · rw [decide_eq_false c2, if_neg (by decide)]
      exact ⟨fun _ => rfl, fun z => absurd z.2.1 c2⟩
  · rw [decide_eq_false c1, if_neg (by decide)]
    exact ⟨fun _ => rfl, fun z => absurd z.1 c1⟩
theorem rt_stop (n m : Nat) (x1 x2 x3 x4 : Int32) (U : z_Stt) : f_X11_things_110 n (f_X11_things_69 n (m + 1)) x1 x2 x3 x4 U = some (x4, U) := by
  rw [f_X11_things_110, f_X11_things_111, if_pos rfl, f_X11_things_190, f_X11_things_191, if_pos rfl, f_X11_things_235, f_X11_things_69, if_pos rfl]
theorem rt_stop2 (n m : Nat) (x1 x2 x3 x4 x6 : Int32) (U : z_Stt) : f_X11_things_190 n (f_X11_things_69 n (m + 1)) x1 x2 x3 x4 x6 U = some (x4, U) := by
  rw [f_X11_things_190, f_X11_things_191, if_pos rfl, f_X11_things_235, f_X11_things_69, if_pos rfl]
/-- what the reference's side holds -/
def rOk (S T : z_Stt) (a0 th0 : Int32) : Prop := T.2.2.1 67 a0.toNatClampNeg = shN S a0.toNatClampNeg ∧ (∀ q, q < 60 → T.2.2.2.1 68 (60 * a0.toNatClampNeg + q) = (elV S a0.toNatClampNeg q).toInt64) ∧ ∀ t : Nat, t < 6 → th0.toNatClampNeg ≤ t → T.2.2.1 53 t = 0 ∧ T.2.2.1 54 t = 0
theorem rt_at {n m : Nat} {S T : z_Stt} {a0 i x3 x4 th0 th : Int32} {nu : Nat → Int32} {q k : Nat} (ha : 0 ≤ a0 ∧ a0 ≤ 5) (r : rOk S T a0 th0) (hx : x4.toInt = (k : Int)) (hq : i.toInt + 3 * k = (q : Int)) (hi : 0 ≤ i.toInt) (h60 : q + 2 < 60) (t6 : 0 ≤ th ∧ th < 6) (w : wTold th nu) (h0 : 0 ≤ th0) (ht : th0 ≤ th) : (¬ okT S a0.toNatClampNeg q → f_X11_things_111 n (f_X11_things_69 n (m + 1)) a0 i x3 x4 1 (rS T nu th) = some (x4, rS T nu th)) ∧ (okT S a0.toNatClampNeg q → f_X11_things_111 n (f_X11_things_69 n (m + 1)) a0 i x3 x4 1 (rS T nu th) = f_X11_things_69 n (m + 1) a0 i x3 (x4 + 1) 1 (rS T (addV nu th.toNatClampNeg (elV S a0.toNatClampNeg q) (elV S a0.toNatClampNeg (q + 1)) (elV S a0.toNatClampNeg (q + 2)) 100) (th + 1))) := by
  have a5 := rg ha
  rw [z0_32, i_5] at a5
  have ta := tn ha.1
  have i3 : (3 : Int32).toInt = 3 := rfl
  have i60 : (60 : Int32).toInt = 60 := rfl
  have ex : 60 * a0 + i + 3 * x4 = Int32.ofNat (60 * a0.toNatClampNeg + q) := by
    refine on_eq ?_ (by omega)
    have m1 : (60 * a0).toInt = 60 * a0.toInt := by rw [ti_mul (by rw [i60]; omega), i60]
    have m2 : (3 * x4).toInt = 3 * k := by rw [ti_mul (by rw [i3, hx]; omega), i3, hx]
    have m3 : (60 * a0 + i).toInt = 60 * a0.toInt + i.toInt := by rw [ti_add (by rw [m1]; omega), m1]
    rw [ti_add (by rw [m2, m3]; omega), m2, m3]; omega
  have v : ∀ c : Nat, c < 360 → ¬ (Int32.ofNat c < 0 ∨ 360 ≤ (Int32.ofNat c).toNatClampNeg) := by
    intro c hc
    rw [vp_360]
    refine ⟨on_p0 (by omega), ?_⟩
    have i360 : (360 : Int32).toInt = 360 := rfl
    rw [Int32.lt_iff_toInt_lt, on_ti (by omega), i360]; omega
  have el : ∀ c : Nat, c < 60 → (rS T nu th).2.2.2.1 68 (Int32.ofNat (60 * a0.toNatClampNeg + c)).toNatClampNeg = (elV S a0.toNatClampNeg c).toInt64 := by
    intro c hc
    rw [on_tn (by omega)]
    exact r.2.1 c hc
  have z := r.2.2 th.toNatClampNeg (ix_l t6) (le_nat h0 ht)
  have c1' : ¬ (1 : Int32) = 0 := by decide +kernel
  have s1 : Int32.ofNat (60 * a0.toNatClampNeg + q) + 1 = Int32.ofNat (60 * a0.toNatClampNeg + (q + 1)) := on_s _ (by omega)
  have s2 : Int32.ofNat (60 * a0.toNatClampNeg + q) + 2 = Int32.ofNat (60 * a0.toNatClampNeg + (q + 2)) := on_s2 _ (by omega)
  have go : f_X11_things_191 n (f_X11_things_69 n (m + 1)) a0 i x3 x4 (Int32.ofNat (60 * a0.toNatClampNeg + q)) 1 (rS T nu th) = f_X11_things_69 n (m + 1) a0 i x3 (x4 + 1) 1 (rS T (addV nu th.toNatClampNeg (elV S a0.toNatClampNeg q) (elV S a0.toNatClampNeg (q + 1)) (elV S a0.toNatClampNeg (q + 2)) 100) (th + 1)) := by
    unfold f_X11_things_191
    rw [if_neg c1', if_pos (v _ (by omega)), s1, if_pos (v _ (by omega)), s2, if_pos (v _ (by omega)), el q (by omega), el (q + 1) (by omega), el (q + 2) (by omega), Int32.toInt32_toInt64, Int32.toInt32_toInt64, Int32.toInt32_toInt64, rS_adds _ _ _ _ t6 w z.1 z.2, g_bds, f_X11_things_235]
  unfold f_X11_things_111
  rw [if_neg c1', ex, if_pos (v _ (by omega)), el q (by omega), e_w_0_127, g_bds]
  by_cases c1 : 0 ≤ elV S a0.toNatClampNeg q ∧ elV S a0.toNatClampNeg q ≤ 127
  · rw [decide_eq_true c1, if_pos rfl, s1, if_pos (v _ (by omega)), el (q + 1) (by omega), e_w_0_12, g_bds]
    by_cases c2 : 0 ≤ elV S a0.toNatClampNeg (q + 1) ∧ elV S a0.toNatClampNeg (q + 1) ≤ 12
    · rw [decide_eq_true c2, if_pos rfl, s2, if_pos (v _ (by omega)), el (q + 2) (by omega), e_w_0_12, g_bds]
      by_cases c3 : 0 ≤ elV S a0.toNatClampNeg (q + 2) ∧ elV S a0.toNatClampNeg (q + 2) ≤ 12
      · rw [decide_eq_true c3, if_pos rfl]
        exact ⟨fun z => absurd ⟨c1, c2, c3⟩ z, fun _ => go⟩
      · rw [decide_eq_false c3, if_neg (by decide), rt_stop2]
        exact ⟨fun _ => rfl, fun z => absurd z.2.2 c3⟩
    · rw [decide_eq_false c2, if_neg (by decide), rt_stop2]
      exact ⟨fun _ => rfl, fun z => absurd z.2.1 c2⟩
  · rw [decide_eq_false c1, if_neg (by decide), rt_stop2]
    exact ⟨fun _ => rfl, fun z => absurd z.1 c1⟩
