/-! GRAVEL: what is read -/
theorem q_sh {S T : z_Stt} (a : agQ S T) {d n : Nat} (hd : d < 6) (hn : n < 100) : T.1 (100 * (36 + 2 * d) + n) = S.1 (100 * (36 + 2 * d) + n) := a.1 _ (scI_sh (by omega) (by omega))
theorem q_el {S T : z_Stt} (a : agQ S T) {d : Nat} (hd : d < 6) : shE T d = shE S d := a.2.2.1 _ (scE_sh (by omega) (by omega))
/-- a shelf with a row of a sort, of n elements that fit an int -/
def rowOf (S : z_Stt) (a0 so : Int32) (n : Nat) : Prop := (0 ≤ a0 ∧ a0 ≤ 5) ∧ n ≤ 60 ∧ shN S a0.toNatClampNeg = Int32.ofNat n ∧ S.2.2.1 66 a0.toNatClampNeg = 50 + so ∧ S.2.2.1 67 a0.toNatClampNeg = Int32.ofNat n ∧ (∀ q, q < 60 → shE S a0.toNatClampNeg q = (elV S a0.toNatClampNeg q).toInt64) ∧ ∀ q, q < 60 → S.2.2.2.1 68 (60 * a0.toNatClampNeg + q) = (elV S a0.toNatClampNeg q).toInt64
theorem at_q {S T : z_Stt} {a0 so : Int32} {n : Nat} (r : rowOf S a0 so n) (a : agQ S T) {q : Nat} (hq : q < 60) : f_X8_at (36 + 2 * a0.toNatClampNeg) (Int32.ofNat q) T = some ((elV S a0.toNatClampNeg q).toInt64, T) := by
  have i60 : (60 : Int32).toInt = 60 := rfl
  rw [e_at8 ⟨on_p0 (by omega), by rw [Int32.lt_iff_toInt_lt, on_ti (by omega), i60]; omega⟩, on_tn (by omega), q_el a (d6 r.1), r.2.2.2.2.2.1 q hq]
theorem it_q {S T : z_Stt} {a0 so : Int32} {n : Nat} (r : rowOf S a0 so n) (a : agQ S T) {q : Nat} (hq : q < 60) : T.2.2.2.1 68 (Int32.ofNat (60 * a0.toNatClampNeg + q)).toNatClampNeg = (elV S a0.toNatClampNeg q).toInt64 := by
  have := d6 r.1
  rw [on_tn (by omega), a.2.2.1 68 (by decide), r.2.2.2.2.2.2 q hq]
theorem ix_q {a0 : Int32} (ha : 0 ≤ a0 ∧ a0 ≤ 5) {x : Int32} {q : Nat} (hx : x.toInt = (q : Int)) (hq : q < 200) : 60 * a0 + x = Int32.ofNat (60 * a0.toNatClampNeg + q) := by
  have a5 := rg ha
  rw [z0_32, i_5] at a5
  have ta := tn ha.1
  have i60 : (60 : Int32).toInt = 60 := rfl
  refine on_eq ?_ (by omega)
  have m1 : (60 * a0).toInt = 60 * a0.toInt := by rw [ti_mul (by rw [i60]; omega), i60]
  rw [ti_add (by rw [m1]; omega), m1, hx]; omega
theorem v360 {c : Nat} (hc : c < 360) : ¬ (Int32.ofNat c < 0 ∨ 360 ≤ (Int32.ofNat c).toNatClampNeg) := by
  rw [vp_360]
  refine ⟨on_p0 (by omega), ?_⟩
  have i360 : (360 : Int32).toInt = 360 := rfl
  rw [Int32.lt_iff_toInt_lt, on_ti (by omega), i360]; omega
theorem on_m2 {i : Nat} (h : i ≤ 2000) : (Int32.ofNat i % 2 = 0) = (i % 2 = 0) := by
  have i2 : (2 : Int32).toInt = 2 := rfl
  rw [← Int32.toInt_inj, Int32.toInt_mod, on_ti (by omega), i2, z0_32, Int.tmod_eq_emod_of_nonneg (by omega)]
  exact propext (by omega)
def mxG (i : Nat) : Int32 := if i % 2 = 0 then 1 else 99
def okG (S : z_Stt) (a0 : Int32) (i : Nat) : Prop := 0 ≤ elV S a0.toNatClampNeg i ∧ elV S a0.toNatClampNeg i ≤ mxG i
theorem gr_c {S T : z_Stt} {a0 so : Int32} {n : Nat} (r : rowOf S a0 so n) (a : agQ S T) (N : Nat) : ∀ (j i m : Nat), i + j = n → j < m → ((∀ k, i ≤ k → k < n → okG S a0 k) → f_X10_gravelRefusal_26 N m (36 + 2 * a0.toNatClampNeg) (Int32.ofNat i) T = some (0, T)) ∧ (¬ (∀ k, i ≤ k → k < n → okG S a0 k) → f_X10_gravelRefusal_26 N m (36 + 2 * a0.toNatClampNeg) (Int32.ofNat i) T = some (-5, T)) := by
  intro j
  have hn := r.2.1
  have eN : T.1 (100 * (36 + 2 * a0.toNatClampNeg) + 3) = Int32.ofNat n := (q_sh a (d6 r.1) (by decide)).trans r.2.2.1
  induction j with
  | zero =>
    intro i m hi hm
    obtain ⟨m, rfl⟩ : ∃ q, m = q + 1 := ⟨m - 1, by omega⟩
    refine ⟨fun _ => ?_, fun z => absurd (fun k h1 h2 => by omega) z⟩
    rw [f_X10_gravelRefusal_26, eN, if_pos (by rw [on_le (by omega) (by omega)]; omega)]
  | succ j ih =>
    intro i m hi hm
    obtain ⟨m, rfl⟩ : ∃ q, m = q + 1 := ⟨m - 1, by omega⟩
    obtain ⟨y1, y2⟩ := ih (i + 1) m (by omega) (by omega)
    have at1 := at_q r a (q := i) (by omega)
    have z64 : (0 : Int64) = (0 : Int32).toInt64 := rfl
    have c0 : ¬ Int32.ofNat n ≤ Int32.ofNat i := by rw [on_le (by omega) (by omega)]; omega
    by_cases l : elV S a0.toNatClampNeg i < 0
    · have nok : ¬ okG S a0 i := fun z => absurd z.1 (Int32.not_le.mpr l)
      refine ⟨fun z => absurd (z i (Nat.le_refl _) (by omega)) nok, fun _ => ?_⟩
      rw [f_X10_gravelRefusal_26, eN, if_neg c0, at1, g_bds, if_pos (by rw [lg_cmp_lt, z64, t64_lt]; exact l)]
    · have e : f_X10_gravelRefusal_26 N (m + 1) (36 + 2 * a0.toNatClampNeg) (Int32.ofNat i) T = f_X10_gravelRefusal_61 N (f_X10_gravelRefusal_26 N m) (36 + 2 * a0.toNatClampNeg) (Int32.ofNat i) (mxG i) (elV S a0.toNatClampNeg i).toInt64 T := by
        rw [f_X10_gravelRefusal_26, eN, if_neg c0, at1, g_bds, if_neg (by rw [lg_cmp_lt, z64, t64_lt]; exact l), at1, g_bds]
        unfold mxG
        by_cases c2 : i % 2 = 0
        · rw [if_pos (by rw [on_m2 (by omega)]; exact c2), if_pos c2]
        · rw [if_neg (by rw [on_m2 (by omega)]; exact c2), if_neg c2]
      rw [e]
      unfold f_X10_gravelRefusal_61
      by_cases c : elV S a0.toNatClampNeg i ≤ mxG i
      · have ok : okG S a0 i := ⟨Int32.not_lt.mp l, c⟩
        rw [if_pos (by rw [lg_cmp_le, t64_le]; exact c), on_s i (by omega)]
        refine ⟨fun z => y1 (fun k h1 h2 => z k (by omega) h2), fun z => y2 (fun w => z (fun k h1 h2 => ?_))⟩
        by_cases e : k = i
        · rw [e]; exact ok
        · exact w k (by omega) h2
      · rw [if_neg (by rw [lg_cmp_le, t64_le]; exact c)]
        exact ⟨fun z => absurd (z i (Nat.le_refl _) (by omega)).2 c, fun _ => rfl⟩
theorem gr_r {S T : z_Stt} {a0 so : Int32} {n : Nat} (r : rowOf S a0 so n) (a : agQ S T) (N : Nat) : ∀ (j i m : Nat), i + j = n → j < m → ((n % 2 = 0 ∧ ∀ k, i ≤ k → k < n → okG S a0 k) → f_X11_isGravel_2 N m a0 (Int32.ofNat i) T = some (true, T)) ∧ (¬ (n % 2 = 0 ∧ ∀ k, i ≤ k → k < n → okG S a0 k) → f_X11_isGravel_2 N m a0 (Int32.ofNat i) T = some (false, T)) := by
  intro j
  have hn := r.2.1
  have hd := d6 r.1
  have v6a : ¬ (a0 < 0 ∨ 6 ≤ a0.toNatClampNeg) := by rw [vp_6]; exact v6 r.1
  have eN : T.2.2.1 67 a0.toNatClampNeg = Int32.ofNat n := by rw [a.2.1 67 (by decide)]; exact r.2.2.2.2.1
  induction j with
  | zero =>
    intro i m hi hm
    obtain ⟨m, rfl⟩ : ∃ q, m = q + 1 := ⟨m - 1, by omega⟩
    rw [f_X11_isGravel_2, if_pos v6a, eN, if_pos (by rw [on_le (by omega) (by omega)]; omega), if_pos v6a]
    refine ⟨fun z => ?_, fun z => ?_⟩
    · rw [if_pos (by rw [on_m2 (by omega)]; exact z.1)]
    · rw [if_neg (by rw [on_m2 (by omega)]; exact fun w => z ⟨w, fun k h1 h2 => by omega⟩)]
  | succ j ih =>
    intro i m hi hm
    obtain ⟨m, rfl⟩ : ∃ q, m = q + 1 := ⟨m - 1, by omega⟩
    obtain ⟨y1, y2⟩ := ih (i + 1) m (by omega) (by omega)
    have ex := ix_q r.1 (x := Int32.ofNat i) (q := i) (on_ti (by omega)) (by omega)
    have w : ∀ M : Int32, f_X11_within (elV S a0.toNatClampNeg i).toInt64 0 M.toInt64 T = some (decide (0 ≤ elV S a0.toNatClampNeg i ∧ elV S a0.toNatClampNeg i ≤ M), T) := fun M => e_within11 (l := 0) (h := M) rfl rfl T
    have c0 : ¬ Int32.ofNat n ≤ Int32.ofNat i := by rw [on_le (by omega) (by omega)]; omega
    have e : f_X11_isGravel_2 N (m + 1) a0 (Int32.ofNat i) T = f_X11_isGravel_39 N (f_X11_isGravel_2 N m) a0 (Int32.ofNat i) (mxG i).toInt64 0 (elV S a0.toNatClampNeg i).toInt64 T := by
      rw [f_X11_isGravel_2, if_pos v6a, eN, if_neg c0, ex, if_pos (v360 (by omega)), it_q r a (by omega)]
      unfold mxG
      by_cases c2 : i % 2 = 0
      · rw [if_pos (by rw [on_m2 (by omega)]; exact c2), if_pos c2]; rfl
      · rw [if_neg (by rw [on_m2 (by omega)]; exact c2), if_neg c2]; rfl
    rw [e]
    unfold f_X11_isGravel_39
    rw [w, g_bds]
    by_cases ok : okG S a0 i
    · rw [decide_eq_true (show 0 ≤ elV S a0.toNatClampNeg i ∧ elV S a0.toNatClampNeg i ≤ mxG i from ok), if_pos rfl, on_s i (by omega)]
      refine ⟨fun z => y1 ⟨z.1, fun k h1 h2 => z.2 k (by omega) h2⟩, fun z => y2 (fun w => z ⟨w.1, fun k h1 h2 => ?_⟩)⟩
      by_cases e : k = i
      · rw [e]; exact ok
      · exact w.2 k (by omega) h2
    · rw [decide_eq_false (show ¬ (0 ≤ elV S a0.toNatClampNeg i ∧ elV S a0.toNatClampNeg i ≤ mxG i) from ok), if_neg (by decide)]
      exact ⟨fun z => absurd (z.2 i (Nat.le_refl _) (by omega)) ok, fun _ => rfl⟩
