/-! TOLD: places, numbers, marks -/
theorem z0_32 : (0 : Int32).toInt = 0 := rfl
theorem dv_of {a k : Int32} (h0 : 0 ≤ a) (hk : 0 < k) : (a / k).toInt = a.toInt / k.toInt ∧ (a % k).toInt = a.toInt % k.toInt := by
  rw [Int32.le_iff_toInt_le, z0_32] at h0
  rw [Int32.lt_iff_toInt_lt, z0_32] at hk
  constructor
  · rw [Int32.toInt_div_of_ne_right a k (by intro e; subst e; exact absurd hk (by decide +kernel)), Int.tdiv_eq_ediv_of_nonneg h0]
  · rw [Int32.toInt_mod, Int.tmod_eq_emod_of_nonneg h0]
theorem dvk {a k : Int32} (h0 : 0 ≤ a) (hk : 0 < k) : 0 ≤ a / k ∧ a / k ≤ a ∧ 0 ≤ a % k ∧ a % k < k := by
  obtain ⟨e1, e2⟩ := dv_of h0 hk
  have h0' := h0
  have hk' := hk
  rw [Int32.le_iff_toInt_le, z0_32] at h0'
  rw [Int32.lt_iff_toInt_lt, z0_32] at hk'
  simp only [Int32.le_iff_toInt_le, Int32.lt_iff_toInt_lt, e1, e2, z0_32]
  exact ⟨Int.ediv_nonneg h0' (by omega), Int.ediv_le_self _ h0', Int.emod_nonneg _ (by omega), Int.emod_lt_of_pos _ hk'⟩
theorem tn {a : Int32} (h0 : 0 ≤ a) : (a.toNatClampNeg : Int) = a.toInt := by
  rw [Int32.le_iff_toInt_le, z0_32] at h0
  have q : a.toNatClampNeg = a.toInt.toNat := rfl
  omega
theorem nlt {a K : Int32} {k : Nat} (h0 : 0 ≤ a) (e : K.toInt = (k : Int)) : (a.toNatClampNeg < k) = (a < K) := by
  have := tn h0
  rw [Int32.lt_iff_toInt_lt, e]
  exact propext (by omega)
theorem mostAt_of {a : Int32} (h0 : 0 ≤ a) : mostAt a.toNatClampNeg = if a < 6 then 144 else if a < 18 then 12 else if a < 24 then 999 else if a < 30 then 1 else if a < 36 then 5 else 99 := by
  unfold mostAt
  simp only [nlt h0 (k := 6) (K := 6) rfl, nlt h0 (k := 18) (K := 18) rfl, nlt h0 (k := 24) (K := 24) rfl, nlt h0 (k := 30) (K := 30) rfl, nlt h0 (k := 36) (K := 36) rfl]
theorem e_within5 (a : Int32) (S : z_Stt) : f_X11_isRoom a.toInt64 S = some (decide (0 ≤ a ∧ a ≤ 5), S) := by
  simp only [f_X11_isRoom, e_w_0_5, g_bd]
theorem e_isThing10 (a : Int32) (S : z_Stt) : f_X10_isThing a S = some (decide (0 ≤ a ∧ a < S.1 101), S) := by
  unfold f_X10_isThing; grind
theorem e_isThing11 (a : Int32) {S : z_Stt} (h1 : 0 ≤ S.1 4806) : f_X11_isThing a.toInt64 S = some (decide (0 ≤ a ∧ a < S.1 4806), S) := by
  unfold f_X11_isThing
  rw [e_within11 (l := 0) (h := S.1 4806 - 1) (by decide +kernel) rfl]
  have : (0 ≤ a ∧ a ≤ S.1 4806 - 1) = (0 ≤ a ∧ a < S.1 4806) := propext (by constructor <;> (intro q; constructor <;> lia))
  simp only [g_bd, this]
def wayV (a b : Int32) : Int32 := if b < a then 39 + 6 * b + a else 39 + 6 * a + b
def placeV (th a b : Int32) : Int32 := if a < 0 ∨ b < 0 ∨ 9 < b then -1 else if b ≤ 5 then (if th ≤ a then -1 else 6 * b + a) else if b = 9 then (if 6 ≤ a / 10 ∨ 6 ≤ a % 10 ∨ a / 10 = a % 10 then -1 else wayV (a / 10) (a % 10)) else if a = 0 then 36 + b - 6 else -1
theorem e_between (a b : Int32) (S : z_Stt) : f_X9_between a b S = some (wayV a b, S) := by
  unfold f_X9_between wayV; grind
theorem e_wayAt (a b : Int32) (S : z_Stt) : f_X11_wayAt a b S = some (wayV a b, S) := by
  unfold f_X11_wayAt wayV; grind
theorem e_placeOf9 (a b : Int32) (S : z_Stt) : f_X9_placeOf a b S = some (placeV (S.1 101) a b, S) := by
  simp only [f_X9_placeOf, e_between, g_bd, placeV]; grind
theorem e_isTwo (a : Int32) (S : z_Stt) : f_X11_isTwo a S = some (decide (0 ≤ a ∧ a / 10 < 6 ∧ a % 10 < 6 ∧ ¬ a / 10 = a % 10), S) := by
  unfold f_X11_isTwo
  by_cases h : a < 0
  · rw [if_pos h, decide_eq_false (by lia)]
  · have := dvk (a := a) (k := 10) (by lia) (by decide +kernel)
    simp only [if_neg h, e_within5, g_bd, decide_eq_true_eq]
    repeat' split
    all_goals first | rw [decide_eq_true (by grind)] | rw [decide_eq_false (by grind)]
theorem e_placeOf11 (a b : Int32) {S : z_Stt} (h1 : S.1 4806 = S.1 101) (h2 : 0 ≤ S.1 101) : f_X11_placeOf a b S = some (placeV (S.1 101) a b, S) := by
  simp only [f_X11_placeOf, e_w_0_5, e_w_6_8, g_bd, e_isThing11 a (h1 ▸ h2 : 0 ≤ S.1 4806), e_isTwo, e_wayAt, decide_eq_true_eq, h1, placeV]
  by_cases h : 0 ≤ a
  · have := dvk (a := a) (k := 10) h (by decide +kernel)
    grind
  · grind
theorem wayV_ok {a b : Int32} (ha : 0 ≤ a ∧ a < 6) (hb : 0 ≤ b ∧ b < 6) : 39 ≤ wayV a b ∧ wayV a b < 75 := by
  unfold wayV; grind
theorem placeV_ok {th a b : Int32} (ht : 0 ≤ th ∧ th ≤ 6) : placeV th a b = -1 ∨ (0 ≤ b ∧ b ≤ 9 ∧ plOk th (placeV th a b) ∧ mostAt (placeV th a b).toNatClampNeg = st_MOST b.toNatClampNeg) := by
  have q : placeV th a b = -1 ∨ (0 ≤ b ∧ b ≤ 9 ∧ ((0 ≤ a ∧ a < th ∧ b ≤ 5 ∧ placeV th a b = 6 * b + a) ∨ (6 ≤ b ∧ b ≤ 8 ∧ placeV th a b = 30 + b) ∨ b = 9 ∧ 36 ≤ placeV th a b ∧ placeV th a b < 75)) := by
    unfold placeV
    by_cases h : a < 0 ∨ b < 0 ∨ 9 < b
    · rw [if_pos h]; exact Or.inl rfl
    · rw [if_neg h]
      obtain ⟨a0, b0, b9⟩ : 0 ≤ a ∧ 0 ≤ b ∧ b ≤ 9 := by lia
      by_cases h5 : b ≤ 5
      · rw [if_pos h5]
        by_cases ht : th ≤ a
        · rw [if_pos ht]; exact Or.inl rfl
        · rw [if_neg ht]; exact Or.inr ⟨b0, b9, Or.inl ⟨a0, by lia, h5, rfl⟩⟩
      · rw [if_neg h5]
        by_cases h9 : b = 9
        · rw [if_pos h9]
          obtain ⟨d1, d2, d3, d4⟩ := dvk (a := a) (k := 10) a0 (by decide +kernel)
          by_cases hr : 6 ≤ a / 10 ∨ 6 ≤ a % 10 ∨ a / 10 = a % 10
          · rw [if_pos hr]; exact Or.inl rfl
          · rw [if_neg hr]
            have w := wayV_ok (a := a / 10) (b := a % 10) (by lia) (by lia)
            exact Or.inr ⟨b0, b9, Or.inr (Or.inr ⟨h9, by lia, w.2⟩)⟩
        · rw [if_neg h9]
          by_cases hz : a = 0
          · rw [if_pos hz]; exact Or.inr ⟨b0, b9, Or.inr (Or.inl ⟨by lia, by lia, by lia⟩)⟩
          · rw [if_neg hz]; exact Or.inl rfl
  rcases q with q | ⟨b0, b9, q⟩
  · exact Or.inl q
  · refine Or.inr ⟨b0, b9, ?_⟩
    have mo : st_MOST b.toNatClampNeg = if b < 1 then 144 else if b < 3 then 12 else if b < 4 then 999 else if b < 5 then 1 else if b < 6 then 5 else 99 := by
      have e : b = 0 ∨ b = 1 ∨ b = 2 ∨ b = 3 ∨ b = 4 ∨ b = 5 ∨ b = 6 ∨ b = 7 ∨ b = 8 ∨ b = 9 := by grind
      rcases e with rfl | rfl | rfl | rfl | rfl | rfl | rfl | rfl | rfl | rfl <;> decide +kernel
    rw [mo]
    rcases q with ⟨a0, a1, b5, e⟩ | ⟨b6, b8, e⟩ | ⟨b9, e1, e2⟩
    · have p0 : 0 ≤ 6 * b + a := by grind
      have := dvk (a := 6 * b + a) (k := 6) p0 (by decide +kernel)
      rw [e, mostAt_of p0]
      refine ⟨⟨p0, by grind, Or.inr ?_⟩, by grind⟩
      have e2 : (6 * b + a) % 6 = a := by
        have ea : a = 0 ∨ a = 1 ∨ a = 2 ∨ a = 3 ∨ a = 4 ∨ a = 5 := by grind
        have eb : b = 0 ∨ b = 1 ∨ b = 2 ∨ b = 3 ∨ b = 4 ∨ b = 5 := by grind
        clear e p0 this ht a0 a1 b0 b9 b5 mo
        rcases ea with rfl | rfl | rfl | rfl | rfl | rfl <;> rcases eb with rfl | rfl | rfl | rfl | rfl | rfl <;> decide +kernel
      rw [e2]; exact a1
    · rw [e, mostAt_of (by grind)]
      exact ⟨⟨by grind, by grind, Or.inl (by grind)⟩, by grind⟩
    · rw [mostAt_of (by grind)]
      exact ⟨⟨by grind, e2, Or.inl e1⟩, by grind⟩
def vAt (S : z_Stt) (p : Int32) : Int32 := if 0 ≤ p ∧ p < 75 then S.2.2.1 2 p.toNatClampNeg else 0
theorem e_at9 (p : Int32) (S : z_Stt) : f_X9_at p S = some (vAt S p, S) := by
  simp only [f_X9_at, vp_75, vAt]; grind
theorem e_ofThing (a b : Int32) (S : z_Stt) : f_X9_ofThing a b S = some (if 0 ≤ b ∧ b < S.1 101 then vAt S (6 * a + b) else 0, S) := by
  simp only [f_X9_ofThing, e_at9, g_bd]; grind
theorem e_numberOf (a b : Int32) {S : z_Stt} (h1 : S.2.2.1 49 = S.2.2.1 2) (h2 : 0 ≤ 6 * b + a ∧ 6 * b + a < 75) : f_X11_numberOf a b S = some (vAt S (6 * b + a), S) := by
  simp only [f_X11_numberOf, vp_75, vAt, h1]; grind
theorem e_mostOf9 {b : Int32} (h : 0 ≤ b ∧ b ≤ 9) (S : z_Stt) : f_X9_mostOf b S = some (st_MOST b.toNatClampNeg, S) := by
  simp only [f_X9_mostOf, vp_10]; grind
theorem e_mostOf11 {b : Int32} (h : 0 ≤ b ∧ b ≤ 9) (S : z_Stt) : f_X11_mostOf b S = some (st_MOST b.toNatClampNeg, S) := by
  have e : b = 0 ∨ b = 1 ∨ b = 2 ∨ b = 3 ∨ b = 4 ∨ b = 5 ∨ b = 6 ∨ b = 7 ∨ b = 8 ∨ b = 9 := by grind
  rcases e with rfl | rfl | rfl | rfl | rfl | rfl | rfl | rfl | rfl | rfl <;> rfl
theorem g_bds {α β : Type} (v : α) (S : z_Stt) (f : α → z_Stt → Option β) : g_bd (some (v, S)) f = f v S := rfl
theorem inc32 {x K : Int32} (h : x < K) : (x + 1).toInt = x.toInt + 1 := by
  rw [Int32.lt_iff_toInt_lt] at h
  have h1 := K.toInt_lt
  have h2 := x.le_toInt
  have e : (1 : Int32).toInt = 1 := rfl
  rw [Int32.toInt_add, e]
  exact Int.bmod_eq_of_le (by omega) (by omega)
def sumV (S : z_Stt) : Nat → Int32 → Int32 → Int32
  | 0, x1, _ => x1
  | m + 1, x1, x2 => if S.1 101 ≤ x2 then x1 else sumV S m (x1 + vAt S (24 + x2)) (x2 + 1)
theorem E_count_10 (n : Nat) {S : z_Stt} (th : 0 ≤ S.1 101 ∧ S.1 101 ≤ 6) : ∀ (m : Nat) (x1 x2 : Int32), 0 ≤ x2 → x2 ≤ S.1 101 → (S.1 101).toInt - x2.toInt < m → f_X10_countMarked_4 n m x1 x2 S = some (sumV S m x1 x2, S) := by
  intro m
  induction m with
  | zero => intro x1 x2 h0 h1 h2; rw [Int32.le_iff_toInt_le] at h1; omega
  | succ m ih =>
    intro x1 x2 h0 h1 h2
    simp only [f_X10_countMarked_4, e_ofThing, g_bd, sumV]
    split
    · rfl
    · rename_i c
      have e : (6 : Int32) * 4 + x2 = 24 + x2 := by lia
      rw [if_pos ⟨h0, by lia⟩, e]
      have e2 : (x2 + 1).toInt = x2.toInt + 1 := inc32 (K := S.1 101) (by lia)
      exact ih _ _ (by lia) (by lia) (by omega)
theorem E_count_11 (n : Nat) {S : z_Stt} (th : 0 ≤ S.1 101 ∧ S.1 101 ≤ 6) (e1 : S.2.2.1 49 = S.2.2.1 2) (e2 : S.1 4806 = S.1 101) : ∀ (m : Nat) (x1 x2 : Int32), 0 ≤ x2 → x2 ≤ S.1 101 → (S.1 101).toInt - x2.toInt < m → f_X11_markedMany_4 n m x1 x2 S = some (sumV S m x1 x2, S) := by
  intro m
  induction m with
  | zero => intro x1 x2 h0 h1 h2; rw [Int32.le_iff_toInt_le] at h1; omega
  | succ m ih =>
    intro x1 x2 h0 h1 h2
    simp only [f_X11_markedMany_4, e2, sumV]
    split
    · rfl
    · rename_i c
      rw [e_numberOf x2 4 e1 (by lia)]
      have e : (6 : Int32) * 4 + x2 = 24 + x2 := by lia
      rw [g_bds, e]
      have e2 : (x2 + 1).toInt = x2.toInt + 1 := inc32 (K := S.1 101) (by lia)
      exact ih _ _ (by lia) (by lia) (by omega)
theorem th_lt {th : Int32} (h : 0 ≤ th ∧ th ≤ 6) : th.toInt - (0 : Int32).toInt < (FUEL : Nat) := by
  have := h.2
  rw [Int32.le_iff_toInt_le] at this
  have e : (6 : Int32).toInt = 6 := rfl
  have e1 : (0 : Int32).toInt = 0 := rfl
  unfold FUEL; omega
theorem E_count (a0 : Int32) {S : z_Stt} (h : Inv S) : ∃ (v : Int32) (S1 S2 : z_Stt), f_X10_count FUEL a0 S = some (v, S1) ∧ f_X11_count FUEL a0 S1 = some (v, S2) ∧ Inv S2 := by
  obtain ⟨⟨th, -⟩, e1, e2⟩ := h.1
  have a1 := E_count_10 FUEL th FUEL 0 0 (by decide +kernel) th.1 (th_lt th)
  have a2 := E_count_11 FUEL th e1 e2 FUEL 0 0 (by decide +kernel) th.1 (th_lt th)
  have c1 := h.2.1.2.2.2.2
  have c2 := h.2.2.2.2.1.2.1
  have c3 := h.2.2.2.2.2.1.2.2
  refine ⟨if a0 = 0 then S.1 101 else if a0 = 1 then sumV S FUEL 0 0 else if a0 = 2 then S.1 1301 else if a0 = 3 then S.1 304 else if a0 = 4 then S.1 3201 else if a0 = 5 then S.1 3203 else -1, S, S, ?_, ?_, h⟩
  · simp only [f_X10_count, f_X10_countMarked, a1, g_bd]; grind
  · simp only [f_X11_count, f_X11_markedMany, a2, g_bd]; grind
theorem E_of (a0 : Int32) (a1 : Int32) {S : z_Stt} (h : Inv S) : ∃ (v : Int32) (S1 S2 : z_Stt), f_X10_of a0 a1 S = some (v, S1) ∧ f_X11_of a0 a1 S1 = some (v, S2) ∧ Inv S2 := by
  obtain ⟨⟨th, -⟩, e1, e2⟩ := h.1
  obtain ⟨-, d1, d2, d3, d4, -⟩ := h.2.2.1
  have p := placeV_ok (a := a0) (b := a1) th
  refine ⟨if placeV (S.1 101) a0 a1 < 0 then (if a1 = 10 ∧ 0 ≤ a0 ∧ a0 < S.1 101 then S.2.2.1 8 a0.toNatClampNeg else if a1 = 11 ∧ a0 = 0 then S.1 702 else if a1 = 12 ∧ a0 = 0 then S.1 703 else -1) else S.2.2.1 2 (placeV (S.1 101) a0 a1).toNatClampNeg, S, S, ?_, ?_, h⟩
  · simp only [f_X10_of, f_X10_of_47, f_X10_of_65, e_placeOf9, e_isThing10, e_at9, g_bd, vp_6, vAt, decide_eq_true_eq]
    have p1 : placeV (S.1 101) a0 a1 = -1 ∨ 0 ≤ placeV (S.1 101) a0 a1 ∧ placeV (S.1 101) a0 a1 < 75 := p.imp id fun q => ⟨q.2.2.1.1, q.2.2.1.2.1⟩
    generalize placeV (S.1 101) a0 a1 = pv at p1
    grind
  · simp only [f_X11_of, e_placeOf11 a0 a1 e2 th.1, e_isThing11 a0 (e2 ▸ th.1 : 0 ≤ S.1 4806), g_bd, vp_6, vp_75, decide_eq_true_eq, e2, e1, d1, d3, d4]
    have p1 : placeV (S.1 101) a0 a1 = -1 ∨ 0 ≤ placeV (S.1 101) a0 a1 ∧ placeV (S.1 101) a0 a1 < 75 := p.imp id fun q => ⟨q.2.2.1.1, q.2.2.1.2.1⟩
    generalize placeV (S.1 101) a0 a1 = pv at p1
    grind
theorem upd_same (f : Nat → Int32) (k : Nat) (x : Int32) : upd f k x k = x := if_pos rfl
theorem upd_ne {f : Nat → Int32} {k j : Nat} {x : Int32} (h : j ≠ k) : upd f k x j = f j := if_neg h
/-- one number of the marks becomes another -/
theorem wTold.set {th : Int32} {nu : Nat → Int32} (h : wTold th nu) {p x : Int32} (hp : plOk th p) (hx : 0 ≤ x ∧ x ≤ mostAt p.toNatClampNeg) : wTold th (upd nu p.toNatClampNeg x) := by
  obtain ⟨h1, h2, h3⟩ := h
  refine ⟨h1, fun k hk => ?_, fun t ht1 ht2 => ?_⟩
  · by_cases e : k = p.toNatClampNeg
    · subst e; rw [upd_same]; exact hx
    · rw [upd_ne e]; exact h2 k hk
  · have q := tn hp.1
    have h1' := tn h1.1
    have hm : p < 36 → (p % 6).toInt = p.toInt % 6 := fun _ => (dv_of hp.1 (by decide +kernel)).2
    have h36 : (36 : Int32).toInt = 36 := rfl
    have hq := hp.2.2
    simp only [Int32.le_iff_toInt_le, Int32.lt_iff_toInt_lt, h36] at hq hm
    rw [upd_ne (by omega), upd_ne (by omega)]
    exact h3 t ht1 ht2
theorem rI (S : z_Stt) (n m : Nat) (v : Int32) : (sI S n v).1 m = if m = n then v else S.1 m := rfl
theorem rI2 (S : z_Stt) (n : Nat) (v : Int32) : (sI S n v).2 = S.2 := rfl
theorem rJ1 (S : z_Stt) (n : Nat) (v : Int64) : (sJ S n v).1 = S.1 := rfl
theorem rJ2 (S : z_Stt) (n m : Nat) (v : Int64) : (sJ S n v).2.1 m = if m = n then v else S.2.1 m := rfl
theorem rJ3 (S : z_Stt) (n : Nat) (v : Int64) : (sJ S n v).2.2 = S.2.2 := rfl
theorem rA1 (S : z_Stt) (n : Nat) (f : Nat → Int32) : (sA S n f).1 = S.1 := rfl
theorem rA2 (S : z_Stt) (n : Nat) (f : Nat → Int32) : (sA S n f).2.1 = S.2.1 := rfl
theorem rA3 (S : z_Stt) (n m : Nat) (f : Nat → Int32) : (sA S n f).2.2.1 m = if m = n then f else S.2.2.1 m := rfl
theorem rA4 (S : z_Stt) (n : Nat) (f : Nat → Int32) : (sA S n f).2.2.2 = S.2.2.2 := rfl
theorem rE1 (S : z_Stt) (n : Nat) (f : Nat → Int64) : (sE S n f).1 = S.1 := rfl
theorem rE2 (S : z_Stt) (n : Nat) (f : Nat → Int64) : (sE S n f).2.1 = S.2.1 := rfl
theorem rE3 (S : z_Stt) (n : Nat) (f : Nat → Int64) : (sE S n f).2.2.1 = S.2.2.1 := rfl
theorem rE4 (S : z_Stt) (n m : Nat) (f : Nat → Int64) : (sE S n f).2.2.2.1 m = if m = n then f else S.2.2.2.1 m := rfl
theorem rE5 (S : z_Stt) (n : Nat) (f : Nat → Int64) : (sE S n f).2.2.2.2 = S.2.2.2.2 := rfl
theorem rR1 (S : z_Stt) (n v : Nat) : (sR S n v).1 = S.1 := rfl
theorem rR2 (S : z_Stt) (n v : Nat) : (sR S n v).2.1 = S.2.1 := rfl
theorem rR3 (S : z_Stt) (n v : Nat) : (sR S n v).2.2.1 = S.2.2.1 := rfl
theorem rR4 (S : z_Stt) (n v : Nat) : (sR S n v).2.2.2.1 = S.2.2.2.1 := rfl
theorem rR5 (S : z_Stt) (n m v : Nat) : (sR S n v).2.2.2.2 m = if m = n then v else S.2.2.2.2 m := rfl
theorem E_undo {S : z_Stt} (h : Inv S) : ∃ (v : Int32) (S1 S2 : z_Stt), f_X10_undo S = some (v, S1) ∧ f_X11_undo S1 = some (v, S2) ∧ Inv S2 := by
  obtain ⟨hw, e1, e2⟩ := h.1
  obtain ⟨⟨c1, c2, c3, c4⟩, c5, c6, c7, c8, c9⟩ := h.2.1
  by_cases z : S.1 304 = 0
  · refine ⟨-5, S, S, ?_, ?_, h⟩
    · simp only [f_X10_undo, if_pos z]
    · simp only [f_X11_undo, c9, if_pos z]
  · have i40 : 0 ≤ S.1 304 - 1 ∧ S.1 304 - 1 < 40 := by lia
    have ik : (S.1 304 - 1).toNatClampNeg < (S.1 303).toNatClampNeg := by
      have t1 := tn i40.1
      have t2 := tn (a := S.1 303) (by lia)
      have t3 : S.1 304 - 1 < S.1 303 := by lia
      rw [Int32.lt_iff_toInt_lt] at t3
      omega
    obtain ⟨p1, p2, p3⟩ := c4 _ ik
    have p4 : 0 ≤ S.2.2.1 4 (S.1 304 - 1).toNatClampNeg ∧ S.2.2.1 4 (S.1 304 - 1).toNatClampNeg < 75 := ⟨p1.1, p1.2.1⟩
    refine ⟨S.1 304 - 1, sA (sI S 304 (S.1 304 - 1)) 2 (upd (S.2.2.1 2) (S.2.2.1 4 (S.1 304 - 1).toNatClampNeg).toNatClampNeg (S.2.2.1 5 (S.1 304 - 1).toNatClampNeg)), sA (sI (sA (sI S 304 (S.1 304 - 1)) 2 (upd (S.2.2.1 2) (S.2.2.1 4 (S.1 304 - 1).toNatClampNeg).toNatClampNeg (S.2.2.1 5 (S.1 304 - 1).toNatClampNeg))) 4805 (S.1 304 - 1)) 49 (upd (S.2.2.1 2) (S.2.2.1 4 (S.1 304 - 1).toNatClampNeg).toNatClampNeg (S.2.2.1 5 (S.1 304 - 1).toNatClampNeg)), ?_, ?_, ?_⟩
    · simp only [f_X10_undo, f_X0_takeBack, f_X9_become, g_let, vp_40, vp_75, rI, rI2, rJ1, rJ2, rJ3, rA1, rA2, rA3, rA4, rE1, rE2, rE3, rE4, rE5, rR1, rR2, rR3, rR4, rR5, Nat.reduceEqDiff, reduceIte, if_neg z, if_neg (by lia : ¬ S.1 304 ≤ 0), if_pos i40, if_neg (by lia : ¬ S.2.2.1 4 (S.1 304 - 1).toNatClampNeg < 0), if_neg (by lia : ¬ 75 ≤ S.2.2.1 4 (S.1 304 - 1).toNatClampNeg), if_pos p4, g_bd]
    · simp only [f_X11_undo, g_let, vp_40, vp_75, rI, rI2, rJ1, rJ2, rJ3, rA1, rA2, rA3, rA4, rE1, rE2, rE3, rE4, rE5, rR1, rR2, rR3, rR4, rR5, Nat.reduceEqDiff, reduceIte, c9, c5, c6, e1, if_neg z, if_pos i40, if_pos p4]
    · refine ⟨?_, ?_, h.2.2.1.of rfl rfl rfl rfl rfl rfl rfl rfl rfl rfl rfl rfl rfl rfl rfl, h.2.2.2.1.of rfl rfl rfl rfl rfl rfl rfl rfl rfl rfl rfl rfl, h.2.2.2.2.1.of rfl rfl rfl rfl rfl rfl rfl rfl rfl, h.2.2.2.2.2.1.of rfl rfl rfl rfl rfl rfl rfl rfl, h.2.2.2.2.2.2.of rfl (fun n q1 q2 => by simp only [sI, sJ, sA, sE, sR]; repeat rw [if_neg (by omega)]) (fun n q1 q2 => by simp only [sI, sJ, sA, sE, sR]; repeat rw [if_neg (by omega)]) rfl rfl rfl⟩
      · exact ⟨hw.set p1 p2, rfl, e2⟩
      · refine ⟨⟨i40.1, ?_, c3, c4⟩, c5, c6, c7, c8, rfl⟩
        show S.1 304 - 1 ≤ S.1 303
        lia
