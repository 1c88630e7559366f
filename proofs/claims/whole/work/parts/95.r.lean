/-! WAYS: yards, and what is kept -/
def wy (S : z_Stt) (a b : Nat) : Int32 := if a = b then 0 else vAt S (wayV (Int32.ofNat a) (Int32.ofNat b))
theorem on_ij {a b : Nat} (ha : a ≤ 2000) (hb : b ≤ 2000) : (Int32.ofNat a = Int32.ofNat b) = (a = b) := by
  rw [← Int32.toInt_inj, on_ti (by omega), on_ti (by omega)]; exact propext (by omega)
theorem e_yd10 {S C : z_Stt} (a : agQ S C) {x y : Nat} (hx : x < 6) (hy : y < 6) : f_X9_yards (Int32.ofNat x) (Int32.ofNat y) C = some (wy S x y, C) := by
  unfold f_X9_yards wy
  by_cases c : x = y
  · rw [if_pos (by rw [on_ij (by omega) (by omega)]; exact c), if_pos c]
  · rw [if_neg (by rw [on_ij (by omega) (by omega)]; exact c), if_neg c, e_between, g_bds, e_at9, g_bds, q_vAt a]
theorem e_yd11 {S T : z_Stt} (h : Inv S) (a : agQ S T) {x y : Nat} (hx : x < 6) (hy : y < 6) : f_X11_yardsOf (Int32.ofNat x) (Int32.ofNat y) T = some (wy S x y, T) := by
  unfold f_X11_yardsOf wy
  by_cases c : x = y
  · rw [if_pos (by rw [on_ij (by omega) (by omega)]; exact c), if_pos c]
  · have w := wayV_ok (on_06 hx) (on_06 hy)
    have w2 : 0 ≤ wayV (Int32.ofNat x) (Int32.ofNat y) ∧ wayV (Int32.ofNat x) (Int32.ofNat y) < 75 := by
      generalize wayV (Int32.ofNat x) (Int32.ofNat y) = q at w; lia
    rw [if_neg (by rw [on_ij (by omega) (by omega)]; exact c), if_neg c, e_wayAt, g_bds, if_pos (by rw [vp_75]; exact w2), q_49 h a]
    unfold vAt
    rw [if_pos w2]
theorem wy_ok {S : z_Stt} (h : Inv S) {x y : Nat} (hx : x < 6) (hy : y < 6) : 0 ≤ (wy S x y).toInt ∧ (wy S x y).toInt ≤ 99 := by
  unfold wy
  by_cases c : x = y
  · rw [if_pos c]; decide +kernel
  · rw [if_neg c]
    have w := wayV_ok (on_06 hx) (on_06 hy)
    have w2 : 0 ≤ wayV (Int32.ofNat x) (Int32.ofNat y) ∧ wayV (Int32.ofNat x) (Int32.ofNat y) < 75 := by
      generalize wayV (Int32.ofNat x) (Int32.ofNat y) = q at w; lia
    have t := tn w2.1
    have r1 := rg (l := 39) (u := 74) (a := wayV (Int32.ofNat x) (Int32.ofNat y)) ⟨w.1, by generalize wayV (Int32.ofNat x) (Int32.ofNat y) = q at w; lia⟩
    have i39 : (39 : Int32).toInt = 39 := rfl
    have i74 : (74 : Int32).toInt = 74 := rfl
    rw [i39, i74] at r1
    unfold vAt
    rw [if_pos w2]
    exact pr37 h (by omega) (by omega)
def ydL (S : z_Stt) : Int32 → List Nat → Int32
  | acc, [] => acc
  | acc, [_] => acc
  | acc, x :: y :: r => ydL S (acc + wy S x y) (y :: r)
def repL (f : Nat → Int32) (l : List Nat) : Prop := ∀ i, i < l.length → f i = Int32.ofNat (l.getD i 0)
def all6 (l : List Nat) : Prop := ∀ r ∈ l, r < 6
theorem get6 {l : List Nat} (h : all6 l) (i : Nat) : l.getD i 0 < 6 := by
  by_cases c : i < l.length
  · have e : l.getD i 0 = l[i] := by simp [List.getD, List.getElem?_eq_getElem c]
    rw [e]; exact h _ (List.getElem_mem c)
  · have e : l.getD i 0 = 0 := by simp [List.getD, List.getElem?_eq_none (Nat.le_of_not_lt c)]
    rw [e]; decide
theorem drop_c {l : List Nat} {i : Nat} (h : i < l.length) : l.drop i = l.getD i 0 :: l.drop (i + 1) := by
  rw [List.drop_eq_getElem_cons h]
  simp [List.getD, List.getElem?_eq_getElem h]
theorem e_yo {S C : z_Stt} (a : agQ S C) {l : List Nat} (h6 : all6 l) (hl : l.length ≤ 7) (hs : C.1 2802 = Int32.ofNat l.length) (r : repL (C.2.2.1 29) l) (F : Nat) : ∀ (j i m : Nat) (acc : Int32), i + j = l.length → 1 ≤ i → j < m → f_X7_yardsOf_4 F m acc (Int32.ofNat i) C = some (ydL S acc (l.drop (i - 1)), C) := by
  intro j
  induction j with
  | zero =>
    intro i m acc hi h1 hm
    obtain ⟨m, rfl⟩ : ∃ q, m = q + 1 := ⟨m - 1, by omega⟩
    have e : l.drop (i - 1) = [l.getD (i - 1) 0] := by
      rw [drop_c (by omega), show i - 1 + 1 = l.length by omega, List.drop_length]
    rw [f_X7_yardsOf_4, hs, if_pos (by rw [on_le (by omega) (by omega)]; omega), e]
    rfl
  | succ j ih =>
    intro i m acc hi h1 hm
    obtain ⟨m, rfl⟩ : ∃ q, m = q + 1 := ⟨m - 1, by omega⟩
    obtain ⟨k, ek⟩ : ∃ k, i = k + 1 := ⟨i - 1, by omega⟩
    subst ek
    have e : l.drop (k + 1 - 1) = l.getD k 0 :: l.getD (k + 1) 0 :: l.drop (k + 1 + 1) := by
      rw [show k + 1 - 1 = k by omega, drop_c (by omega), drop_c (i := k + 1) (by omega)]
    have e2 : l.drop (k + 1 + 1 - 1) = l.getD (k + 1) 0 :: l.drop (k + 1 + 1) := by
      rw [show k + 1 + 1 - 1 = k + 1 by omega, drop_c (i := k + 1) (by omega)]
    have nx := ih (k + 1 + 1) m (acc + wy S (l.getD k 0) (l.getD (k + 1) 0)) (by omega) (by omega) (by omega)
    rw [e2] at nx
    have n7 : ¬ 7 ≤ Int32.ofNat (k + 1) := by
      have i7 : (7 : Int32).toInt = 7 := rfl
      rw [Int32.le_iff_toInt_le, i7, on_ti (by omega)]; omega
    rw [f_X7_yardsOf_4, hs, if_neg (by rw [on_le (by omega) (by omega)]; omega), if_neg n7, on_d k (by omega), if_pos (v7n (by omega)), if_pos (v7n (by omega)), on_tn (by omega), on_tn (by omega), r k (by omega), r (k + 1) (by omega), e_yd10 a (get6 h6 _) (get6 h6 _), g_bds, on_s (k + 1) (by omega), e]
    exact nx
theorem q_yo {S C : z_Stt} (a : agQ S C) {l : List Nat} (h6 : all6 l) (h1 : 1 ≤ l.length) (hl : l.length ≤ 7) (hs : C.1 2802 = Int32.ofNat l.length) (r : repL (C.2.2.1 29) l) {F : Nat} (hF : 10 < F) : f_X7_yardsOf F C = some (ydL S 0 l, C) := by
  have := e_yo a h6 hl hs r F (l.length - 1) 1 F 0 (by omega) (by omega) (by omega)
  exact this
theorem e_ko (F : Nat) (C : z_Stt) : ∀ (j i m : Nat) (g : Nat → Int32), i + j = 7 → j < m → f_X7_keepOrder_2 F m (Int32.ofNat i) (sA C 30 g) = some ((), sA C 30 (cpR (C.2.2.1 29) g i 7)) := by
  intro j
  induction j with
  | zero =>
    intro i m g hi hm
    obtain ⟨m, rfl⟩ : ∃ q, m = q + 1 := ⟨m - 1, by omega⟩
    have e7 : i = 7 := by omega
    subst e7
    rw [f_X7_keepOrder_2, if_pos (by decide +kernel), cpR_end (Nat.le_refl _)]
  | succ j ih =>
    intro i m g hi hm
    obtain ⟨m, rfl⟩ : ∃ q, m = q + 1 := ⟨m - 1, by omega⟩
    have n7 : ¬ 7 ≤ Int32.ofNat i := by
      have i7 : (7 : Int32).toInt = 7 := rfl
      rw [Int32.le_iff_toInt_le, i7, on_ti (by omega)]; omega
    have e1 : (sA C 30 g).2.2.1 29 = C.2.2.1 29 := rfl
    have e2 : (sA C 30 g).2.2.1 30 = g := rfl
    have z := ih (i + 1) m (upd g i (C.2.2.1 29 i)) (by omega) (by omega)
    rw [cpR_next (by omega)] at z
    rw [f_X7_keepOrder_2, if_neg n7, if_pos (v7n (by omega)), if_pos (v7n (by omega)), g_lets, e1, e2, sA_sA, on_tn (by omega), on_s i (by omega)]
    exact z
theorem q_ko {F : Nat} (hF : 10 < F) (C : z_Stt) : f_X7_keepOrder F C = some ((), sA C 30 (cpR (C.2.2.1 29) (C.2.2.1 30) 0 7)) := by
  have := e_ko F C 7 0 F (C.2.2.1 30) (by omega) (by omega)
  rw [sA_self] at this
  exact this
theorem ko_rep {f g : Nat → Int32} {l : List Nat} (hl : l.length ≤ 7) (r : repL f l) : repL (cpR f g 0 7) l := by
  intro i hi
  unfold cpR
  rw [if_pos ⟨Nat.zero_le _, by omega⟩]; exact r i hi
def full (a : Nat) (p : List Nat) (z : Nat) : List Nat := a :: (p ++ [z])
theorem full_len (a : Nat) (p : List Nat) (z : Nat) : (full a p z).length = p.length + 2 := by unfold full; simp
theorem full_g (a : Nat) (p : List Nat) (z i : Nat) : (full a p z).getD i 0 = if i = 0 then a else if i ≤ p.length then ofP p i else if i = p.length + 1 then z else 0 := by
  unfold full ofP
  cases i with
  | zero => simp [List.getD]
  | succ i =>
    have e : (a :: (p ++ [z])).getD (i + 1) 0 = (p ++ [z]).getD i 0 := by simp [List.getD]
    rw [e, if_neg (by omega), show i + 1 - 1 = i by omega]
    by_cases c : i + 1 ≤ p.length
    · rw [if_pos c]
      simp [List.getD, List.getElem?_append_left (show i < p.length by omega)]
    · rw [if_neg c]
      by_cases d : i + 1 = p.length + 1
      · have e2 : i = p.length := by omega
        rw [if_pos d, e2]
        simp [List.getD]
      · rw [if_neg d]
        simp [List.getD]
        rw [List.getElem?_eq_none (by simp; omega)]
        rfl
theorem full_6 {a z : Nat} {p : List Nat} (ha : a < 6) (hz : z < 6) (hp : all6 p) : all6 (full a p z) := by
  intro r hr
  unfold full at hr
  simp at hr
  rcases hr with e | e | e
  · omega
  · exact hp r e
  · omega
theorem full_rep {f : Nat → Int32} {a z : Nat} {p : List Nat} (h0 : f 0 = Int32.ofNat a) (hm : ∀ i, 1 ≤ i → i ≤ p.length → f i = Int32.ofNat (ofP p i)) (hz : f (p.length + 1) = Int32.ofNat z) : repL f (full a p z) := by
  intro i hi
  rw [full_len] at hi
  rw [full_g]
  by_cases c : i = 0
  · rw [if_pos c, c]; exact h0
  · rw [if_neg c]
    by_cases d : i ≤ p.length
    · rw [if_pos d]; exact hm i (by omega) d
    · have e : i = p.length + 1 := by omega
      rw [if_neg d, if_pos e, e]; exact hz
theorem rep_full {f : Nat → Int32} {a z : Nat} {p : List Nat} (r : repL f (full a p z)) : f 0 = Int32.ofNat a ∧ (∀ i, 1 ≤ i → i ≤ p.length → f i = Int32.ofNat (ofP p i)) ∧ f (p.length + 1) = Int32.ofNat z := by
  have l := full_len a p z
  refine ⟨?_, fun i h1 h2 => ?_, ?_⟩
  · have := r 0 (by omega)
    rw [full_g, if_pos rfl] at this; exact this
  · have := r i (by omega)
    rw [full_g, if_neg (by omega), if_pos h2] at this; exact this
  · have := r (p.length + 1) (by omega)
    rw [full_g, if_neg (by omega), if_neg (by omega), if_pos rfl] at this; exact this
