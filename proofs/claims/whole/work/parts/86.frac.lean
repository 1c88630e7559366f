/-! FRACTIONS: the common divisor of both sides -/
def fib2 : Nat → Nat × Nat
  | 0 => (0, 1)
  | k + 1 => ((fib2 k).2, (fib2 k).1 + (fib2 k).2)
def fib (k : Nat) : Nat := (fib2 k).1
theorem fib_s (k : Nat) : fib (k + 2) = fib k + fib (k + 1) := rfl
theorem fib_93 : 2 ^ 63 ≤ fib 93 := by decide +kernel
theorem on_pos {b : Nat} (h : 0 < b) (h2 : b < 2 ^ 63) : ¬ Int64.ofNat b = 0 := by
  intro e
  have := congrArg Int64.toInt e
  rw [Int64.toInt_ofNat_of_lt h2] at this
  have z : (0 : Int64).toInt = 0 := rfl
  rw [z] at this; omega
theorem on_0 : Int64.ofNat 0 = 0 := rfl
theorem cmp0 (x : Int64) : (lg_cmp x 0 = 0) = (x = 0) := propext (lg_cmp_eq x 0)
/-- Euclid ends within k steps -/
def eu : Nat → Nat → Nat → Prop
  | 0, _, b => b = 0
  | k + 1, a, b => b = 0 ∨ eu k b (a % b)
theorem eu_fib : ∀ (k a b : Nat), b < fib (k + 1) → eu k a b
  | 0, _, b, h => by have e : fib (0 + 1) = 1 := rfl; rw [e] at h; show b = 0; omega
  | 1, _, b, h => by have e : fib (1 + 1) = 1 := rfl; rw [e] at h; exact Or.inl (by omega)
  | k + 2, a, b, h => by
    by_cases b0 : b = 0
    · exact Or.inl b0
    · refine Or.inr ?_
      have r1 : a % b < b := Nat.mod_lt _ (by omega)
      by_cases q : a % b < fib (k + 2)
      · exact eu_fib (k + 1) b (a % b) q
      · by_cases r0 : a % b = 0
        · exact Or.inl r0
        · refine Or.inr (eu_fib k (a % b) (b % (a % b)) ?_)
          have e : fib (k + 2 + 1) = fib (k + 1) + fib (k + 2) := fib_s (k + 1)
          have r2 : b % (a % b) ≤ b - a % b := by
            rw [Nat.mod_eq_sub_mod (by omega)]
            exact Nat.mod_le _ _
          omega
theorem eu_92 {a b : Nat} (h : b < 2 ^ 63) : eu 92 a b := eu_fib 92 a b (Nat.lt_of_lt_of_le h fib_93)
theorem e_gcd4 (n : Nat) : ∀ (k m : Nat) (c : Int32) (a b : Nat) (S : z_Stt), a < 2 ^ 63 → b < 2 ^ 63 → eu k a b → k < m → 0 ≤ c → c.toInt + k < 100 → f_X4_commonDivisor_3 n m (Int64.ofNat a) (Int64.ofNat b) c S = some (Int64.ofNat (Nat.gcd a b), S) := by
  intro k
  have i100 : (100 : Int32).toInt = 100 := rfl
  induction k with
  | zero =>
    intro m c a b S ha hb hf hm hc hk
    obtain ⟨m, rfl⟩ : ∃ m', m = m' + 1 := ⟨m - 1, by omega⟩
    have b0 : b = 0 := hf
    have nc : ¬ 100 ≤ c := by rw [Int32.le_iff_toInt_le, i100]; omega
    subst b0
    rw [f_X4_commonDivisor_3, if_neg nc]
    simp only [cmp0]
    rw [if_pos on_0, Nat.gcd_zero_right]
  | succ k ih =>
    intro m c a b S ha hb hf hm hc hk
    obtain ⟨m, rfl⟩ : ∃ m', m = m' + 1 := ⟨m - 1, by omega⟩
    have nc : ¬ 100 ≤ c := by rw [Int32.le_iff_toInt_le, i100]; omega
    rw [f_X4_commonDivisor_3, if_neg nc]
    simp only [cmp0]
    by_cases b0 : b = 0
    · subst b0
      rw [if_pos on_0, Nat.gcd_zero_right]
    · have bp : 0 < b := by omega
      have hf2 : eu k b (a % b) := hf.resolve_left b0
      have c1 : (c + 1).toInt = c.toInt + 1 := inc32 (K := 100) (Int32.not_le.mp nc)
      have r1 : a % b < b := Nat.mod_lt _ bp
      have i0 : (0 : Int32).toInt = 0 := rfl
      rw [if_neg (on_pos bp hb), if_pos (on_pos bp hb), ← Int64.ofNat_mod ha hb]
      rw [ih m (c + 1) b (a % b) S hb (by omega) hf2 (by omega) (by rw [Int32.le_iff_toInt_le, i0, c1]; rw [Int32.le_iff_toInt_le, i0] at hc; omega) (by omega)]
      rw [Nat.gcd_comm a b, Nat.gcd_rec b a, Nat.gcd_comm]
theorem e_gcd11 (n : Nat) : ∀ (k m : Nat) (a b : Nat) (S : z_Stt), a < 2 ^ 63 → b < 2 ^ 63 → eu k a b → k < m → f_X11_commonOf_17 n m (Int64.ofNat a) (Int64.ofNat b) S = some (Int64.ofNat (Nat.gcd a b), S) := by
  intro k
  induction k with
  | zero =>
    intro m a b S ha hb hf hm
    obtain ⟨m, rfl⟩ : ∃ m', m = m' + 1 := ⟨m - 1, by omega⟩
    have b0 : b = 0 := hf
    subst b0
    rw [f_X11_commonOf_17]
    simp only [cmp0]
    rw [if_pos on_0, Nat.gcd_zero_right]
  | succ k ih =>
    intro m a b S ha hb hf hm
    obtain ⟨m, rfl⟩ : ∃ m', m = m' + 1 := ⟨m - 1, by omega⟩
    rw [f_X11_commonOf_17]
    simp only [cmp0]
    by_cases b0 : b = 0
    · subst b0
      rw [if_pos on_0, Nat.gcd_zero_right]
    · have bp : 0 < b := by omega
      have hf2 : eu k b (a % b) := hf.resolve_left b0
      have r1 : a % b < b := Nat.mod_lt _ bp
      rw [if_neg (on_pos bp hb), if_pos (on_pos bp hb), ← Int64.ofNat_mod ha hb]
      rw [ih m b (a % b) S hb (by omega) hf2 (by omega)]
      rw [Nat.gcd_comm a b, Nat.gcd_rec b a, Nat.gcd_comm]
theorem z0_64 : (0 : Int64).toInt = 0 := rfl
theorem na_lt {x : Int64} (h : -9223372036854775808 < x.toInt) : x.toInt.natAbs < 2 ^ 63 := by
  have := x.toInt_lt
  omega
theorem abs_p {x : Int64} (h : 0 ≤ x) : x = Int64.ofNat x.toInt.natAbs := by
  rw [Int64.le_iff_toInt_le, z0_64] at h
  have := x.toInt_lt
  rw [← Int64.toInt_inj, Int64.toInt_ofNat_of_lt (by omega)]
  omega
theorem abs_n {x : Int64} (h0 : -9223372036854775808 < x.toInt) (h : ¬ 0 ≤ x) : -x = Int64.ofNat x.toInt.natAbs := by
  rw [Int64.le_iff_toInt_le, z0_64] at h
  have q := x.toInt_lt
  rw [← Int64.toInt_inj, Int64.toInt_ofNat_of_lt (by omega), Int64.toInt_neg, Int.bmod_eq_of_le (by omega) (by omega)]
  omega
def gV (a b : Int64) : Int64 := Int64.ofNat (Nat.gcd a.toInt.natAbs b.toInt.natAbs)
theorem gV_pos {a b : Int64} (hb : 0 < b) : ¬ gV a b = 0 ∧ 0 < gV a b := by
  have hb' := hb
  rw [Int64.lt_iff_toInt_lt, z0_64] at hb'
  have q := b.toInt_lt
  have g1 : Nat.gcd a.toInt.natAbs b.toInt.natAbs ≤ b.toInt.natAbs := Nat.gcd_le_right _ (by omega)
  have g2 : 0 < Nat.gcd a.toInt.natAbs b.toInt.natAbs := Nat.gcd_pos_of_pos_right _ (by omega)
  refine ⟨on_pos g2 (by omega), ?_⟩
  unfold gV
  rw [Int64.lt_iff_toInt_lt, z0_64, Int64.toInt_ofNat_of_lt (by omega)]
  omega
theorem cmpg (x : Int64) : (0 < lg_cmp x 0) = (0 < x) := propext (lg_cmp_gt x 0)
theorem cmpge (x : Int64) : (0 ≤ lg_cmp x 0) = (0 ≤ x) := propext (lg_cmp_ge x 0)
theorem cmple (x : Int64) : (lg_cmp x 0 ≤ 0) = (x ≤ 0) := propext (lg_cmp_le x 0)
theorem e_become4 {n o : Nat} {a0 a1 : Int64} (hn : 92 < n) (h0 : -9223372036854775808 < a0.toInt) (h1 : 0 < a1) (S : z_Stt) : f_X4_become n o a0 a1 S = some (true, sJ (sJ S (100 * o + 0) (a0 / gV a0 a1)) (100 * o + 1) (a1 / gV a0 a1)) := by
  have e1 : (if 0 < a0 then a0 else -a0) = Int64.ofNat a0.toInt.natAbs := by
    by_cases c : 0 ≤ a0
    · by_cases c2 : 0 < a0
      · rw [if_pos c2]; exact abs_p c
      · have z : a0 = 0 := by
          rw [Int64.le_iff_toInt_le, z0_64] at c
          rw [Int64.lt_iff_toInt_lt, z0_64] at c2
          rw [← Int64.toInt_inj, z0_64]; omega
        subst z; rfl
    · rw [if_neg (fun q => c (Int64.le_of_lt q))]; exact abs_n h0 c
  have hb := h1
  rw [Int64.lt_iff_toInt_lt, z0_64] at hb
  have e2 : f_X4_commonDivisor n (Int64.ofNat a0.toInt.natAbs) a1 S = some (gV a0 a1, S) := by
    have q := e_gcd4 n 92 n 0 a0.toInt.natAbs a1.toInt.natAbs S (na_lt h0) (na_lt (by omega)) (eu_92 (na_lt (by omega))) hn (by decide +kernel) (by decide +kernel)
    rw [← abs_p (Int64.le_of_lt h1)] at q
    exact q
  have g := gV_pos (a := a0) h1
  simp only [f_X4_become, cmpg, if_pos h1, e1, e2, g_bds, if_pos g.2, f_X4_become_38, if_pos g.1, g_let]
theorem e_partOf {n : Nat} {a0 a1 : Int64} (a2 : Int32) (hn : 92 < n) (h0 : -9223372036854775808 < a0.toInt) (h1 : 0 < a1) (S : z_Stt) : f_X11_partOf n a0 a1 a2 S = some (if a0 = 0 then a2.toInt64 else if a2 = 0 then a0 / gV a0 a1 else a1 / gV a0 a1, S) := by
  have g := gV_pos (a := a0) h1
  have hb := h1
  rw [Int64.lt_iff_toInt_lt, z0_64] at hb
  have q := e_gcd11 n 92 n a0.toInt.natAbs a1.toInt.natAbs S (na_lt h0) (na_lt (by omega)) (eu_92 (na_lt (by omega))) hn
  rw [← abs_p (Int64.le_of_lt h1)] at q
  have e2 : f_X11_commonOf n a0 a1 S = some (gV a0 a1, S) := by
    simp only [f_X11_commonOf, cmpge, f_X11_commonOf_12]
    by_cases c : 0 ≤ a0
    · rw [if_pos c]
      rw [← abs_p c] at q; exact q
    · rw [if_neg c, abs_n h0 c]; exact q
  simp only [f_X11_partOf, cmp0, e2, g_bds, if_pos g.1]
  split
  · rfl
  · split <;> rfl
