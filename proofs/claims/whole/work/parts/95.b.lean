/-! DOUBTS: products and sums -/
def pr (f : Nat → Int) : Nat → Int
  | 0 => 1
  | k + 1 => pr f k * f k
def sm (f : Nat → Int) : Nat → Int
  | 0 => 0
  | k + 1 => sm f k + f k
theorem pr_mul (f g : Nat → Int) : ∀ k, pr (fun t => f t * g t) k = pr f k * pr g k
  | 0 => rfl
  | k + 1 => by
    show pr (fun t => f t * g t) k * (f k * g k) = (pr f k * f k) * (pr g k * g k)
    rw [pr_mul f g k]; grind
theorem pr_congr {f g : Nat → Int} : ∀ k, (∀ t, t < k → f t = g t) → pr f k = pr g k
  | 0, _ => rfl
  | k + 1, h => by
    show pr f k * f k = pr g k * g k
    rw [pr_congr k (fun t ht => h t (by omega)), h k (by omega)]
theorem sm_congr {f g : Nat → Int} : ∀ k, (∀ t, t < k → f t = g t) → sm f k = sm g k
  | 0, _ => rfl
  | k + 1, h => by
    show sm f k + f k = sm g k + g k
    rw [sm_congr k (fun t ht => h t (by omega)), h k (by omega)]
theorem sm_mul (c : Int) (f : Nat → Int) : ∀ k, sm (fun t => c * f t) k = c * sm f k
  | 0 => by show (0 : Int) = c * 0; omega
  | k + 1 => by
    show sm (fun t => c * f t) k + c * f k = c * (sm f k + f k)
    rw [sm_mul c f k]; grind
theorem pr_pos {f : Nat → Int} : ∀ k, (∀ t, t < k → 0 < f t) → 0 < pr f k
  | 0, _ => by show (0 : Int) < 1; omega
  | k + 1, h => Int.mul_pos (pr_pos k (fun t ht => h t (by omega))) (h k (by omega))
/-- one factor taken out -/
def prx (f : Nat → Int) (s : Nat) : Nat → Int := pr (fun t => if t = s then 1 else f t)
theorem pr_x (f : Nat → Int) (s : Nat) : ∀ k, s < k → pr f k = f s * prx f s k
  | 0, h => absurd h (by omega)
  | k + 1, h => by
    show pr f k * f k = f s * (pr (fun t => if t = s then 1 else f t) k * (if k = s then 1 else f k))
    by_cases c : k = s
    · subst c
      have e : pr (fun t => if t = k then 1 else f t) k = pr f k := pr_congr k (fun t ht => if_neg (by omega))
      rw [if_pos rfl, e]; grind
    · rw [if_neg c, pr_x f s k (by omega)]
      show f s * prx f s k * f k = f s * (prx f s k * f k)
      grind
theorem pr_le {f : Nat → Int} (n : Nat) (h : ∀ t, t < n → 0 < f t) : ∀ k, k ≤ n → pr f (n - k) ≤ pr f n
  | 0, _ => Int.le_refl _
  | k + 1, hk => by
    have ih := pr_le n h k (by omega)
    have e : n - k = (n - (k + 1)) + 1 := by omega
    have p : 0 < pr f (n - (k + 1)) := pr_pos _ (fun t ht => h t (by omega))
    have q : 0 < f (n - (k + 1)) := h _ (by omega)
    rw [e] at ih
    have z : pr f (n - (k + 1)) * 1 ≤ pr f (n - (k + 1)) * f (n - (k + 1)) := Int.mul_le_mul_of_nonneg_left (by omega) (by omega)
    have z2 : pr f (n - (k + 1) + 1) = pr f (n - (k + 1)) * f (n - (k + 1)) := rfl
    omega
theorem pr_le' {f : Nat → Int} {n k : Nat} (h : ∀ t, t < n → 0 < f t) (hk : k ≤ n) : pr f k ≤ pr f n := by
  have := pr_le n h (n - k) (by omega)
  rw [show n - (n - k) = k by omega] at this
  exact this
theorem pr_mono {f g : Nat → Int} : ∀ k, (∀ t, t < k → 0 ≤ f t ∧ f t ≤ g t) → 0 ≤ pr f k ∧ pr f k ≤ pr g k
  | 0, _ => by show (0 : Int) ≤ 1 ∧ (1 : Int) ≤ 1; omega
  | k + 1, h => by
    obtain ⟨a, b⟩ := pr_mono k (fun t ht => h t (by omega))
    obtain ⟨c, d⟩ := h k (by omega)
    exact ⟨Int.mul_nonneg a c, Int.mul_le_mul b d c (by omega)⟩
theorem sm_bd {f : Nat → Int} {M : Int} : ∀ k, (∀ t, t < k → 0 ≤ f t ∧ f t ≤ M) → 0 ≤ sm f k ∧ sm f k ≤ k * M
  | 0, _ => by show (0 : Int) ≤ 0 ∧ (0 : Int) ≤ 0 * M; omega
  | k + 1, h => by
    obtain ⟨a, b⟩ := sm_bd k (fun t ht => h t (by omega))
    obtain ⟨c, d⟩ := h k (by omega)
    show 0 ≤ sm f k + f k ∧ sm f k + f k ≤ (k + 1 : Nat) * M
    refine ⟨by omega, ?_⟩
    have : ((k + 1 : Nat) : Int) * M = k * M + M := by rw [Int.natCast_add]; grind
    omega
theorem opB_s {S : z_Stt} (h : Inv S) {t : Int32} (m : Int32) (ht : 0 ≤ t ∧ t < 6) : (opN S t m).toInt ≤ (opB S t m).toInt ∧ (opB S t m).toInt ≤ 1728 := by
  have f := fV_ok h ht
  have s := stP_ok h m ht
  have r := trP_ok h m ht
  have a := mul64 f s
  have f2 : 0 ≤ 144 - vAt S (6 * 0 + t) ∧ 144 - vAt S (6 * 0 + t) ≤ 144 := by generalize vAt S (6 * 0 + t) = x at f; lia
  have q := mul64 f2 r
  have i144 : (144 : Int32).toInt = 144 := rfl
  have i12 : (12 : Int32).toInt = 12 := rfl
  have f' := rg f
  have s' := rg s
  have r' := rg r
  rw [z0_32, i144] at f'
  rw [z0_32, i12] at s' r'
  have e : (144 - vAt S (6 * 0 + t)).toInt = 144 - (vAt S (6 * 0 + t)).toInt := by
    rw [Int32.toInt_sub, i144]; exact Int.bmod_eq_of_le (by omega) (by omega)
  rw [← opB_e f, Int64.toInt_add]
  unfold opN
  rw [a.1, q.1, e]
  rw [e] at q
  have l1 : (vAt S (6 * 0 + t)).toInt * (stP S t m).toInt ≤ (vAt S (6 * 0 + t)).toInt * 12 := Int.mul_le_mul_of_nonneg_left s'.2 f'.1
  have l2 : (144 - (vAt S (6 * 0 + t)).toInt) * (trP S t m).toInt ≤ (144 - (vAt S (6 * 0 + t)).toInt) * 12 := Int.mul_le_mul_of_nonneg_left r'.2 (by omega)
  rw [Int.bmod_eq_of_le (by omega) (by omega)]
  omega
/-- what is in doubt, as whole numbers: above and below the line, in lowest terms, and what divides both -/
def dN (S : z_Stt) (z t : Nat) : Int64 := opN S (Int32.ofNat t) (Int32.ofNat (bt z t))
def dB (S : z_Stt) (z t : Nat) : Int64 := opB S (Int32.ofNat t) (Int32.ofNat (bt z t))
def nD (S : z_Stt) (y z t : Nat) : Int := if y.testBit t = true ∧ 0 < dB S z t then (dN S z t / gV (dN S z t) (dB S z t)).toInt else 0
def bD (S : z_Stt) (y z t : Nat) : Int := if y.testBit t = true ∧ 0 < dB S z t then (dB S z t / gV (dN S z t) (dB S z t)).toInt else 1
def gD (S : z_Stt) (y z t : Nat) : Int := if y.testBit t = true ∧ 0 < dB S z t then (gV (dN S z t) (dB S z t)).toInt else 1
def hD (S : z_Stt) (t : Nat) : Int := (vAt S (6 * 3 + Int32.ofNat t)).toInt
def pB (S : z_Stt) (y z t : Nat) : Int := if y.testBit t = true then (dB S z t).toInt else 1
def capV (y t : Nat) : Int := if y.testBit t = true then 1728 else 1
theorem cap_6 : ∀ y : Fin 64, pcN y.val ≤ 4 → pr (capV y.val) 6 ≤ 8916100448256 := by decide +kernel
def allP (S : z_Stt) (y z : Nat) : Prop := ∀ t, t < 6 → y.testBit t = true → 0 < dB S z t
def Dok (y : Nat) (n b g h : Nat → Int) : Prop := y < 64 ∧ (∀ t, t < 6 → 0 < g t ∧ 0 < b t ∧ 0 ≤ n t ∧ n t ≤ b t ∧ 0 ≤ h t ∧ h t ≤ 999 ∧ (¬ y.testBit t = true → n t = 0 ∧ b t = 1 ∧ g t = 1)) ∧ pr (fun t => g t * b t) 6 ≤ 8916100448256
theorem on_06 {t : Nat} (h : t < 6) : 0 ≤ Int32.ofNat t ∧ Int32.ofNat t < 6 := by
  refine ⟨on_p0 (by omega), ?_⟩
  rw [on_6 (by omega)]; exact h
theorem pB_ok {S : z_Stt} (h : Inv S) (y z : Nat) {t : Nat} (ht : t < 6) : 0 ≤ pB S y z t ∧ pB S y z t ≤ capV y t := by
  unfold pB capV
  split
  · exact ⟨(opB_ok h _ (on_06 ht)).1, (opB_s h _ (on_06 ht)).2⟩
  · omega
theorem pB_bd {S : z_Stt} (h : Inv S) {y : Nat} (z : Nat) (hy : y < 64) (hc : pcN y ≤ 4) {k : Nat} (hk : k ≤ 6) : 0 ≤ pr (pB S y z) k ∧ pr (pB S y z) k ≤ 8916100448256 := by
  have a := pr_mono (f := pB S y z) (g := capV y) k (fun t ht => pB_ok h y z (by omega))
  have b := pr_le' (f := capV y) (n := 6) (k := k) (fun t _ => by unfold capV; split <;> omega) hk
  have c := cap_6 ⟨y, hy⟩ hc
  have d : pr (capV y) 6 ≤ 8916100448256 := c
  exact ⟨a.1, by omega⟩
theorem D_key {S : z_Stt} (h : Inv S) {y z t : Nat} (ht : t < 6) (hb : y.testBit t = true ∧ 0 < dB S z t) : 0 < gD S y z t ∧ 0 < bD S y z t ∧ 0 ≤ nD S y z t ∧ nD S y z t ≤ bD S y z t ∧ (dN S z t).toInt = gD S y z t * nD S y z t ∧ (dB S z t).toInt = gD S y z t * bD S y z t := by
  have nb := opN_ok h (Int32.ofNat (bt z t)) (on_06 ht)
  have s := opB_s h (Int32.ofNat (bt z t)) (on_06 ht)
  obtain ⟨g, n, c', gp, ea, eb, eg, en, ec, n0, n1, c0, c1⟩ := divg (a := dN S z t) (b := dB S z t) nb.1 hb.2
  unfold gD nD bD
  rw [if_pos hb, if_pos hb, if_pos hb, eg, en, ec]
  have s1 : (dN S z t).toInt ≤ (dB S z t).toInt := s.1
  rw [ea, eb] at s1
  exact ⟨gp, c0, n0, Int.le_of_mul_le_mul_left s1 gp, ea, eb⟩
theorem D_ok {S : z_Stt} (h : Inv S) {y : Nat} (z : Nat) (hy : y < 64) (hc : pcN y ≤ 4) : Dok y (nD S y z) (bD S y z) (gD S y z) (hD S) := by
  refine ⟨hy, fun t ht => ?_, ?_⟩
  · have hv := rg (hV_ok h (on_06 ht))
    have i999 : (999 : Int32).toInt = 999 := rfl
    rw [z0_32, i999] at hv
    by_cases hb : y.testBit t = true ∧ 0 < dB S z t
    · obtain ⟨k1, k2, k3, k4, -, -⟩ := D_key h ht hb
      exact ⟨k1, k2, k3, k4, hv.1, hv.2, fun q => absurd hb.1 q⟩
    · unfold gD bD nD
      rw [if_neg hb, if_neg hb, if_neg hb]
      exact ⟨by omega, by omega, by omega, by omega, hv.1, hv.2, fun _ => ⟨rfl, rfl, rfl⟩⟩
  · have a := pr_mono (f := fun t => gD S y z t * bD S y z t) (g := capV y) 6 (fun t ht => by
      by_cases hb : y.testBit t = true ∧ 0 < dB S z t
      · obtain ⟨k1, k2, k3, k4, -, k6⟩ := D_key h ht hb
        have s := opB_s h (Int32.ofNat (bt z t)) (on_06 ht)
        have s2 : (dB S z t).toInt ≤ 1728 := s.2
        have p := hb.2
        rw [i64lt] at p
        show 0 ≤ gD S y z t * bD S y z t ∧ gD S y z t * bD S y z t ≤ capV y t
        rw [← k6]
        unfold capV
        rw [if_pos hb.1]; omega
      · show 0 ≤ gD S y z t * bD S y z t ∧ gD S y z t * bD S y z t ≤ capV y t
        unfold gD bD capV
        rw [if_neg hb, if_neg hb]
        split <;> omega)
    have c : pr (capV y) 6 ≤ 8916100448256 := cap_6 ⟨y, hy⟩ hc
    omega
theorem D_pB {S : z_Stt} (h : Inv S) {y z : Nat} (p : allP S y z) {t : Nat} (ht : t < 6) : pB S y z t = gD S y z t * bD S y z t := by
  by_cases hb : y.testBit t = true
  · unfold pB
    rw [if_pos hb]; exact (D_key h ht ⟨hb, p t ht hb⟩).2.2.2.2.2
  · unfold pB gD bD
    rw [if_neg hb, if_neg (fun q => hb q.1), if_neg (fun q => hb q.1)]; rfl
