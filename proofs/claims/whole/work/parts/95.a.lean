/-! DOUBTS: the bits -/
theorem ti_on {k : Nat} (h : k < 2147483648) : (Int32.ofNat k).toInt = (k : Int) := Int32.toInt_ofNat_of_lt (by omega)
theorem shr6 (x : Int32) : (x >>> (6 &&& 31)).toInt = x.toInt / 64 := by
  have e : (x >>> (6 &&& 31)).toBitVec = x.toBitVec.sshiftRight 6 := by
    rw [Int32.toBitVec_shiftRight]; rfl
  show (x >>> (6 &&& 31)).toBitVec.toInt = _
  rw [e, BitVec.toInt_sshiftRight, Int.shiftRight_eq_div_pow]
  rfl
theorem and63 {n : Nat} (h : n < 2147483648) : Int32.ofNat n &&& 63 = Int32.ofNat (n % 64) := by
  rw [← Int32.toBitVec_inj, Int32.toBitVec_and]
  apply BitVec.eq_of_toNat_eq
  rw [BitVec.toNat_and]
  show (n % 2 ^ 32) &&& 63 = (n % 64) % 2 ^ 32
  rw [Nat.mod_eq_of_lt (by omega : n < 2 ^ 32), Nat.mod_eq_of_lt (by omega : n % 64 < 2 ^ 32)]
  exact Nat.and_two_pow_sub_one_eq_mod n 6
theorem div64 {n : Nat} (h : n < 2147483648) : Int32.ofNat n / 64 = Int32.ofNat (n / 64) := by
  have i : (64 : Int32).toInt = 64 := rfl
  rw [← Int32.toInt_inj, Int32.toInt_div, ti_on h, ti_on (by omega), i, Int.tdiv_eq_ediv_of_nonneg (by omega)]
  have e : (n : Int) / 64 = ((n / 64 : Nat) : Int) := by omega
  rw [e]; exact Int.bmod_eq_of_le (by omega) (by omega)
theorem mod64 {n : Nat} (h : n < 2147483648) : Int32.ofNat n % 64 = Int32.ofNat (n % 64) := by
  have i : (64 : Int32).toInt = 64 := rfl
  rw [← Int32.toInt_inj, Int32.toInt_mod, ti_on h, ti_on (by omega), i, Int.tmod_eq_emod_of_nonneg (by omega)]
  omega
theorem shr6n {n : Nat} (h : n < 2147483648) : Int32.ofNat n >>> (6 &&& 31) = Int32.ofNat (n / 64) := by
  rw [← Int32.toInt_inj, shr6, ti_on h, ti_on (by omega)]; omega
theorem sub6 {x y : Nat} (hx : x < 2147483648) (hy : y < 64) (h : Int32.ofNat x &&& (Int32.ofNat y ^^^ (-1)) = 0) : x < 64 := by
  have e := congrArg (fun z => z.toBitVec.toNat) h
  have e2 : (Int32.ofNat x &&& (Int32.ofNat y ^^^ (-1))).toBitVec.toNat = x &&& (y ^^^ (2 ^ 32 - 1)) := by
    rw [Int32.toBitVec_and, BitVec.toNat_and, Int32.toBitVec_xor, BitVec.toNat_xor]
    show (x % 2 ^ 32) &&& ((y % 2 ^ 32) ^^^ 4294967295) = _
    rw [Nat.mod_eq_of_lt (by omega : x < 2 ^ 32), Nat.mod_eq_of_lt (by omega : y < 2 ^ 32)]
  have e3 : x &&& (y ^^^ (2 ^ 32 - 1)) = 0 := e2.symm.trans e
  refine Nat.lt_pow_two_of_testBit (n := 6) x (fun i hi => ?_)
  have e4 := congrArg (fun z => z.testBit i) e3
  simp only [Nat.testBit_and, Nat.testBit_xor, Nat.zero_testBit, Nat.testBit_two_pow_sub_one] at e4
  have yi : y.testBit i = false := Nat.testBit_lt_two_pow (x := y) (Nat.lt_of_lt_of_le (show y < 2 ^ 6 from hy) (Nat.pow_le_pow_right (n := 2) (by decide) hi))
  by_cases c : i < 32
  · rw [yi, decide_eq_true c] at e4
    simpa using e4
  · exact Nat.testBit_lt_two_pow (x := x) (Nat.lt_of_lt_of_le (show x < 2 ^ 31 from hx) (Nat.pow_le_pow_right (n := 2) (by decide) (by omega)))
def pcL : Nat → Int32 → Int32 → Option Int32
  | 0, _, _ => none
  | m + 1, x1, x2 => if x2 = 0 then some x1 else pcL m (x1 + 1) (x2 &&& (x2 - 1))
def bt (k i : Nat) : Nat := if k.testBit i = true then 1 else 0
def pcN (k : Nat) : Nat := bt k 0 + bt k 1 + bt k 2 + bt k 3 + bt k 4 + bt k 5
theorem pcL_8 : ∀ k : Fin 64, pcL 8 0 (Int32.ofNat k.val) = some (Int32.ofNat (pcN k.val)) := by decide +kernel
def z00 : z_Stt := (fun _ => 0, fun _ => 0, fun _ _ => 0, fun _ _ => 0, fun _ => 0)
def jbV (a : Int32) : Int32 := ((f_J6_bitCount_0f7a4 a z00).map Prod.fst).getD 0
theorem jb_e (a : Int32) (S : z_Stt) : f_J6_bitCount_0f7a4 a S = some (jbV a, S) := rfl
theorem jb_8 : ∀ k : Fin 64, jbV (Int32.ofNat k.val) = Int32.ofNat (pcN k.val) := by decide +kernel
theorem e_bc {k : Nat} (h : k < 64) (S : z_Stt) : f_J6_bitCount_0f7a4 (Int32.ofNat k) S = some (Int32.ofNat (pcN k), S) := by
  rw [jb_e, jb_8 ⟨k, h⟩]
theorem bo_L (n : Nat) (S : z_Stt) : ∀ (j m : Nat) (x1 x2 : Int32) (v : Int32), pcL j x1 x2 = some v → j ≤ m → f_X11_bitsOf_4 n m x1 x2 S = some (v, S) := by
  intro j
  induction j with
  | zero => intro m x1 x2 v h; cases h
  | succ j ih =>
    intro m x1 x2 v h hm
    obtain ⟨m, rfl⟩ : ∃ q, m = q + 1 := ⟨m - 1, by omega⟩
    rw [pcL] at h
    rw [f_X11_bitsOf_4]
    by_cases c : x2 = 0
    · rw [if_pos c] at h ⊢
      cases h; rfl
    · rw [if_neg c] at h ⊢
      exact ih m _ _ v h (by omega)
theorem e_bo {n k : Nat} (hn : 8 ≤ n) (h : k < 64) (S : z_Stt) : f_X11_bitsOf n (Int32.ofNat k) S = some (Int32.ofNat (pcN k), S) := by
  unfold f_X11_bitsOf
  exact bo_L n S 8 n 0 _ _ (pcL_8 ⟨k, h⟩) hn
theorem arT : ∀ k : Fin 64, ∀ t : Fin 7, (Int32.ofNat k.val >>> (Int32.ofNat t.val &&& 31) = 0) ↔ (k.val < 2 ^ t.val) := by decide +kernel
theorem arR : ∀ k : Fin 64, ∀ t : Fin 7, (1 <<< (Int32.ofNat t.val &&& 31) ≤ Int32.ofNat k.val) ↔ ¬ (k.val < 2 ^ t.val) := by decide +kernel
theorem inN8 : ∀ k : Fin 64, ∀ t : Fin 6, ((Int32.ofNat k.val >>> (Int32.ofNat t.val &&& 31)) &&& 1 = 1) ↔ k.val.testBit t.val = true := by decide +kernel
theorem inZ8 : ∀ k : Fin 64, ∀ t : Fin 6, ((Int32.ofNat k.val >>> (Int32.ofNat t.val &&& 31)) &&& 1 = 0) ↔ ¬ k.val.testBit t.val = true := by decide +kernel
theorem inV8 : ∀ k : Fin 64, ∀ t : Fin 6, ((Int32.ofNat k.val >>> (Int32.ofNat t.val &&& 31)) &&& 1) = Int32.ofNat (bt k.val t.val) := by decide +kernel
theorem inN {k t : Nat} (hk : k < 64) (ht : t < 6) : ((Int32.ofNat k >>> (Int32.ofNat t &&& 31)) &&& 1 = 1) ↔ k.testBit t = true := inN8 ⟨k, hk⟩ ⟨t, ht⟩
theorem inZ {k t : Nat} (hk : k < 64) (ht : t < 6) : ((Int32.ofNat k >>> (Int32.ofNat t &&& 31)) &&& 1 = 0) ↔ ¬ k.testBit t = true := inZ8 ⟨k, hk⟩ ⟨t, ht⟩
theorem inV {k t : Nat} (hk : k < 64) (ht : t < 6) : ((Int32.ofNat k >>> (Int32.ofNat t &&& 31)) &&& 1) = Int32.ofNat (bt k t) := inV8 ⟨k, hk⟩ ⟨t, ht⟩
theorem e_isIn {k t : Nat} (hk : k < 64) (ht : t < 6) (S : z_Stt) : f_X11_isIn (Int32.ofNat k) (Int32.ofNat t) S = some (k.testBit t, S) := by
  unfold f_X11_isIn
  by_cases c : k.testBit t = true
  · rw [if_pos ((inN hk ht).mpr c), c]
  · rw [if_neg (fun q => c ((inN hk ht).mp q)), Bool.eq_false_iff.mpr c]
theorem e_has {k t : Nat} (hk : k < 64) (ht : t < 6) {S : z_Stt} (h : S.1 1800 = Int32.ofNat k) : f_X2_has (Int32.ofNat t) S = some (k.testBit t, S) := by
  unfold f_X2_has
  rw [h]
  by_cases c : k.testBit t = true
  · rw [if_pos ((inN hk ht).mpr c), c]
  · rw [if_neg (fun q => c ((inN hk ht).mp q)), Bool.eq_false_iff.mpr c]
/-- a right doubt: y in doubt, z of them remembered -/
def okD (th y z : Nat) : Prop := Int32.ofNat z &&& (Int32.ofNat y ^^^ (-1)) = 0 ∧ y < 2 ^ th ∧ pcN y ≤ 4
theorem e_areT {k th : Nat} (hk : k < 64) (ht : th ≤ 6) {S : z_Stt} (h : S.1 101 = Int32.ofNat th) : f_X10_areThings (Int32.ofNat k) S = some (decide (k < 2 ^ th), S) := by
  unfold f_X10_areThings
  rw [if_neg (Int32.not_lt.mpr (on_p0 (by omega))), h]
  have e := arT ⟨k, hk⟩ ⟨th, by omega⟩
  by_cases c : k < 2 ^ th
  · rw [if_pos (e.mpr c), decide_eq_true c]
  · rw [if_neg (fun q => c (e.mp q)), decide_eq_false c]
theorem e_isDb {n th : Nat} (hn : n < 2147483648) (ht : th ≤ 6) {S : z_Stt} (h : S.1 101 = Int32.ofNat th) : ∃ b : Bool, (b = true ↔ okD th (n % 64) (n / 64)) ∧ f_X10_isDoubt (Int32.ofNat n) S = some (b, S) := by
  have n0 : ¬ Int32.ofNat n < 0 := by rw [Int32.lt_iff_toInt_lt, z0_32, ti_on hn]; omega
  have i4 : (4 : Int32).toInt = 4 := rfl
  have p6 : pcN (n % 64) ≤ 6 := by unfold pcN bt; repeat (first | omega | split)
  unfold f_X10_isDoubt
  rw [if_neg n0, shr6n hn, and63 hn]
  by_cases c1 : Int32.ofNat (n / 64) &&& (Int32.ofNat (n % 64) ^^^ (-1)) = 0
  · rw [if_pos c1, e_areT (by omega) ht h, g_bds]
    by_cases c2 : n % 64 < 2 ^ th
    · rw [decide_eq_true c2, if_pos rfl, e_bc (by omega), g_bds]
      by_cases c3 : pcN (n % 64) ≤ 4
      · rw [if_neg (by rw [Int32.lt_iff_toInt_lt, i4, on_ti (by omega)]; omega)]
        exact ⟨true, ⟨fun _ => ⟨c1, c2, c3⟩, fun _ => rfl⟩, rfl⟩
      · rw [if_pos (by rw [Int32.lt_iff_toInt_lt, i4, on_ti (by omega)]; omega)]
        exact ⟨false, ⟨fun q => absurd q (by decide), fun q => absurd q.2.2 c3⟩, rfl⟩
    · rw [decide_eq_false c2, if_neg (by decide)]
      exact ⟨false, ⟨fun q => absurd q (by decide), fun q => absurd q.2.1 c2⟩, rfl⟩
  · rw [if_neg c1]
    exact ⟨false, ⟨fun q => absurd q (by decide), fun q => absurd q.1 c1⟩, rfl⟩
theorem e_isDr {F n th : Nat} (hF : 8 ≤ F) (hn : n < 2147483648) (ht : th ≤ 6) {S : z_Stt} (h : S.1 4806 = Int32.ofNat th) : ∃ b : Bool, (b = true ↔ okD th (n % 64) (n / 64)) ∧ f_X11_isDr F (Int32.ofNat n) S = some (b, S) := by
  have n0 : ¬ Int32.ofNat n < 0 := by rw [Int32.lt_iff_toInt_lt, z0_32, ti_on hn]; omega
  have i4 : (4 : Int32).toInt = 4 := rfl
  have i64 : (64 : Int32).toInt = 64 := rfl
  have p6 : pcN (n % 64) ≤ 6 := by unfold pcN bt; repeat (first | omega | split)
  unfold f_X11_isDr
  rw [if_neg n0, div64 hn, mod64 hn, h]
  by_cases c0 : 64 ≤ n / 64
  · rw [if_pos (by rw [Int32.le_iff_toInt_le, i64, ti_on (by omega)]; omega)]
    exact ⟨false, ⟨fun q => absurd q (by decide), fun q => absurd (sub6 (by omega) (by omega) q.1) (by omega)⟩, rfl⟩
  · rw [if_neg (by rw [Int32.le_iff_toInt_le, i64, ti_on (by omega)]; omega)]
    by_cases c1 : Int32.ofNat (n / 64) &&& (Int32.ofNat (n % 64) ^^^ (-1)) = 0
    · have e := arR ⟨n % 64, by omega⟩ ⟨th, by omega⟩
      rw [if_pos c1]
      by_cases c2 : n % 64 < 2 ^ th
      · rw [if_neg (fun q => e.mp q c2), e_bo hF (by omega), g_bds]
        by_cases c3 : pcN (n % 64) ≤ 4
        · rw [if_neg (by rw [Int32.lt_iff_toInt_lt, i4, on_ti (by omega)]; omega)]
          exact ⟨true, ⟨fun _ => ⟨c1, c2, c3⟩, fun _ => rfl⟩, rfl⟩
        · rw [if_pos (by rw [Int32.lt_iff_toInt_lt, i4, on_ti (by omega)]; omega)]
          exact ⟨false, ⟨fun q => absurd q (by decide), fun q => absurd q.2.2 c3⟩, rfl⟩
      · rw [if_pos (e.mpr c2)]
        exact ⟨false, ⟨fun q => absurd q (by decide), fun q => absurd q.2.1 c2⟩, rfl⟩
    · rw [if_neg c1]
      exact ⟨false, ⟨fun q => absurd q (by decide), fun q => absurd q.1 c1⟩, rfl⟩
theorem in_lt {y th t : Nat} (h : y < 2 ^ th) (b : y.testBit t = true) : t < th := by
  by_cases c : t < th
  · exact c
  · have := Nat.testBit_lt_two_pow (x := y) (i := t) (Nat.lt_of_lt_of_le h (Nat.pow_le_pow_right (by decide) (by omega)))
    rw [this] at b; cases b
