/-! LAW: the reader's place and fault, on both sides -/
def kC (S : z_Stt) (p : Nat) (f : Int32) : z_Stt := sI (sI S 1305 (Int32.ofNat p)) 1306 f
def kR (T : z_Stt) (p : Nat) (f o : Int32) : z_Stt := sI (sI (sI T 4818 (Int32.ofNat p)) 4820 f) 4821 o
def envC (S : z_Stt) (tx : Nat → Int32) (sz : Nat) : Prop := S.1 1303 = Int32.ofNat sz ∧ (S.2.2.2.2 1302 = 14 ∨ S.2.2.2.2 1302 = 15) ∧ ∀ k, k < sz → S.2.2.1 (S.2.2.2.2 1302) k = tx k
def envR (T : z_Stt) (tx : Nat → Int32) (sz : Nat) : Prop := T.1 4819 = Int32.ofNat sz ∧ ((T.1 4817 = -1 ∧ ∀ k, k < sz → T.2.2.1 55 k = tx k) ∨ (T.1 4817 = 0 ∧ ∀ k, k < sz → T.2.2.1 56 k = tx k))
/-- N: the names stand for the same -/
def env (N : Prop) (S T : z_Stt) (tx : Nat → Int32) (sz : Nat) : Prop := sz ≤ 120 ∧ (∀ k, k < sz → 0 ≤ tx k ∧ tx k ≤ 255) ∧ envC S tx sz ∧ envR T tx sz ∧ (N → ∀ i, i < 6 → S.2.2.1 16 i = T.2.2.1 57 i)
theorem kC_5 (S : z_Stt) (p q : Nat) (f : Int32) : sI (kC S p f) 1305 (Int32.ofNat q) = kC S q f := by
  refine z_ext ?_ rfl rfl rfl rfl
  funext n
  show (if n = 1305 then Int32.ofNat q else if n = 1306 then f else if n = 1305 then Int32.ofNat p else S.1 n) = if n = 1306 then f else if n = 1305 then Int32.ofNat q else S.1 n
  by_cases c : n = 1305
  · subst c; rfl
  · rw [if_neg c, if_neg c, if_neg c]
theorem kC_6 (S : z_Stt) (p : Nat) (f g : Int32) : sI (kC S p f) 1306 g = kC S p g := by
  refine z_ext ?_ rfl rfl rfl rfl
  funext n
  show (if n = 1306 then g else if n = 1306 then f else if n = 1305 then Int32.ofNat p else S.1 n) = if n = 1306 then g else if n = 1305 then Int32.ofNat p else S.1 n
  by_cases c : n = 1306
  · subst c; rfl
  · rw [if_neg c, if_neg c, if_neg c]
theorem kR_8 (T : z_Stt) (p q : Nat) (f o : Int32) : sI (kR T p f o) 4818 (Int32.ofNat q) = kR T q f o := by
  refine z_ext ?_ rfl rfl rfl rfl
  funext n
  show (if n = 4818 then Int32.ofNat q else if n = 4821 then o else if n = 4820 then f else if n = 4818 then Int32.ofNat p else T.1 n) = if n = 4821 then o else if n = 4820 then f else if n = 4818 then Int32.ofNat q else T.1 n
  by_cases c : n = 4818
  · subst c; rfl
  · rw [if_neg c, if_neg c, if_neg c]
theorem kR_20 (T : z_Stt) (p : Nat) (f g o : Int32) : sI (kR T p f o) 4820 g = kR T p g o := by
  refine z_ext ?_ rfl rfl rfl rfl
  funext n
  show (if n = 4820 then g else if n = 4821 then o else if n = 4820 then f else if n = 4818 then Int32.ofNat p else T.1 n) = if n = 4821 then o else if n = 4820 then g else if n = 4818 then Int32.ofNat p else T.1 n
  by_cases c : n = 4820
  · subst c; rfl
  · rw [if_neg c, if_neg c, if_neg c]
theorem kR_21 (T : z_Stt) (p : Nat) (f o u : Int32) : sI (kR T p f o) 4821 u = kR T p f u := by
  refine z_ext ?_ rfl rfl rfl rfl
  funext n
  show (if n = 4821 then u else if n = 4821 then o else if n = 4820 then f else if n = 4818 then Int32.ofNat p else T.1 n) = if n = 4821 then u else if n = 4820 then f else if n = 4818 then Int32.ofNat p else T.1 n
  by_cases c : n = 4821
  · subst c; rfl
  · rw [if_neg c, if_neg c, if_neg c]
theorem on_le {a b : Nat} (ha : a ≤ 2000) (hb : b ≤ 2000) : (Int32.ofNat a ≤ Int32.ofNat b) = (a ≤ b) := by
  rw [Int32.le_iff_toInt_le, on_ti (by omega), on_ti (by omega)]; exact propext (by omega)
theorem on_120 {a : Nat} (ha : a ≤ 2000) : (120 ≤ Int32.ofNat a) = (120 ≤ a) := on_le (a := 120) (by omega) ha
theorem on_v {p : Nat} (h : p < 120) : ¬ (Int32.ofNat p < 0 ∨ 120 ≤ (Int32.ofNat p).toNatClampNeg) := by
  rw [on_tn (by omega)]
  have := on_p0 (c := p) (by omega)
  rintro (c | c)
  · exact absurd this (Int32.not_le.mpr c)
  · omega
theorem e_letter {N : Prop} {S T : z_Stt} {tx : Nat → Int32} {sz p : Nat} (f : Int32) (hE : env N S T tx sz) (hp : p ≤ sz) : f_X6_letter (kC S p f) = some (if f < 0 ∧ p < sz then tx p else -1, kC S p f) := by
  obtain ⟨h1, h2, ⟨h3, h4, h5⟩, -, -⟩ := hE
  have r6 : (kC S p f).1 1306 = f := rfl
  have r5 : (kC S p f).1 1305 = Int32.ofNat p := rfl
  have r3 : (kC S p f).1 1303 = Int32.ofNat sz := h3
  have rr : (kC S p f).2.2.2.2 1302 = S.2.2.2.2 1302 := rfl
  have ra : (kC S p f).2.2.1 (S.2.2.2.2 1302) = S.2.2.1 (S.2.2.2.2 1302) := rfl
  unfold f_X6_letter
  rw [r6, r5, r3, rr, ra]
  by_cases c : 0 ≤ f
  · rw [if_pos c, if_neg (fun q => absurd c (Int32.not_le.mpr q.1))]
  · rw [if_neg c, if_neg (Int32.not_lt.mpr (on_p0 (by omega)))]
    by_cases c2 : p < sz
    · rw [if_neg (by rw [on_le (by omega) (by omega)]; omega), if_neg (by rw [on_120 (by omega)]; omega), if_pos h4, if_pos (on_v (by omega)), on_tn (by omega), h5 p c2, if_pos ⟨Int32.not_le.mp c, c2⟩]
    · rw [if_pos (by rw [on_le (by omega) (by omega)]; omega), if_neg (fun q => c2 q.2)]
theorem e_byteAt {N : Prop} {S T : z_Stt} {tx : Nat → Int32} {sz p : Nat} (f o : Int32) (hE : env N S T tx sz) (hp : p ≤ sz) : f_X11_byteAt (kR T p f o) = some (if p < sz then tx p else 0, kR T p f o) := by
  obtain ⟨h1, h2, -, ⟨h3, h4⟩, -⟩ := hE
  have r5 : (kR T p f o).1 4818 = Int32.ofNat p := rfl
  have r3 : (kR T p f o).1 4819 = Int32.ofNat sz := h3
  have r7 : (kR T p f o).1 4817 = T.1 4817 := rfl
  have r55 : (kR T p f o).2.2.1 55 = T.2.2.1 55 := rfl
  have r56 : (kR T p f o).2.2.1 56 = T.2.2.1 56 := rfl
  unfold f_X11_byteAt
  rw [r5, r3, r7, r55, r56]
  by_cases c2 : p < sz
  · rw [if_neg (by rw [on_le (by omega) (by omega)]; omega), if_pos c2]
    rcases h4 with ⟨h4, h5⟩ | ⟨h4, h5⟩
    · rw [h4, if_neg (by decide +kernel), if_pos (on_v (by omega)), on_tn (by omega), h5 p c2]
    · have z : (0 : Int32) + Int32.ofNat p = Int32.ofNat p := Int32.zero_add _
      rw [h4, if_pos (by decide +kernel), z, if_pos (on_v (by omega)), on_tn (by omega), h5 p c2]
  · rw [if_pos (by rw [on_le (by omega) (by omega)]; omega), if_neg c2]
def tkP (tx : Nat → Int32) (sz p : Nat) (f c : Int32) : Prop := f < 0 ∧ p < sz ∧ tx p = c
theorem tk10y {N : Prop} {S T : z_Stt} {tx : Nat → Int32} {sz p : Nat} {f c : Int32} (hE : env N S T tx sz) (hp : p ≤ sz) (h : tkP tx sz p f c) : f_X6_takes c (kC S p f) = some (true, kC S (p + 1) f) := by
  have h1 := hE.1
  have r5 : (kC S p f).1 1305 = Int32.ofNat p := rfl
  unfold f_X6_takes
  rw [e_letter f hE hp, g_bds, if_pos (show f < 0 ∧ p < sz from ⟨h.1, h.2.1⟩), if_pos h.2.2, g_lets, r5, on_s p (by omega), kC_5]
theorem tk10n {N : Prop} {S T : z_Stt} {tx : Nat → Int32} {sz p : Nat} {f c : Int32} (hE : env N S T tx sz) (hp : p ≤ sz) (hc : 0 < c) (h : ¬ tkP tx sz p f c) : f_X6_takes c (kC S p f) = some (false, kC S p f) := by
  unfold f_X6_takes
  rw [e_letter f hE hp, g_bds]
  by_cases q : f < 0 ∧ p < sz
  · rw [if_pos q, if_neg (fun z => h ⟨q.1, q.2, z⟩)]
  · rw [if_neg q, if_neg (by lia)]
theorem tk11y {N : Prop} {S T : z_Stt} {tx : Nat → Int32} {sz p : Nat} {f c : Int32} (o : Int32) (hE : env N S T tx sz) (hp : p ≤ sz) (h : tkP tx sz p f c) : f_X11_takes c (kR T p f o) = some (true, kR T (p + 1) f o) := by
  have h1 := hE.1
  have r5 : (kR T p f o).1 4818 = Int32.ofNat p := rfl
  have r20 : (kR T p f o).1 4820 = f := rfl
  unfold f_X11_takes
  rw [r20, if_neg (Int32.not_le.mpr h.1), e_byteAt f o hE hp, g_bds, if_pos h.2.1, if_pos h.2.2, g_lets, r5, on_s p (by omega), kR_8]
theorem tk11n {N : Prop} {S T : z_Stt} {tx : Nat → Int32} {sz p : Nat} {f c : Int32} (o : Int32) (hE : env N S T tx sz) (hp : p ≤ sz) (hc : 0 < c) (h : ¬ tkP tx sz p f c) : f_X11_takes c (kR T p f o) = some (false, kR T p f o) := by
  have r20 : (kR T p f o).1 4820 = f := rfl
  unfold f_X11_takes
  rw [r20]
  by_cases q : 0 ≤ f
  · rw [if_pos q]
  · rw [if_neg q, e_byteAt f o hE hp, g_bds]
    by_cases r : p < sz
    · rw [if_pos r, if_neg (fun z => h ⟨Int32.not_le.mp q, r, z⟩)]
    · rw [if_neg r, if_neg (by lia)]
def fxV (p : Nat) (f : Int32) : Int32 := if 0 ≤ f then f else Int32.ofNat p
theorem fx_0 {p : Nat} {f : Int32} (hp : p ≤ 120) : ¬ fxV p f < 0 := by
  unfold fxV
  split
  · rename_i h; exact Int32.not_lt.mpr h
  · exact Int32.not_lt.mpr (on_p0 (by omega))
theorem e_fails (S : z_Stt) (p : Nat) (f : Int32) : f_X6_fails (kC S p f) = some (0, kC S p (fxV p f)) := by
  have r5 : (kC S p f).1 1305 = Int32.ofNat p := rfl
  have r6 : (kC S p f).1 1306 = f := rfl
  unfold f_X6_fails fxV
  rw [r6, r5]
  by_cases c : 0 ≤ f
  · rw [if_pos c, if_pos c]
  · rw [if_neg c, if_neg c, g_lets, kC_6]
theorem e_wrong (T : z_Stt) (p : Nat) (f o : Int32) : f_X11_wrong (kR T p f o) = some (0, kR T p (fxV p f) o) := by
  have r5 : (kR T p f o).1 4818 = Int32.ofNat p := rfl
  have r6 : (kR T p f o).1 4820 = f := rfl
  unfold f_X11_wrong fxV f_X11_wrong_19
  rw [r6, r5]
  by_cases c : 0 ≤ f
  · rw [if_pos c, if_pos c, g_lets, kR_20]
  · rw [if_neg c, if_neg c, g_lets, kR_20]
def nmV (c : Int32) : Int32 := if c = 104 then 1 else if c = 110 then 5 else if c = 111 then 0 else if c = 112 then 3 else if c = 118 then 4 else if c = 121 then 2 else -1
theorem e_nm10 (c : Int32) (S : z_Stt) : f_X6_nameOf c S = some (nmV c, S) := by
  unfold f_X6_nameOf nmV
  repeat (split; rfl)
  rfl
theorem e_nm11 (c : Int32) (S : z_Stt) : f_X11_nameOf c S = some (nmV c, S) := by
  unfold f_X11_nameOf nmV
  repeat (split; rfl)
  rfl
theorem nm_ok (c : Int32) : nmV c < 0 ∨ (0 ≤ nmV c ∧ nmV c < 6 ∧ 104 ≤ c) := by
  unfold nmV; grind
/-- both readers go alike -/
def Sim (N : Prop) (S T : z_Stt) (sz : Nat) (d : Nat) (A B : z_Stt → Option (Int32 × z_Stt)) : Prop := ∀ (p : Nat) (f o : Int32), p ≤ sz → (f < 0 → o = Int32.ofNat d) → ∃ (v w : Int32) (p' : Nat) (f' o' : Int32), A (kC S p f) = some (v, kC S p' f') ∧ B (kR T p f o) = some (w, kR T p' f' o') ∧ (N → v = w) ∧ p ≤ p' ∧ p' ≤ sz ∧ (f' < 0 → o' = Int32.ofNat d ∧ p < p' ∧ f' = f)
