/-! LAW: numbers, operands -/
theorem on_4 {i : Nat} (h : i ≤ 2000) : (4 ≤ Int32.ofNat i) = (4 ≤ i) := on_le (a := 4) (by omega) h
theorem e_number {N : Prop} {S T : z_Stt} {tx : Nat → Int32} {sz : Nat} (hE : env N S T tx sz) (n : Nat) (G : GT_X11_either) {f o : Int32} (hf : f < 0) : ∀ (j i m m' p : Nat) (v : Int32), i + j = 4 → j < m → j < m' → p ≤ sz → ∃ (v' : Int32) (p' i' : Nat), f_X6_number_4 n m v (Int32.ofNat i) (kC S p f) = some (v', kC S p' f) ∧ f_X11_one_176 n G m' v (Int32.ofNat i) (kR T p f o) = f_X11_one_229 n G v' (Int32.ofNat i') (kR T p' f o) ∧ p ≤ p' ∧ p' ≤ sz ∧ i ≤ i' ∧ i' ≤ 4 ∧ (i < 4 ∧ p < sz ∧ 48 ≤ tx p ∧ tx p ≤ 57 → i < i' ∧ p < p') := by
  intro j
  have h1 := hE.1
  induction j with
  | zero =>
    intro i m m' p v hi hm hm' hp
    obtain ⟨m, rfl⟩ : ∃ q, m = q + 1 := ⟨m - 1, by omega⟩
    obtain ⟨m', rfl⟩ : ∃ q, m' = q + 1 := ⟨m' - 1, by omega⟩
    have c : 4 ≤ Int32.ofNat i := by rw [on_4 (by omega)]; omega
    exact ⟨v, p, i, by rw [f_X6_number_4, if_pos c], by rw [f_X11_one_176, if_pos c], Nat.le_refl _, hp, Nat.le_refl _, by omega, fun q => by omega⟩
  | succ j ih =>
    intro i m m' p v hi hm hm' hp
    obtain ⟨m, rfl⟩ : ∃ q, m = q + 1 := ⟨m - 1, by omega⟩
    obtain ⟨m', rfl⟩ : ∃ q, m' = q + 1 := ⟨m' - 1, by omega⟩
    have c : ¬ 4 ≤ Int32.ofNat i := by rw [on_4 (by omega)]; omega
    have l := e_letter f hE hp
    have b := e_byteAt f o hE hp
    have stop10 : (if f < 0 ∧ p < sz then tx p else -1) < 48 ∨ 57 < (if f < 0 ∧ p < sz then tx p else -1) → f_X6_number_4 n (m + 1) v (Int32.ofNat i) (kC S p f) = some (v, kC S p f) := by
      intro z
      rw [f_X6_number_4, if_neg c, l, g_bds]
      by_cases z1 : (if f < 0 ∧ p < sz then tx p else -1) < 48
      · rw [if_pos z1]
      · rw [if_neg z1, l, g_bds, if_pos (z.resolve_left z1)]
    have stop11 : (if p < sz then tx p else 0) < 48 ∨ 57 < (if p < sz then tx p else 0) → f_X11_one_176 n G (m' + 1) v (Int32.ofNat i) (kR T p f o) = f_X11_one_229 n G v (Int32.ofNat i) (kR T p f o) := by
      intro z
      rw [f_X11_one_176, if_neg c, b, g_bds]
      by_cases z1 : (if p < sz then tx p else 0) < 48
      · rw [if_pos z1]
      · rw [if_neg z1, b, g_bds, if_pos (z.resolve_left z1)]
    by_cases q : p < sz
    · rw [if_pos ⟨hf, q⟩] at l stop10
      rw [if_pos q] at b stop11
      by_cases z : 48 ≤ tx p ∧ tx p ≤ 57
      · have r5 : (kC S p f).1 1305 = Int32.ofNat p := rfl
        have r5' : (kR T p f o).1 4818 = Int32.ofNat p := rfl
        obtain ⟨v', p', i', g1, g2, g3, g4, g5, g6, -⟩ := ih (i + 1) m m' (p + 1) (10 * v + tx p - 48) (by omega) (by omega) (by omega) (by omega)
        refine ⟨v', p', i', ?_, ?_, by omega, g4, by omega, g6, fun _ => by omega⟩
        · rw [f_X6_number_4, if_neg c, l, g_bds, if_neg (Int32.not_lt.mpr z.1), l, g_bds, if_neg (Int32.not_lt.mpr z.2), l, g_bds, g_lets, r5, on_s p (by omega), kC_5, on_s i (by omega)]
          exact g1
        · rw [f_X11_one_176, if_neg c, b, g_bds, if_neg (Int32.not_lt.mpr z.1), b, g_bds, if_neg (Int32.not_lt.mpr z.2), b, g_bds, g_lets, r5', on_s p (by omega), kR_8, on_s i (by omega)]
          exact g2
      · have z' : tx p < 48 ∨ 57 < tx p := by lia
        exact ⟨v, p, i, stop10 z', stop11 z', Nat.le_refl _, hp, Nat.le_refl _, by omega, fun y => absurd y.2.2 z⟩
    · rw [if_neg (fun r => q r.2)] at stop10
      rw [if_neg q] at stop11
      exact ⟨v, p, i, stop10 (Or.inl (by decide +kernel)), stop11 (Or.inl (by decide +kernel)), Nat.le_refl _, hp, Nat.le_refl _, by omega, fun y => absurd y.2.1 q⟩
theorem e_op22_fail {N : Prop} {S T : z_Stt} {tx : Nat → Int32} {sz : Nat} (hE : env N S T tx sz) (n : Nat) (G : GT_X6_either) {x : Int32} {d p : Nat} {f : Int32} (hp : p ≤ sz) (hn : nmV x < 0) (hk : ¬ tkP tx sz p f 33 ∧ ¬ tkP tx sz p f 45 ∧ ¬ tkP tx sz p f 40 ∨ ¬ Int32.ofNat d < 6) : f_X6_operand_22 n G (Int32.ofNat d) x (kC S p f) = some (0, kC S p (fxV p f)) := by
  unfold f_X6_operand_22
  rw [e_nm10, g_bds, if_pos hn]
  by_cases c : Int32.ofNat d < 6
  · obtain ⟨k1, k2, k3⟩ := hk.resolve_right (fun z => z c)
    rw [if_pos c, tk10n hE hp (by decide +kernel) k1, g_bds, if_neg (by decide), tk10n hE hp (by decide +kernel) k2, g_bds, if_neg (by decide), tk10n hE hp (by decide +kernel) k3, g_bds, if_neg (by decide), e_fails, g_bds]
  · rw [if_neg c, e_fails, g_bds]
theorem e_229 {n : Nat} {G : GT_X11_either} (v : Int32) (T : z_Stt) (p : Nat) (f o : Int32) : f_X11_one_229 n G v (Int32.ofNat 0) (kR T p f o) = some (0, kR T p (fxV p f) o) := by
  unfold f_X11_one_229
  rw [if_pos (show Int32.ofNat 0 = 0 from rfl), e_wrong, g_bds]
theorem e_230 {n i : Nat} {G : GT_X11_either} (v : Int32) (T : z_Stt) (h1 : 1 ≤ i) (h2 : i ≤ 4) : f_X11_one_229 n G v (Int32.ofNat i) T = some (v, T) := by
  unfold f_X11_one_229
  have c : ¬ Int32.ofNat i = 0 := by
    intro q
    have := congrArg Int32.toInt q
    rw [on_ti (by omega), z0_32] at this; omega
  rw [if_neg c]
theorem e_104 {n : Nat} {G : GT_X11_either} (c v : Int32) (T : z_Stt) (p : Nat) (f o : Int32) : f_X11_one_104 n G c v (kR T p f o) = some (if c = 40 then v else if c = 45 then -v else if v = 0 then 1 else 0, kR T p f (o - 1)) := by
  have r21 : (kR T p f o).1 4821 = o := rfl
  unfold f_X11_one_104
  rw [g_lets, r21, kR_21]
  split
  · rfl
  · split
    · rfl
    · split <;> rfl
theorem on_6 {d : Nat} (h : d ≤ 2000) : (Int32.ofNat d < 6) = (d < 6) := by
  have i6 : (6 : Int32).toInt = 6 := rfl
  rw [Int32.lt_iff_toInt_lt, on_ti (by omega), i6]; exact propext (by omega)
theorem on_e6 {d : Nat} (h : d ≤ 2000) : (Int32.ofNat d = 6) = (d = 6) := by
  have i6 : (6 : Int32).toInt = 6 := rfl
  rw [← Int32.toInt_inj, on_ti (by omega), i6]; exact propext (by omega)
theorem on_d (d : Nat) (h : d ≤ 2000) : Int32.ofNat (d + 1) - 1 = Int32.ofNat d := by rw [← on_s d h]; lia
/-- a sign before an operand -/
theorem e_sign {N : Prop} {S T : z_Stt} {tx : Nat → Int32} {sz : Nat} (hE : env N S T tx sz) (n : Nat) {G : GT_X6_either} {H : GT_X11_either} {d : Nat} (hd : d < 6) (ho : Sim N S T sz (d + 1) (G.2.2.2.2.2 (Int32.ofNat (d + 1))) H.2.2.2.2.2) (hw : Sim N S T sz (d + 1) (G.1 (Int32.ofNat (d + 1))) H.1) {p : Nat} {f : Int32} (hf : f < 0) (hp : p < sz) (hc : tx p = 33 ∨ tx p = 45 ∨ tx p = 40) : ∃ (v w : Int32) (p' : Nat) (f' o' : Int32), f_X6_operand_22 n G (Int32.ofNat d) (tx p) (kC S p f) = some (v, kC S p' f') ∧ f_X11_one_32 n H (tx p) (kR T p f (Int32.ofNat d)) = some (w, kR T p' f' o') ∧ (N → v = w) ∧ p ≤ p' ∧ p' ≤ sz ∧ (f' < 0 → o' = Int32.ofNat d ∧ p < p' ∧ f' = f) := by
  have h1 := hE.1
  have c6 : Int32.ofNat d < 6 := by rw [on_6 (by omega)]; exact hd
  have e6 : ¬ Int32.ofNat d = 6 := by rw [on_e6 (by omega)]; omega
  have nm : nmV (tx p) < 0 := by rcases hc with e | e | e <;> rw [e] <;> decide +kernel
  have r21 : (kR T p f (Int32.ofNat d)).1 4821 = Int32.ofNat d := rfl
  have r8 : (kR T p f (Int32.ofNat (d + 1))).1 4818 = Int32.ofNat p := rfl
  have hp' : p ≤ sz := by omega
  rcases hc with e | e | e
  · obtain ⟨v, w, p', f', o', z1, z2, zN, z3, z4, z5⟩ := ho (p + 1) f (Int32.ofNat (d + 1)) (by omega) (fun _ => rfl)
    refine ⟨if v = 0 then 1 else 0, if w = 0 then 1 else 0, p', f', o' - 1, ?_, ?_, fun y => by rw [zN y], by omega, z4, fun q => ?_⟩
    · unfold f_X6_operand_22
      rw [e_nm10, g_bds, if_pos nm, if_pos c6, tk10y hE hp' ⟨hf, hp, e⟩, g_bds, if_pos rfl, on_s d (by omega), z1, g_bds]
      by_cases q : v = 0
      · rw [if_pos q, if_pos q]; rfl
      · rw [if_neg q, if_neg q]; rfl
    · unfold f_X11_one_32
      rw [r21, if_neg e6, g_lets, on_s d (by omega), kR_21, g_lets, r8, on_s p (by omega), kR_8, e, if_neg (by decide +kernel), z2, g_bds, f_X11_one_83, if_neg (by decide +kernel), e_104, if_neg (by decide +kernel), if_neg (by decide +kernel)]
    · obtain ⟨y1, y2, y3⟩ := z5 q
      exact ⟨by rw [y1]; exact on_d d (by omega), by omega, y3⟩
  · obtain ⟨v, w, p', f', o', z1, z2, zN, z3, z4, z5⟩ := ho (p + 1) f (Int32.ofNat (d + 1)) (by omega) (fun _ => rfl)
    refine ⟨-v, -w, p', f', o' - 1, ?_, ?_, fun y => by rw [zN y], by omega, z4, fun q => ?_⟩
    · unfold f_X6_operand_22
      rw [e_nm10, g_bds, if_pos nm, if_pos c6, tk10n hE hp' (by decide +kernel) (fun q => absurd (e.symm.trans q.2.2) (by decide +kernel)), g_bds, if_neg (by decide), tk10y hE hp' ⟨hf, hp, e⟩, g_bds, if_pos rfl, on_s d (by omega), z1, g_bds]
    · unfold f_X11_one_32
      rw [r21, if_neg e6, g_lets, on_s d (by omega), kR_21, g_lets, r8, on_s p (by omega), kR_8, e, if_neg (by decide +kernel), z2, g_bds, f_X11_one_83, if_neg (by decide +kernel), e_104, if_neg (by decide +kernel), if_pos rfl]
    · obtain ⟨y1, y2, y3⟩ := z5 q
      exact ⟨by rw [y1]; exact on_d d (by omega), by omega, y3⟩
  · obtain ⟨v, w, p', f', o', z1, z2, zN, z3, z4, z5⟩ := hw (p + 1) f (Int32.ofNat (d + 1)) (by omega) (fun _ => rfl)
    have k10 : ∀ r, (g_bd (f_X6_takes 41 (kC S p' f')) fun v21 S22 => if v21 = true then some (v, S22) else g_bd (f_X6_fails S22) fun v25 S26 => some (v25, S26)) = r → f_X6_operand_22 n G (Int32.ofNat d) (tx p) (kC S p f) = r := by
      rintro r rfl
      unfold f_X6_operand_22
      rw [e_nm10, g_bds, if_pos nm, if_pos c6, tk10n hE hp' (by decide +kernel) (fun q => absurd (e.symm.trans q.2.2) (by decide +kernel)), g_bds, if_neg (by decide), tk10n hE hp' (by decide +kernel) (fun q => absurd (e.symm.trans q.2.2) (by decide +kernel)), g_bds, if_neg (by decide), tk10y hE hp' ⟨hf, hp, e⟩, g_bds, if_pos rfl, on_s d (by omega), z1, g_bds]
    have k11 : ∀ r, f_X11_one_83 n H 40 w (kR T p' f' o') = r → f_X11_one_32 n H (tx p) (kR T p f (Int32.ofNat d)) = r := by
      rintro r rfl
      unfold f_X11_one_32
      rw [r21, if_neg e6, g_lets, on_s d (by omega), kR_21, g_lets, r8, on_s p (by omega), kR_8, e, if_pos rfl, z2, g_bds]
    by_cases q : tkP tx sz p' f' 41
    · refine ⟨v, w, p' + 1, f', o' - 1, k10 _ ?_, k11 _ ?_, zN, by omega, q.2.1, fun u => ?_⟩
      · rw [tk10y hE z4 q, g_bds, if_pos rfl]
      · rw [f_X11_one_83, if_pos rfl, tk11y o' hE z4 q, g_bds, if_pos rfl, e_104, if_pos rfl]
      · obtain ⟨y1, y2, y3⟩ := z5 u
        exact ⟨by rw [y1]; exact on_d d (by omega), by omega, y3⟩
    · refine ⟨0, 0, p', fxV p' f', o', k10 _ ?_, k11 _ ?_, fun _ => rfl, by omega, z4, fun u => absurd u (fx_0 (by omega))⟩
      · rw [tk10n hE z4 (by decide +kernel) q, g_bds, if_neg (by decide), e_fails, g_bds]
      · rw [f_X11_one_83, if_pos rfl, tk11n o' hE z4 (by decide +kernel) q, g_bds, if_neg (by decide), e_wrong, g_bds]
