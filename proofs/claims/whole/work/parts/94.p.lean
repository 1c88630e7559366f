/-! LAW: all lines -/
def BodyP (N : Prop) (S T : z_Stt) (sz n i m m' : Nat) : Prop := ∀ (p : Nat) (x1 x2 g w f o : Int32), p ≤ sz → (f < 0 → i ≤ p ∧ (N → x1 = g ∧ x2 = w) ∧ o = Int32.ofNat 0 ∧ f = -1) → ∃ (v v' : Int32) (p' : Nat) (f' o' : Int32), f_X6_lines_35 n (f_X6_lines_16 n m) x1 x2 (Int32.ofNat i) (kC S p f) = some (v, kC S p' f') ∧ f_X11_workOut_33 n m' g w 1 (kR T p f o) = some (v', kR T p' f' o') ∧ (f' < 0 → (N → v = v') ∧ f' = -1 ∧ f < 0 ∧ p < sz)
theorem W_end {N : Prop} {S T : z_Stt} {tx : Nat → Int32} {sz : Nat} (hE : env N S T tx sz) (n m' : Nat) {p : Nat} {x2 g w f o : Int32} (hp : p ≤ sz) (h : f < 0 → (N → x2 = w) ∧ f = -1) : ∃ (v v' : Int32) (p' : Nat) (f' o' : Int32), f_X6_lines_92 n x2 (kC S p f) = some (v, kC S p' f') ∧ f_X11_workOut_33 n (m' + 1) g w 0 (kR T p f o) = some (v', kR T p' f' o') ∧ (f' < 0 → (N → v = v') ∧ f' = -1 ∧ f < 0) := by
  have h1 := hE.1
  have r5 : (kC S p f).1 1305 = Int32.ofNat p := rfl
  have r3 : (kC S p f).1 1303 = Int32.ofNat sz := hE.2.2.1.1
  have q8 : (kR T p f o).1 4818 = Int32.ofNat p := rfl
  have q19 : (kR T p f o).1 4819 = Int32.ofNat sz := hE.2.2.2.1.1
  have q20 : (kR T p f o).1 4820 = f := rfl
  have le := on_le (a := sz) (b := p) (by omega) (by omega)
  by_cases c : sz ≤ p
  · refine ⟨x2, w, p, f, o, ?_, ?_, fun u => ⟨(h u).1, (h u).2, u⟩⟩
    · unfold f_X6_lines_92
      rw [r5, r3, if_pos (by rw [le]; exact c)]
    · rw [f_X11_workOut_33, if_pos rfl, q20, q19, q8]
      split
      · rfl
      · rw [if_pos (by rw [le]; exact c)]
  · have u : f_X6_lines_92 n x2 (kC S p f) = some (x2, kC S p (fxV p f)) := by
      unfold f_X6_lines_92
      rw [r5, r3, if_neg (by rw [le]; exact c), e_fails, g_bds]
    by_cases z : 0 ≤ f
    · have fx : fxV p f = f := if_pos z
      rw [fx] at u
      refine ⟨x2, w, p, f, o, u, ?_, fun y => absurd z (Int32.not_le.mpr y)⟩
      rw [f_X11_workOut_33, if_pos rfl, q20, if_pos z]
    · refine ⟨x2, 0, p, fxV p f, o, u, ?_, fun y => absurd y (fx_0 (by omega))⟩
      rw [f_X11_workOut_33, if_pos rfl, q20, if_neg z, q19, q8, if_neg (by rw [le]; exact c), e_wrong, g_bds]
theorem W_tail {N : Prop} {S T : z_Stt} {tx : Nat → Int32} {sz : Nat} (hE : env N S T tx sz) (n : Nat) {i m m' : Nat} (h1i : 1 ≤ i) (h120 : i ≤ 120) (hb : i < 120 → BodyP N S T sz n i m (m' + 1)) {p : Nat} {x1 x2 g w f o : Int32} (hp : p ≤ sz) (h : f < 0 → i ≤ p ∧ (N → x1 = g ∧ x2 = w) ∧ o = Int32.ofNat 0 ∧ f = -1) : ∃ (v v' : Int32) (p' : Nat) (f' o' : Int32), f_X6_lines_16 n (m + 1) x1 x2 (Int32.ofNat i) (kC S p f) = some (v, kC S p' f') ∧ f_X11_workOut_96 n (f_X11_workOut_33 n (m' + 1)) g w (kR T p f o) = some (v', kR T p' f' o') ∧ (f' < 0 → (N → v = v') ∧ f' = -1 ∧ f < 0) := by
  have h1 := hE.1
  have b0 : bI false = 0 := rfl
  have b1 : bI true = 1 := rfl
  by_cases c : i < 120
  · have nc : ¬ 120 ≤ Int32.ofNat i := by rw [on_120 (by omega)]; omega
    have n0 : ¬ Int32.ofNat i = 0 := by
      intro q
      have := congrArg Int32.toInt q
      rw [on_ti (by omega), z0_32] at this; omega
    by_cases q : tkP tx sz p f 59
    · obtain ⟨k1, k2⟩ := h q.1
      obtain ⟨v, v', p', f', o', z1, z2, z3⟩ := hb c (p + 1) x1 x2 g w f o (by have := q.2.1; omega) (fun _ => ⟨by omega, k2⟩)
      refine ⟨v, v', p', f', o', ?_, ?_, fun u => ⟨(z3 u).1, (z3 u).2.1, (z3 u).2.2.1⟩⟩
      · rw [f_X6_lines_16, if_neg nc, if_neg n0, tk10y hE hp q, g_bds, if_pos rfl]; exact z1
      · rw [f_X11_workOut_96, tk11y o hE hp q, g_bds, b1]; exact z2
    · obtain ⟨v, v', p', f', o', z1, z2, z3⟩ := W_end hE n m' (g := g) (o := o) hp (fun u => ⟨fun y => ((h u).2.1 y).2, (h u).2.2.2⟩)
      refine ⟨v, v', p', f', o', ?_, ?_, z3⟩
      · rw [f_X6_lines_16, if_neg nc, if_neg n0, tk10n hE hp (by decide +kernel) q, g_bds, if_neg (by decide)]; exact z1
      · rw [f_X11_workOut_96, tk11n o hE hp (by decide +kernel) q, g_bds, b0]; exact z2
  · have pc : 120 ≤ Int32.ofNat i := by rw [on_120 (by omega)]; omega
    obtain ⟨v, v', p', f', o', z1, z2, z3⟩ := W_end hE n m' (g := g) (o := o) hp (fun u => ⟨fun y => ((h u).2.1 y).2, (h u).2.2.2⟩)
    refine ⟨v, v', p', f', o', ?_, ?_, z3⟩
    · rw [f_X6_lines_16, if_pos pc]; exact z1
    · rw [f_X11_workOut_96, tk11n o hE hp (by decide +kernel) (fun z => by have := (h z.1).1; have := z.2.1; omega), g_bds, b0]; exact z2
theorem W_one {N : Prop} {S T : z_Stt} {tx : Nat → Int32} {sz : Nat} (hE : env N S T tx sz) {n : Nat} (top : Sim N S T sz 0 ((g_X6_either n 64).1 0) (g_X11_either n 64).1) {i m m' : Nat} (hb : i + 1 < 120 → BodyP N S T sz n (i + 1) m (m' + 1)) (h120 : i < 120) {p : Nat} {x1 x2 g w f o : Int32} (hp : p ≤ sz) (h : f < 0 → i ≤ p ∧ (N → x1 = g ∧ x2 = w) ∧ o = Int32.ofNat 0 ∧ f = -1) : ∃ (v v' : Int32) (p' : Nat) (f' o' : Int32), f_X6_lines_35 n (f_X6_lines_16 n (m + 1)) x1 x2 (Int32.ofNat i) (kC S p f) = some (v, kC S p' f') ∧ f_X11_workOut_33 n (m' + 1 + 1) g w 1 (kR T p f o) = some (v', kR T p' f' o') ∧ (f' < 0 → (N → v = v') ∧ f' = -1 ∧ f < 0 ∧ p < sz) := by
  have h1 := hE.1
  have c10 : ¬ (1 : Int32) = 0 := by decide +kernel
  obtain ⟨v1, u1, p1, f1, o1, z1, z2, zN, z3, z4, z5⟩ := top p f o hp (fun u => (h u).2.2.1)
  -- one more line is read: what counts then
  have fin : ∀ (x1' x2' g' w' : Int32) (p2 : Nat) (f2 o2 : Int32), p2 ≤ sz → (f2 < 0 → i + 1 ≤ p2 ∧ (N → x1' = g' ∧ x2' = w') ∧ o2 = Int32.ofNat 0 ∧ f2 = -1) → ∃ (v v' : Int32) (p' : Nat) (f' o' : Int32), f_X6_lines_86 n (f_X6_lines_16 n (m + 1)) x1' x2' (Int32.ofNat i) (kC S p2 f2) = some (v, kC S p' f') ∧ f_X11_workOut_96 n (f_X11_workOut_33 n (m' + 1)) g' w' (kR T p2 f2 o2) = some (v', kR T p' f' o') ∧ (f' < 0 → (N → v = v') ∧ f' = -1 ∧ f2 < 0) := by
    intro x1' x2' g' w' p2 f2 o2 hp2 hh
    rw [f_X6_lines_86, on_s i (by omega)]
    exact W_tail hE n (by omega) (by omega) hb hp2 hh
  -- a line's end: first value a, whether there is a sign (s), value b
  have step : ∀ (a s hd b b' : Int32) (p2 : Nat) (f2 o2 : Int32), (f2 < 0 → N → (hd = 0 ↔ ¬ s = 0 ∧ a = 0) ∧ b = b') → p2 ≤ sz → (f2 < 0 → i + 1 ≤ p2 ∧ o2 = Int32.ofNat 0 ∧ f2 = f) → ∃ (v v' : Int32) (p' : Nat) (f' o' : Int32), f_X6_lines_65 n (f_X6_lines_16 n (m + 1)) x1 x2 (Int32.ofNat i) a s b (kC S p2 f2) = some (v, kC S p' f') ∧ f_X11_workOut_74 n (f_X11_workOut_33 n (m' + 1)) g w b' hd (kR T p2 f2 o2) = some (v', kR T p' f' o') ∧ (f' < 0 → (N → v = v') ∧ f' = -1 ∧ f2 < 0) := by
    intro a s hd b b' p2 f2 o2 hs hp2 hh
    have r20 : (kR T p2 f2 o2).1 4820 = f2 := rfl
    have e10 : f_X6_lines_65 n (f_X6_lines_16 n (m + 1)) x1 x2 (Int32.ofNat i) a s b (kC S p2 f2) = f_X6_lines_86 n (f_X6_lines_16 n (m + 1)) (if x1 = 0 ∧ ¬ (¬ s = 0 ∧ a = 0) then 1 else x1) (if x1 = 0 ∧ ¬ (¬ s = 0 ∧ a = 0) then b else x2) (Int32.ofNat i) (kC S p2 f2) := by
      unfold f_X6_lines_65
      by_cases c1 : x1 = 0
      · rw [if_pos c1]
        by_cases c2 : s = 0
        · rw [if_pos c2, if_pos ⟨c1, fun z => z.1 c2⟩, if_pos ⟨c1, fun z => z.1 c2⟩, f_X6_lines_81]
        · rw [if_neg c2]
          by_cases c3 : a = 0
          · rw [if_pos c3, if_neg (fun z => z.2 ⟨c2, c3⟩), if_neg (fun z => z.2 ⟨c2, c3⟩)]
          · rw [if_neg c3, if_pos ⟨c1, fun z => c3 z.2⟩, if_pos ⟨c1, fun z => c3 z.2⟩, f_X6_lines_81]
      · rw [if_neg c1, if_neg (fun z => c1 z.1), if_neg (fun z => c1 z.1)]
    by_cases u : f2 < 0
    · obtain ⟨k1, k2, k3⟩ := hh u
      obtain ⟨l1, l2, l3, l4⟩ := h (by rw [k3] at u; exact u)
      have e11 : f_X11_workOut_74 n (f_X11_workOut_33 n (m' + 1)) g w b' hd (kR T p2 f2 o2) = f_X11_workOut_96 n (f_X11_workOut_33 n (m' + 1)) (if g = 0 ∧ ¬ hd = 0 then 1 else g) (if g = 0 ∧ ¬ hd = 0 then b' else w) (kR T p2 f2 o2) := by
        unfold f_X11_workOut_74
        rw [r20, if_neg (Int32.not_le.mpr u)]
        by_cases c1 : hd = 0
        · rw [if_pos c1, if_neg (fun z => z.2 c1), if_neg (fun z => z.2 c1)]
        · rw [if_neg c1]
          by_cases c3 : g = 0
          · rw [if_pos c3, if_pos ⟨c3, c1⟩, if_pos ⟨c3, c1⟩]
          · rw [if_neg c3, if_neg (fun z => c3 z.1), if_neg (fun z => c3 z.1)]
      rw [e10, e11]
      refine fin _ _ _ _ p2 f2 o2 hp2 (fun _ => ⟨k1, fun y => ?_, k2, by rw [k3]; exact l4⟩)
      obtain ⟨y1, y2⟩ := l2 y
      obtain ⟨y3, y4⟩ := hs u y
      subst y1 y2 y4
      have e : (x1 = 0 ∧ ¬ hd = 0) = (x1 = 0 ∧ ¬ (¬ s = 0 ∧ a = 0)) := by rw [y3]
      by_cases c : x1 = 0 ∧ ¬ hd = 0
      · have c' := e ▸ c
        rw [if_pos c, if_pos c, if_pos c', if_pos c']; exact ⟨rfl, rfl⟩
      · have c' : ¬ (x1 = 0 ∧ ¬ (¬ s = 0 ∧ a = 0)) := e ▸ c
        rw [if_neg c, if_neg c, if_neg c', if_neg c']; exact ⟨rfl, rfl⟩
    · have e11 : f_X11_workOut_74 n (f_X11_workOut_33 n (m' + 1)) g w b' hd (kR T p2 f2 o2) = f_X11_workOut_96 n (f_X11_workOut_33 n (m' + 1)) g w (kR T p2 f2 o2) := by
        unfold f_X11_workOut_74
        rw [r20, if_pos (Int32.not_lt.mp u)]
      rw [e10, e11]
      exact fin _ _ _ _ p2 f2 o2 hp2 (fun z => absurd z u)
  by_cases q : tkP tx sz p1 f1 63
  · obtain ⟨y1, y2, y3⟩ := z5 q.1
    obtain ⟨v2, u2, p2, f2, o2, w1, w2, wN, w3, w4, w5⟩ := top (p1 + 1) f1 o1 (by have := q.2.1; omega) (fun u => y1)
    have l1 := (h (y3 ▸ q.1)).1
    obtain ⟨v, v', p', f', o', x1, x2, x3⟩ := step v1 (bI true) (if u1 = 0 then 0 else 1) v2 u2 p2 f2 o2 (fun _ y => ⟨by
      rw [zN y]
      by_cases c : u1 = 0
      · rw [if_pos c]; exact ⟨fun _ => ⟨c10, c⟩, fun _ => rfl⟩
      · rw [if_neg c]; exact ⟨fun z => absurd z c10, fun z => absurd z.2 c⟩, wN y⟩) w4 (fun u => ⟨by omega, (w5 u).1, (w5 u).2.2.trans y3⟩)
    refine ⟨v, v', p', f', o', ?_, ?_, fun u => ⟨(x3 u).1, (x3 u).2.1, y3 ▸ q.1, by have := q.2.1; omega⟩⟩
    · unfold f_X6_lines_35
      rw [z1, g_bds, tk10y hE z4 q, g_bds, if_pos rfl, w1, g_bds]; exact x1
    · rw [f_X11_workOut_33, if_neg c10, z2, g_bds, tk11y o1 hE z4 q, g_bds, if_pos rfl]
      by_cases c : u1 = 0
      · rw [if_pos c] at x2
        rw [if_pos c, f_X11_workOut_66, w2, g_bds]; exact x2
      · rw [if_neg c] at x2
        rw [if_neg c, f_X11_workOut_66, w2, g_bds]; exact x2
  · obtain ⟨v, v', p', f', o', x1, x2, x3⟩ := step v1 (bI false) 1 v1 u1 p1 f1 o1 (fun _ y => ⟨⟨fun z => absurd z c10, fun z => absurd rfl z.1⟩, zN y⟩) z4 (fun u => ⟨by have := (z5 u).2.1; have e := (z5 u).2.2; rw [e] at u; have := (h u).1; omega, (z5 u).1, (z5 u).2.2⟩)
    refine ⟨v, v', p', f', o', ?_, ?_, fun u => ⟨(x3 u).1, (x3 u).2.1, (z5 (x3 u).2.2).2.2 ▸ (x3 u).2.2, by have := (z5 (x3 u).2.2).2.1; omega⟩⟩
    · unfold f_X6_lines_35
      rw [z1, g_bds, tk10n hE z4 (by decide +kernel) q, g_bds, if_neg (by decide)]; exact x1
    · rw [f_X11_workOut_33, if_neg c10, z2, g_bds, tk11n o1 hE z4 (by decide +kernel) q, g_bds, if_neg (by decide)]; exact x2
theorem W_body {N : Prop} {S T : z_Stt} {tx : Nat → Int32} {sz : Nat} (hE : env N S T tx sz) {n : Nat} (hn : 130 < n) : ∀ (j i m m' : Nat), i + j = 119 → j < m → j + 1 < m' → BodyP N S T sz n i m m' := by
  intro j
  have h1 := hE.1
  have top := L_top hE hn
  have b0 : bI false = 0 := rfl
  have b1 : bI true = 1 := rfl
  have c10 : ¬ (1 : Int32) = 0 := by decide +kernel
  induction j with
  | zero =>
    intro i m m' hi hm hm' p x1 x2 g w f o hp h
    obtain ⟨m, rfl⟩ : ∃ q, m = q + 1 := ⟨m - 1, by omega⟩
    obtain ⟨m', rfl⟩ : ∃ q, m' = q + 1 + 1 := ⟨m' - 2, by omega⟩
    exact W_one hE top (fun z => absurd z (by omega)) (by omega) hp h
  | succ j ih =>
    intro i m m' hi hm hm' p x1 x2 g w f o hp h
    obtain ⟨m, rfl⟩ : ∃ q, m = q + 1 := ⟨m - 1, by omega⟩
    obtain ⟨m', rfl⟩ : ∃ q, m' = q + 1 + 1 := ⟨m' - 2, by omega⟩
    exact W_one hE top (fun _ => ih (i + 1) m (m' + 1) (by omega) (by omega) (by omega)) (by omega) hp h

def tR (T : z_Stt) (a b : Int32) : z_Stt := sI (sI T 4817 a) 4819 b
theorem kR_start (T : z_Stt) (a b : Int32) : sI (sI (sI (sI (sI T 4817 a) 4818 0) 4819 b) 4820 (-1)) 4821 0 = kR (tR T a b) 0 (-1) 0 := by
  refine z_ext ?_ rfl rfl rfl rfl
  funext n
  show (if n = 4821 then (0 : Int32) else if n = 4820 then -1 else if n = 4819 then b else if n = 4818 then 0 else if n = 4817 then a else T.1 n) = if n = 4821 then 0 else if n = 4820 then -1 else if n = 4818 then Int32.ofNat 0 else if n = 4819 then b else if n = 4817 then a else T.1 n
  by_cases c1 : n = 4819
  · subst c1; rfl
  · rw [if_neg c1, if_neg c1]; rfl
/-- THE LAW read by both: where it ends, its fault, and, without one, its value -/
theorem L_run {N : Prop} {S T : z_Stt} {tx : Nat → Int32} {sz : Nat} {a b : Int32} (hE : env N S (tR T a b) tx sz) {n : Nat} (hn : 130 < n) : ∃ (v v' : Int32) (p : Nat) (f o : Int32), f_X6_lines n S = some (v, kC S p f) ∧ f_X11_workOut n a b T = some (v', kR (tR T a b) p f o) ∧ (f < 0 → (N → v = v') ∧ f = -1 ∧ 0 < sz) := by
  obtain ⟨n', rfl⟩ : ∃ q, n = q + 1 := ⟨n - 1, by omega⟩
  obtain ⟨v, v', p, f, o, z1, z2, z3⟩ := W_body hE hn 119 0 n' (n' + 1) (by omega) (by omega) (by omega) 0 0 0 0 0 (-1) 0 (Nat.zero_le _) (fun _ => ⟨Nat.zero_le _, fun _ => ⟨rfl, rfl⟩, rfl, rfl⟩)
  refine ⟨v, v', p, f, o, ?_, ?_, fun u => ⟨(z3 u).1, (z3 u).2.1, (z3 u).2.2.2⟩⟩
  · unfold f_X6_lines
    rw [g_lets, g_lets, f_X6_lines_16, if_neg (by decide +kernel), if_pos rfl]
    exact z1
  · unfold f_X11_workOut
    rw [g_lets, g_lets, g_lets, g_lets, g_lets, kR_start]
    exact z2
