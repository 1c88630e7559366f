/-! DRAWN: one morning of each -/
def cstV (b op hh p : Int32) : Int32 := if b = 0 then (if op = 0 then 0 else hh) else p
def incV (b op : Int32) : Int32 := if b = 0 then 0 else if op = 0 then 1 else 0
theorem dn_c {n m : Nat} {x2 x4 x5 x6 x7 x8 x9 x10 x11 x12 tr st re op b c : Int32} {C C2 : z_Stt} (hk : ¬ x2 ≤ x12) (htr : f_X10_traceOf x5 C = some (tr, C)) (hst : f_X10_staleOf x5 C = some (st, C)) (hd : f_X3_drawMorning x7 tr st C = some ((), C2)) (r2 : C2.1 3102 = re) (r1 : C2.1 3101 = op) (hb : (if re = 0 then x9 else x8) = b) (hc : f_X10_costOf x5 x6 b op C2 = some (c, C2)) : f_X10_drawn_123 n (m + 1) x2 x4 x5 x6 x7 x8 x9 x10 x11 x12 C = f_X10_drawn_123 n m x2 x4 x5 x6 x7 x8 x9 (x10 + c) (x11 + incV b op) (x12 + 1) C2 := by
  have e : f_X10_drawn_167 n (f_X10_drawn_123 n m) x2 x4 x5 x6 x7 x8 x9 x10 x11 x12 b C2 = f_X10_drawn_123 n m x2 x4 x5 x6 x7 x8 x9 (x10 + c) (x11 + incV b op) (x12 + 1) C2 := by
    unfold f_X10_drawn_167 f_X10_drawn_212 f_X10_drawn_213 incV
    rw [r1, hc, g_bds, r1]
    by_cases c1 : b = 0
    · rw [if_pos c1, if_pos c1]
    · rw [if_neg c1, if_neg c1]
      by_cases c2 : op = 0
      · rw [if_pos c2, if_pos c2]
      · rw [if_neg c2, if_neg c2]
  rw [f_X10_drawn_123, if_neg hk, htr, g_bds, hst, g_bds, hd, g_bds, r2, ← e]
  by_cases c1 : re = 0
  · rw [if_pos c1] at hb
    rw [if_pos c1, hb]
  · rw [if_neg c1] at hb
    rw [if_neg c1, hb]
theorem dn_r {n m : Nat} {x2 x3 x4 x5 x6 x7 x8 x9 q8 q12 f tr st op re p hh : Int32} {b : Bool} {T T1 T2 T3 : z_Stt} (hk : ¬ x2 ≤ x9) (d1 : f_X11_draws 144 T = some (q8, T1)) (nf : f_X11_numberOf x5 0 T1 = some (f, T1)) (eop : (if f ≤ q8 then 0 else 1) = op) (o01 : op = 0 ∨ op = 1) (d2 : f_X11_draws 12 T1 = some (q12, T2)) (htr : f_X11_traceOf x5 T2 = some (tr, T2)) (hst : f_X11_staleOf x5 T2 = some (st, T2)) (ere : (if (if op = 0 then tr else st) ≤ q12 then 0 else 1) = re) (gb : f_X11_goesBack n (x3 % 10) x5 re x6 T2 = some (b, T3)) (bk : f_X11_backCosts x6 T3 = some (p, T3)) (nh : f_X11_numberOf x5 3 T3 = some (hh, T3)) : f_X11_drawn_80 n (m + 1) x2 x3 x4 x5 x6 x7 x8 x9 T = f_X11_drawn_80 n m x2 x3 x4 x5 x6 (x7 + cstV (bI b) op hh p) (x8 + incV (bI b) op) (x9 + 1) T3 := by
  have e194 : ∀ c, f_X11_drawn_194 n (f_X11_drawn_80 n m) x2 x3 x4 x5 x6 x8 x9 op (bI b) c x7 T3 = f_X11_drawn_80 n m x2 x3 x4 x5 x6 (x7 + c) (x8 + incV (bI b) op) (x9 + 1) T3 := by
    intro c
    unfold f_X11_drawn_194 f_X11_drawn_213 f_X11_drawn_214 incV
    by_cases c1 : bI b = 0
    · rw [if_pos c1, if_pos c1]
    · rw [if_neg c1, if_neg c1]
      by_cases c2 : op = 0
      · rw [if_pos c2, if_pos c2]
      · rw [if_neg c2, if_neg c2]
  have e144 : f_X11_drawn_144 n (f_X11_drawn_80 n m) x2 x3 x4 x5 x6 x7 x8 x9 op re T2 = f_X11_drawn_80 n m x2 x3 x4 x5 x6 (x7 + cstV (bI b) op hh p) (x8 + incV (bI b) op) (x9 + 1) T3 := by
    unfold f_X11_drawn_144 cstV
    rw [gb, g_bds]
    cases b with
    | true => rw [if_pos rfl, bk, g_bds, e194, if_neg (by decide +kernel)]
    | false =>
      rw [if_neg (by decide), if_pos (show bI false = 0 from rfl)]
      by_cases c : op = 0
      · rw [if_pos c, if_pos c, e194]
      · rw [if_neg c, if_neg c, nh, g_bds, e194]
  have e136 : ∀ y0, y0 = (if op = 0 then tr else st) → f_X11_drawn_136 n (f_X11_drawn_80 n m) x2 x3 x4 x5 x6 x7 x8 x9 op y0 q12 T2 = f_X11_drawn_80 n m x2 x3 x4 x5 x6 (x7 + cstV (bI b) op hh p) (x8 + incV (bI b) op) (x9 + 1) T3 := by
    rintro y0 rfl
    unfold f_X11_drawn_136
    by_cases c : (if op = 0 then tr else st) ≤ q12
    · rw [if_pos c] at ere
      subst ere
      rw [if_pos c]; exact e144
    · rw [if_neg c] at ere
      subst ere
      rw [if_neg c]; exact e144
  have e108 : f_X11_drawn_108 n (f_X11_drawn_80 n m) x2 x3 x4 x5 x6 x7 x8 x9 op T1 = f_X11_drawn_80 n m x2 x3 x4 x5 x6 (x7 + cstV (bI b) op hh p) (x8 + incV (bI b) op) (x9 + 1) T3 := by
    unfold f_X11_drawn_108
    rw [d2, g_bds]
    by_cases c : op = 0
    · rw [if_pos c, htr, g_bds]; exact e136 _ (by rw [if_pos c])
    · rw [if_neg c, hst, g_bds]; exact e136 _ (by rw [if_neg c])
  rw [f_X11_drawn_80, if_neg hk, d1, g_bds, nf, g_bds]
  by_cases c : f ≤ q8
  · rw [if_pos c] at eop
    subst eop
    rw [if_pos c]; exact e108
  · rw [if_neg c] at eop
    subst eop
    rw [if_neg c]; exact e108
