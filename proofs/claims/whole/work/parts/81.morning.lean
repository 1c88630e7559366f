/-! MORNINGS: drawn, a day off -/
theorem sbb (w : Int32) {s : Int32} {n : Nat} (h : (s.toBitVec.smod 32).toNat = n) (hn : n < 32) : (w >>> s) &&& 1 = if w.toBitVec.getLsbD n = true then 1 else 0 := by
  apply Int32.toBitVec_inj.mp
  rw [Int32.toBitVec_and, Int32.toBitVec_shiftRight]
  have e1 : (1 : Int32).toBitVec = 1#32 := rfl
  have e0 : (0 : Int32).toBitVec = 0#32 := rfl
  rw [apply_ite Int32.toBitVec, e1, e0]
  apply BitVec.eq_of_getLsbD_eq
  intro i hi
  rw [BitVec.getLsbD_and]
  show ((BitVec.sshiftRight w.toBitVec (s.toBitVec.smod 32).toNat).getLsbD i && BitVec.getLsbD 1#32 i) = _
  rw [h, BitVec.getLsbD_sshiftRight]
  by_cases c : i = 0
  · subst c
    cases q : w.toBitVec.getLsbD n <;> simp [hn, q]
  · have : BitVec.getLsbD 1#32 i = false := by simp [c]
    rw [this, Bool.and_false]
    split <;> simp [c]
theorem sb_bit (w : Int32) {t : Nat} (ht : t < 6) : sb w t = if w.toBitVec.getLsbD t = true then 1 else 0 := by
  unfold sb
  refine sbb w ?_ (by omega)
  have : t = 0 ∨ t = 1 ∨ t = 2 ∨ t = 3 ∨ t = 4 ∨ t = 5 := by omega
  rcases this with rfl | rfl | rfl | rfl | rfl | rfl <;> decide +kernel
theorem sb_or (w : Int32) {u : Int32} {t : Nat} (ht : t < 6) (hu : 0 ≤ u ∧ u < 6) : sb (w ||| (1 <<< (u &&& 31))) t = if t = u.toNatClampNeg then 1 else sb w t := by
  rw [sb_bit _ ht, sb_bit _ ht, Int32.toBitVec_or, BitVec.getLsbD_or]
  have : t = 0 ∨ t = 1 ∨ t = 2 ∨ t = 3 ∨ t = 4 ∨ t = 5 := by omega
  have b : (1 <<< (u &&& 31) : Int32).toBitVec.getLsbD t = decide (t = u.toNatClampNeg) := by
    rcases this with rfl | rfl | rfl | rfl | rfl | rfl <;> rcases cs06 hu with rfl | rfl | rfl | rfl | rfl | rfl <;> decide +kernel
  rw [b]
  by_cases c : t = u.toNatClampNeg
  · rw [decide_eq_true c, Bool.or_true, if_pos rfl, if_pos c]
  · rw [decide_eq_false c, Bool.or_false, if_neg c]
theorem sb_01 (w : Int32) {t : Nat} (ht : t < 6) : sb w t = 0 ∨ sb w t = 1 := by
  rw [sb_bit _ ht]; split <;> simp
theorem sb_0 {t : Nat} (ht : t < 6) : sb 0 t = 0 := by
  rw [sb_bit _ ht]
  have : t = 0 ∨ t = 1 ∨ t = 2 ∨ t = 3 ∨ t = 4 ∨ t = 5 := by omega
  rcases this with rfl | rfl | rfl | rfl | rfl | rfl <;> decide +kernel
/-- draws -/
def dz (z : Int32) : Int32 := z * 1103515245 + 12345
def dr (z k : Int32) : Int32 := (z.toUInt32 >>> (Int32.toUInt32 8 &&& Int32.toUInt32 31)).toInt32 % k
def drO (a f : Int32) : Int32 := if f ≤ dr (dz a) 144 then 0 else 1
def drR (a f tr st : Int32) : Int32 := if (if drO a f = 0 then tr else st) ≤ dr (dz (dz a)) 12 then 0 else 1
theorem drO_01 (a f : Int32) : drO a f = 0 ∨ drO a f = 1 := by unfold drO; split <;> simp
theorem i01 {P : Prop} {i : Decidable P} : (@ite Int32 P i 0 1) = 0 ∨ (@ite Int32 P i 0 1) = 1 := by
  by_cases c : P
  · rw [if_pos c]; exact Or.inl rfl
  · rw [if_neg c]; exact Or.inr rfl
theorem drR_01 (a f tr st : Int32) : drR a f tr st = 0 ∨ drR a f tr st = 1 := i01
theorem s3100 (S : z_Stt) (a b c : Int32) : sI (sI (sI S 3100 a) 3101 b) 3100 c = sI (sI S 3100 c) 3101 b := by
  refine z_ext ?_ rfl rfl rfl rfl
  funext j; simp only [rI, rI2, rJ1, rJ2, rJ3, rA1, rA2, rA3, rA4, rE1, rE2, rE3, rE4, rE5, rR1, rR2, rR3, rR4, rR5, Nat.reduceEqDiff, reduceIte]; grind
def drS (S : z_Stt) (f tr st : Int32) : z_Stt := sI (sI (sI S 3100 (dz (dz (S.1 3100)))) 3101 (drO (S.1 3100) f)) 3102 (drR (S.1 3100) f tr st)
theorem e_draw10 {k : Int32} (hk : 0 < k) (S : z_Stt) : f_X3_draw k S = some (dr (dz (S.1 3100)) k, sI S 3100 (dz (S.1 3100))) := by
  simp only [f_X3_draw, g_let, if_neg (Int32.not_le.mpr hk), rI, rI2, rJ1, rJ2, rJ3, rA1, rA2, rA3, rA4, rE1, rE2, rE3, rE4, rE5, rR1, rR2, rR3, rR4, rR5, Nat.reduceEqDiff, reduceIte]
  rw [if_pos (fun e => by rw [e] at hk; exact absurd hk (by decide +kernel))]
  rfl
theorem e_draw11 {k : Int32} (hk : 0 < k) (S : z_Stt) : f_X11_draws k S = some (dr (dz (S.1 4829)) k, sI S 4829 (dz (S.1 4829))) := by
  simp only [f_X11_draws, g_let, rI, rI2, rJ1, rJ2, rJ3, rA1, rA2, rA3, rA4, rE1, rE2, rE3, rE4, rE5, rR1, rR2, rR3, rR4, rR5, Nat.reduceEqDiff, reduceIte]
  rw [if_pos (fun e => by rw [e] at hk; exact absurd hk (by decide +kernel))]
  rfl
theorem e_dM39 (a b : Int32) (S : z_Stt) : f_X3_drawMorning_39 a b S = some ((), sI S 3102 (if a ≤ b then 0 else 1)) := by
  unfold f_X3_drawMorning_39
  by_cases c : a ≤ b
  · rw [if_pos c, if_pos c]; rfl
  · rw [if_neg c, if_neg c]; rfl
theorem e_dM17 {y : Int32} (a b : Int32) (hy : y = 0 ∨ y = 1) (S : z_Stt) : f_X3_drawMorning_17 a b y S = some ((), sI (sI (sI S 3101 y) 3100 (dz (S.1 3100))) 3102 (if (if y = 0 then a else b) ≤ dr (dz (S.1 3100)) 12 then 0 else 1)) := by
  unfold f_X3_drawMorning_17 g_let
  rw [if_pos hy]
  dsimp only
  rw [e_draw10 (k := 12) (by decide +kernel)]
  have r : (sI S 3101 y).1 3100 = S.1 3100 := rfl
  rw [r, g_bds]
  have r2 : (sI (sI S 3101 y) 3100 (dz (S.1 3100))).1 3101 = y := rfl
  rw [r2]
  by_cases c : y = 0
  · rw [if_pos c, if_pos c, e_dM39]
  · rw [if_neg c, if_neg c, e_dM39]
theorem e_drawMorning (f tr st : Int32) (S : z_Stt) : f_X3_drawMorning f tr st S = some ((), drS S f tr st) := by
  unfold f_X3_drawMorning
  rw [e_draw10 (k := 144) (by decide +kernel), g_bds]
  have r : (sI S 3100 (dz (S.1 3100))).1 3100 = dz (S.1 3100) := rfl
  have e2 : drR (S.1 3100) f tr st = if (if drO (S.1 3100) f = 0 then tr else st) ≤ dr (dz (dz (S.1 3100))) 12 then 0 else 1 := rfl
  have q : (if f ≤ dr (dz (S.1 3100)) 144 then f_X3_drawMorning_17 tr st 0 (sI S 3100 (dz (S.1 3100))) else f_X3_drawMorning_17 tr st 1 (sI S 3100 (dz (S.1 3100)))) = f_X3_drawMorning_17 tr st (drO (S.1 3100) f) (sI S 3100 (dz (S.1 3100))) := by
    unfold drO; split <;> rfl
  rw [q, e_dM17 _ _ (drO_01 _ _), r]
  unfold drS
  rw [e2, s3100]
def usedV (f : Nat → Int32) (t : Nat) : Nat → Int32 := upd f t (if 12 < f t + 1 then 12 else f t + 1)
theorem e_use {t : Int32} (ht : 0 ≤ t ∧ t < 6) (S : z_Stt) : f_X1_use 7 t S = some ((), sI (sA S 8 (usedV (S.2.2.1 8) t.toNatClampNeg)) 701 (S.1 701 ||| (1 <<< (t &&& 31)))) := by
  simp only [f_X1_use, vp_6, if_pos ht, if_neg (Int32.not_lt.mpr ht.1), if_neg (Int32.not_le.mpr ht.2), g_let]
  rfl
theorem e_nrG {k t : Int32} {S T : z_Stt} (h1 : T.2.2.1 49 = S.2.2.1 2) (hk : 0 ≤ k ∧ k ≤ 5) (ht : 0 ≤ t ∧ t < 6) : f_X11_numberOf t k T = some (vAt S (6 * k + t), T) := by
  have q := ixT hk ht
  have q2 : 0 ≤ 6 * k + t ∧ 6 * k + t < 75 := ⟨q.1, q.2.1⟩
  simp only [f_X11_numberOf, vp_75, if_pos q2, vAt, h1]
theorem e_traceG {t : Int32} {S T : z_Stt} (h1 : T.2.2.1 49 = S.2.2.1 2) (ht : 0 ≤ t ∧ t < 6) : f_X11_traceOf t T = some (trV S t, T) := by
  simp only [f_X11_traceOf, e_nrG h1 (k := 4) (by decide +kernel) ht, e_nrG h1 (k := 1) (by decide +kernel) ht, g_bds, trV]
  split <;> rfl
theorem e_staleG {t : Int32} {S T : z_Stt} (h1 : T.2.2.1 49 = S.2.2.1 2) (h2 : T.2.2.1 53 = S.2.2.1 8) (ht : 0 ≤ t ∧ t < 6) : f_X11_staleOf t T = some (stV S t, T) := by
  simp only [f_X11_staleOf, e_nrG h1 (k := 4) (by decide +kernel) ht, e_nrG h1 (k := 2) (by decide +kernel) ht, g_bds, stV, vp_6, if_pos ht, h2]
  split <;> rfl
theorem e_m95 (S : z_Stt) (h : S.1 3102 = 0 ∨ S.1 3102 = 1) : f_X10_morning_95 S = some (S.1 3102, S) := by
  unfold f_X10_morning_95
  rcases h with h | h <;> rw [h]
  · rfl
  · rfl
theorem rI_same (S : z_Stt) (n : Nat) (v : Int32) : (sI S n v).1 n = v := if_pos rfl
theorem ss3100 (S : z_Stt) (n : Nat) (a b : Int32) : sI (sI S n a) n b = sI S n b := by
  refine z_ext ?_ rfl rfl rfl rfl
  funext j; simp only [rI]; split <;> rfl
theorem e_morning10 {a0 : Int32} (a1 : Int32) {S : z_Stt} (g : 0 ≤ a0 ∧ a0 < S.1 101) (g6 : 0 ≤ a0 ∧ a0 < 6) (c : S.1 705 < 0) {op re z : Int32} (ez : z = dz (dz a1)) (eop : op = drO a1 (vAt S (6 * 0 + a0))) (ere : re = drR a1 (vAt S (6 * 0 + a0)) (trV S a0) (stV S a0)) :
    f_X10_morning a0 a1 S = if vAt S (6 * 4 + a0) = 1 then some (re, sI (sA (sI (sI (sI (sI (sI S 3100 z) 3101 op) 3102 re) 705 a0) 706 op) 8 (usedV (S.2.2.1 8) a0.toNatClampNeg)) 701 (S.1 701 ||| (1 <<< (a0 &&& 31)))) else some (re, sI (sI (sI (sI (sI S 3100 z) 3101 op) 3102 re) 705 a0) 706 op) := by
  have op01 : op = 0 ∨ op = 1 := by rw [eop]; exact drO_01 _ _
  have re01 : re = 0 ∨ re = 1 := by rw [ere]; exact drR_01 _ _ _ _
  unfold f_X10_morning g_let
  rw [e_isThing10, g_bds, decide_eq_true g, if_pos rfl, if_pos c]
  dsimp only
  rw [e_ofT 0 (S := sI S 3100 a1) g, g_bds, e_trace10 (S := sI S 3100 a1) g, g_bds, e_stale10 (S := sI S 3100 a1) g g6.2, g_bds, e_drawMorning, g_bds]
  have v0 : vAt (sI S 3100 a1) (6 * 0 + a0) = vAt S (6 * 0 + a0) := rfl
  have v1 : trV (sI S 3100 a1) a0 = trV S a0 := rfl
  have v2 : stV (sI S 3100 a1) a0 = stV S a0 := rfl
  have dS : drS (sI S 3100 a1) (vAt S (6 * 0 + a0)) (trV S a0) (stV S a0) = sI (sI (sI S 3100 z) 3101 op) 3102 re := by
    have r : (sI S 3100 a1).1 3100 = a1 := rfl
    unfold drS
    rw [r, ← eop, ← ere, ← ez, ss3100]
  rw [v0, v1, v2, dS]
  try dsimp only
  have r3 : (sI (sI (sI (sI S 3100 z) 3101 op) 3102 re) 705 a0).1 3101 = op := rfl
  rw [r3, if_pos op01]
  have r4 : vAt (sI (sI (sI (sI (sI S 3100 z) 3101 op) 3102 re) 705 a0) 706 op) (6 * 4 + a0) = vAt S (6 * 4 + a0) := rfl
  rw [e_marked (S := sI (sI (sI (sI (sI S 3100 z) 3101 op) 3102 re) 705 a0) 706 op) g, g_bds, r4]
  by_cases m : vAt S (6 * 4 + a0) = 1
  · rw [decide_eq_true m, if_pos rfl, if_pos m, e_use g6, g_bds, e_m95 _ re01]
    rfl
  · rw [decide_eq_false m, if_neg (by decide), if_neg m, e_m95 _ re01]
    rfl
theorem use12a {x : Int32} (h : x ≤ 12) (q : 12 ≤ x) : x + 0 = if 12 < x + 1 then 12 else x + 1 := by grind
theorem use12b {x : Int32} (q : ¬ 12 ≤ x) : x + 1 = if 12 < x + 1 then 12 else x + 1 := by grind
theorem s4829 (T : z_Stt) (y o z : Int32) : sI (sI (sI T 4829 y) 4831 o) 4829 z = sI (sI T 4829 z) 4831 o := by
  refine z_ext ?_ rfl rfl rfl rfl
  funext j; simp only [rI, rI2, rJ1, rJ2, rJ3, rA1, rA2, rA3, rA4, rE1, rE2, rE3, rE4, rE5, rR1, rR2, rR3, rR4, rR5, Nat.reduceEqDiff, reduceIte]; grind
theorem e_drawG {k y z : Int32} (hk : 0 < k) {T : z_Stt} (h : T.1 4829 = y) (hz : z = dz y) : f_X11_draws k T = some (dr z k, sI T 4829 z) := by
  rw [e_draw11 hk, h, hz]
theorem m85 {a0 re : Int32} {S U : z_Stt} {f54 : Nat → Int32} (g6 : 0 ≤ a0 ∧ a0 < 6) (hu : S.2.2.1 8 a0.toNatClampNeg ≤ 12) (u1 : U.2.2.1 49 = S.2.2.1 2) (u2 : U.2.2.1 53 = S.2.2.1 8) (u3 : U.2.2.1 54 = f54) : f_X11_morning_85 a0 re U = if vAt S (6 * 4 + a0) = 1 then some (re, sA (sA (sI U 4830 a0) 53 (usedV (S.2.2.1 8) a0.toNatClampNeg)) 54 (upd f54 a0.toNatClampNeg 1)) else some (re, sI U 4830 a0) := by
  unfold f_X11_morning_85 g_let
  dsimp only
  rw [e_nrG (S := S) (T := sI U 4830 a0) u1 (k := 4) (by decide +kernel) g6, g_bds]
  by_cases m : vAt S (6 * 4 + a0) = 1
  · rw [if_pos m, if_pos m]
    simp only [vp_6, if_pos g6, rI2, u2]
    have k : ∀ y : Int32, S.2.2.1 8 a0.toNatClampNeg + y = (if 12 < S.2.2.1 8 a0.toNatClampNeg + 1 then 12 else S.2.2.1 8 a0.toNatClampNeg + 1) → f_X11_morning_124 a0 re y (S.2.2.1 8 a0.toNatClampNeg) a0 (sI U 4830 a0) = some (re, sA (sA (sI U 4830 a0) 53 (usedV (S.2.2.1 8) a0.toNatClampNeg)) 54 (upd f54 a0.toNatClampNeg 1)) := by
      intro y ey
      simp only [f_X11_morning_124, vp_6, if_pos g6, g_let, ey, rI2, u2, rA3, Nat.reduceEqDiff, reduceIte, u3, usedV]
    by_cases q : 12 ≤ S.2.2.1 8 a0.toNatClampNeg
    · rw [if_pos q, k 0 (use12a hu q)]
    · rw [if_neg q, k 1 (use12b q)]
  · rw [if_neg m, if_neg m]
theorem m77 {a0 x v re : Int32} {U : z_Stt} (h : re = if x ≤ v then 0 else 1) : f_X11_morning_77 a0 x v U = f_X11_morning_85 a0 re U := by
  unfold f_X11_morning_77
  rw [h]; split <;> rfl
theorem m48 {a0 op re y z : Int32} {S U : z_Stt} (g6 : 0 ≤ a0 ∧ a0 < 6) (op01 : op = 0 ∨ op = 1) (hz : z = dz y) (u0 : U.1 4829 = y) (u1 : U.2.2.1 49 = S.2.2.1 2) (u2 : U.2.2.1 53 = S.2.2.1 8) (hre : re = if (if op = 0 then trV S a0 else stV S a0) ≤ dr z 12 then 0 else 1) : f_X11_morning_48 a0 op U = f_X11_morning_85 a0 re (sI (sI U 4831 op) 4829 z) := by
  unfold f_X11_morning_48 g_let
  rw [if_pos op01]
  dsimp only
  have r : (sI U 4831 op).1 4829 = y := u0
  rw [e_drawG (k := 12) (by decide +kernel) r hz, g_bds]
  clear r hz u0
  have r2 : (sI (sI U 4831 op) 4829 z).1 4831 = op := rfl
  rw [r2]
  by_cases o : op = 0
  · rw [if_pos o] at hre ⊢
    rw [e_traceG (S := S) (T := sI (sI U 4831 op) 4829 z) u1 g6, g_bds, m77 hre]
  · rw [if_neg o] at hre ⊢
    rw [e_staleG (S := S) (T := sI (sI U 4831 op) 4829 z) u1 u2 g6, g_bds, m77 hre]
theorem mq {P : Prop} {i : Decidable P} (a0 op : Int32) (U : z_Stt) (h : op = @ite Int32 P i 0 1) : (@ite _ P i (f_X11_morning_48 a0 0 U) (f_X11_morning_48 a0 1 U)) = f_X11_morning_48 a0 op U := by
  by_cases c : P
  · rw [if_pos c] at h ⊢; rw [h]
  · rw [if_neg c] at h ⊢; rw [h]
theorem g_lets {β : Type} (x : z_Stt) (f : z_Stt → Option β) : g_let x f = f x := rfl
theorem m00 {a0 y q8 : Int32} (a1 : Int32) {S T : z_Stt} (g : 0 ≤ a0 ∧ a0 < T.1 4806) (g6 : 0 ≤ a0 ∧ a0 < 6) (c : T.1 4830 < 0) (h49 : T.2.2.1 49 = S.2.2.1 2) (hd : f_X11_draws 144 (sI T 4829 a1) = some (q8, sI T 4829 y)) : f_X11_morning a0 a1 T = if vAt S (6 * 0 + a0) ≤ q8 then f_X11_morning_48 a0 0 (sI T 4829 y) else f_X11_morning_48 a0 1 (sI T 4829 y) := by
  have it := e_isThing11 a0 (S := T) (Int32.le_trans g.1 (Int32.le_of_lt g.2))
  rw [decide_eq_true g] at it
  have nr := e_nrG (S := S) (T := sI T 4829 y) h49 (k := 0) (by decide +kernel) g6
  have e0 : f_X11_morning a0 a1 T = g_let (sI T 4829 a1) fun S6 => g_bd (f_X11_draws 144 S6) fun v8 S9 => g_bd (f_X11_numberOf a0 0 S9) fun v11 S12 => if v11 ≤ v8 then f_X11_morning_48 a0 0 S12 else f_X11_morning_48 a0 1 S12 := by
    unfold f_X11_morning
    rw [it, g_bds, if_pos rfl, if_pos c]
  have e1 : ∀ (q : Int32) (U : z_Stt), f_X11_numberOf a0 0 U = some (vAt S (6 * 0 + a0), U) → (g_bd (some (q, U)) fun v8 S9 => g_bd (f_X11_numberOf a0 0 S9) fun v11 S12 => if v11 ≤ v8 then f_X11_morning_48 a0 0 S12 else f_X11_morning_48 a0 1 S12) = if vAt S (6 * 0 + a0) ≤ q then f_X11_morning_48 a0 0 U else f_X11_morning_48 a0 1 U := by
    intro q U h
    rw [g_bds, h, g_bds]
  rw [e0]
  generalize sI T 4829 a1 = V at hd ⊢
  generalize sI T 4829 y = W at hd nr ⊢
  rw [g_lets, hd]
  exact e1 _ _ nr
theorem mdr {a1 y : Int32} (T : z_Stt) (ey : y = dz a1) : f_X11_draws 144 (sI T 4829 a1) = some (dr y 144, sI T 4829 y) := by
  have r : (sI T 4829 a1).1 4829 = a1 := rI_same _ _ _
  rw [e_drawG (k := 144) (by decide +kernel) r ey, ss3100]
theorem e_morning11 {a0 : Int32} (a1 : Int32) {S T : z_Stt} (g : 0 ≤ a0 ∧ a0 < T.1 4806) (g6 : 0 ≤ a0 ∧ a0 < 6) (c : T.1 4830 < 0) (h49 : T.2.2.1 49 = S.2.2.1 2) (h53 : T.2.2.1 53 = S.2.2.1 8) (hu : S.2.2.1 8 a0.toNatClampNeg ≤ 12) {op re y z : Int32} (ey : y = dz a1) (ez : z = dz y) (op01 : op = 0 ∨ op = 1) (eop : op = if vAt S (6 * 0 + a0) ≤ dr y 144 then 0 else 1) (ere : re = if (if op = 0 then trV S a0 else stV S a0) ≤ dr z 12 then 0 else 1) :
    f_X11_morning a0 a1 T = if vAt S (6 * 4 + a0) = 1 then some (re, sA (sA (sI (sI (sI T 4829 z) 4831 op) 4830 a0) 53 (usedV (S.2.2.1 8) a0.toNatClampNeg)) 54 (upd (T.2.2.1 54) a0.toNatClampNeg 1)) else some (re, sI (sI (sI T 4829 z) 4831 op) 4830 a0) := by
  rw [m00 a1 g g6 c h49 (mdr T ey), mq a0 op _ eop, m48 (S := S) (U := sI T 4829 y) g6 op01 ez (rI_same _ _ _) h49 h53 ere, s4829]
  exact m85 (S := S) (U := sI (sI T 4829 z) 4831 op) g6 hu h49 h53 rfl
theorem lt_of6 {t th : Int32} (h1 : t < th) (h2 : th ≤ 6) : t < 6 := by lia
theorem E_morning (a0 : Int32) (a1 : Int32) {S : z_Stt} (h : Inv S) : ∃ (v : Int32) (S1 S2 : z_Stt), f_X10_morning a0 a1 S = some (v, S1) ∧ f_X11_morning a0 a1 S1 = some (v, S2) ∧ Inv S2 := by
  obtain ⟨hw, e1, e2⟩ := h.1
  obtain ⟨⟨d1, d2, d3, d4, d5⟩, k1, k2, k3, k4, k5, k6, k7⟩ := h.2.2.1
  by_cases g : 0 ≤ a0 ∧ a0 < S.1 101
  · by_cases c : S.1 705 < 0
    · have g6 : 0 ≤ a0 ∧ a0 < 6 := ⟨g.1, lt_of6 g.2 hw.1.2⟩
      have n6 := ix_l g6
      obtain ⟨op, eop⟩ : ∃ op, op = drO a1 (vAt S (6 * 0 + a0)) := ⟨_, rfl⟩
      obtain ⟨re, ere⟩ : ∃ re, re = drR a1 (vAt S (6 * 0 + a0)) (trV S a0) (stV S a0) := ⟨_, rfl⟩
      have op01 : op = 0 ∨ op = 1 := by rw [eop]; exact drO_01 _ _
      have re01 : re = 0 ∨ re = 1 := by rw [ere]; exact drR_01 _ _ _ _
      obtain ⟨y, ey⟩ : ∃ y, y = dz a1 := ⟨_, rfl⟩
      obtain ⟨z, ez⟩ : ∃ z, z = dz (dz a1) := ⟨_, rfl⟩
      have ez' : z = dz y := by rw [ez, ey]
      have eop' : op = if vAt S (6 * 0 + a0) ≤ dr y 144 then 0 else 1 := by rw [eop, ey]; rfl
      have ere' : re = if (if op = 0 then trV S a0 else stV S a0) ≤ dr z 12 then 0 else 1 := by rw [ere, eop, ez]; rfl
      have l10 := e_morning10 a1 g g6 c ez eop ere
      have thg : -1 ≤ a0 ∧ a0 < S.1 101 ∨ a0 = -1 := Or.inl ⟨by lia, g.2⟩
      have ua := (d1 _ n6).1
      by_cases m : vAt S (6 * 4 + a0) = 1
      · have l11 := e_morning11 (S := S) (T := (sI (sA (sI (sI (sI (sI (sI S 3100 z) 3101 op) 3102 re) 705 a0) 706 op) 8 (usedV (S.2.2.1 8) a0.toNatClampNeg)) 701 (S.1 701 ||| (1 <<< (a0 &&& 31))))) a1 (by rw [show (sI (sA (sI (sI (sI (sI (sI S 3100 z) 3101 op) 3102 re) 705 a0) 706 op) 8 (usedV (S.2.2.1 8) a0.toNatClampNeg)) 701 (S.1 701 ||| (1 <<< (a0 &&& 31)))).1 4806 = S.1 4806 from rfl, e2]; exact g) g6 (by rw [show (sI (sA (sI (sI (sI (sI (sI S 3100 z) 3101 op) 3102 re) 705 a0) 706 op) 8 (usedV (S.2.2.1 8) a0.toNatClampNeg)) 701 (S.1 701 ||| (1 <<< (a0 &&& 31)))).1 4830 = S.1 4830 from rfl, k6]; exact c) e1 k1 ua.2 ey ez' op01 eop' ere'
        rw [if_pos m] at l10 l11
        refine ⟨re, _, _, l10, l11, ?_⟩
        refine ⟨h.1.of rfl rfl rfl rfl, h.2.1.of rfl rfl rfl rfl rfl rfl rfl rfl rfl rfl rfl, ⟨⟨fun t ht => ?_, d2, d3, thg, op01⟩, rfl, fun t ht => ?_, k3, k4, k5, rfl, rfl⟩, h.2.2.2.1.of rfl rfl rfl rfl rfl rfl rfl rfl rfl rfl rfl rfl, h.2.2.2.2.1.of rfl rfl rfl rfl rfl rfl rfl rfl rfl, h.2.2.2.2.2.1.of rfl rfl rfl rfl rfl rfl rfl rfl, h.2.2.2.2.2.2.of rfl (fun n q1 q2 => by simp only [sI, sJ, sA, sE, sR]; repeat rw [if_neg (by omega)]) (fun n q1 q2 => by simp only [sI, sJ, sA, sE, sR]; repeat rw [if_neg (by omega)]) rfl rfl rfl⟩
        · show (0 ≤ usedV (S.2.2.1 8) a0.toNatClampNeg t ∧ usedV (S.2.2.1 8) a0.toNatClampNeg t ≤ 12) ∧ ((S.1 101).toNatClampNeg ≤ t → usedV (S.2.2.1 8) a0.toNatClampNeg t = 0 ∧ sb (S.1 701 ||| (1 <<< (a0 &&& 31))) t = 0)
          have da := lt_nat g.1 g.2
          unfold usedV
          rw [sb_or _ ht g6]
          by_cases e : t = a0.toNatClampNeg
          · rw [e, upd_same]; exact ⟨by grind, fun q => absurd q (by omega)⟩
          · rw [upd_ne e, if_neg e]; exact d1 t ht
        · show upd (S.2.2.1 54) a0.toNatClampNeg 1 t = sb (S.1 701 ||| (1 <<< (a0 &&& 31))) t
          rw [sb_or _ ht g6]
          by_cases e : t = a0.toNatClampNeg
          · rw [if_pos e, e, upd_same]
          · rw [if_neg e, upd_ne e]; exact k2 t ht
      · have l11 := e_morning11 (S := S) (T := (sI (sI (sI (sI (sI S 3100 z) 3101 op) 3102 re) 705 a0) 706 op)) a1 (by rw [show (sI (sI (sI (sI (sI S 3100 z) 3101 op) 3102 re) 705 a0) 706 op).1 4806 = S.1 4806 from rfl, e2]; exact g) g6 (by rw [show (sI (sI (sI (sI (sI S 3100 z) 3101 op) 3102 re) 705 a0) 706 op).1 4830 = S.1 4830 from rfl, k6]; exact c) e1 k1 ua.2 ey ez' op01 eop' ere'
        rw [if_neg m] at l10 l11
        refine ⟨re, _, _, l10, l11, ?_⟩
        exact ⟨h.1.of rfl rfl rfl rfl, h.2.1.of rfl rfl rfl rfl rfl rfl rfl rfl rfl rfl rfl, ⟨⟨d1, d2, d3, thg, op01⟩, k1, k2, k3, k4, k5, rfl, rfl⟩, h.2.2.2.1.of rfl rfl rfl rfl rfl rfl rfl rfl rfl rfl rfl rfl, h.2.2.2.2.1.of rfl rfl rfl rfl rfl rfl rfl rfl rfl, h.2.2.2.2.2.1.of rfl rfl rfl rfl rfl rfl rfl rfl, h.2.2.2.2.2.2.of rfl (fun n q1 q2 => by simp only [sI, sJ, sA, sE, sR]; repeat rw [if_neg (by omega)]) (fun n q1 q2 => by simp only [sI, sJ, sA, sE, sR]; repeat rw [if_neg (by omega)]) rfl rfl rfl⟩
    · refine ⟨-5, S, S, ?_, ?_, h⟩
      · simp only [f_X10_morning, e_isThing10, decide_eq_true g, g_bds, if_true, if_neg c]
      · have g' : 0 ≤ a0 ∧ a0 < S.1 4806 := by rw [e2]; exact g
        simp only [f_X11_morning, e_isThing11 a0 (S := S) (by rw [e2]; exact hw.1.1), decide_eq_true g', g_bds, if_true, k6, if_neg c]
  · refine ⟨-1, S, S, ?_, ?_, h⟩
    · simp only [f_X10_morning, e_isThing10, decide_eq_false g, g_bds, Bool.false_eq_true, if_false]
    · have g' : ¬ (0 ≤ a0 ∧ a0 < S.1 4806) := by rw [e2]; exact g
      simp only [f_X11_morning, e_isThing11 a0 (S := S) (by rw [e2]; exact hw.1.1), decide_eq_false g', g_bds, Bool.false_eq_true, if_false]
