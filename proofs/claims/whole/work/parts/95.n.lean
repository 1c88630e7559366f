/-! CAMERA: what to know of one saves -/
def smx (R : Nat → Int) (t : Nat) : Int := sm (fun s => if s = t then 0 else R s) 6
theorem sm_x (R : Nat → Int) (t : Nat) : ∀ k, sm R k = (if t < k then R t else 0) + sm (fun s => if s = t then 0 else R s) k
  | 0 => rfl
  | k + 1 => by
    have ih := sm_x R t k
    show sm R k + R k = _ + (sm (fun s => if s = t then 0 else R s) k + (if k = t then 0 else R k))
    by_cases c : k = t
    · rw [if_pos c, if_pos (by omega)]
      rw [if_neg (by omega)] at ih
      rw [ih, c]; omega
    · rw [if_neg c]
      by_cases d : t < k
      · rw [if_pos d] at ih
        rw [if_pos (by omega), ih]; omega
      · rw [if_neg d] at ih
        rw [if_neg (by omega), ih]; omega
theorem smx_6 (R : Nat → Int) {t : Nat} (ht : t < 6) : sm R 6 = R t + smx R t := by
  have := sm_x R t 6
  rw [if_pos ht] at this
  exact this
theorem smx_dv {y : Nat} {n b g h : Nat → Int} (d : Dok y n b g h) {t : Nat} (ht : t < 6) : ∃ E : Int, 0 ≤ E ∧ smx (RD n b h) t = b t * E := by
  have key : ∀ k, k ≤ 6 → ∃ E : Int, 0 ≤ E ∧ sm (fun s => if s = t then 0 else RD n b h s) k = b t * E := by
    intro k
    induction k with
    | zero => exact fun _ => ⟨0, Int.le_refl _, by show (0 : Int) = b t * 0; omega⟩
    | succ k ih =>
      intro hk
      obtain ⟨E, e0, e1⟩ := ih (by omega)
      by_cases c : k = t
      · refine ⟨E, e0, ?_⟩
        show sm (fun s => if s = t then 0 else RD n b h s) k + (if k = t then 0 else RD n b h k) = _
        rw [if_pos c, e1]; omega
      · obtain ⟨d1, d2, d3, d4, d5, d6', dn⟩ := d.2.1 k (by omega)
        have x := pr_x (fun s => if s = k then 1 else b s) t 6 ht
        have e2 : prx b k 6 = b t * prx (fun s => if s = k then 1 else b s) t 6 := by
          have z : (if t = k then (1 : Int) else b t) = b t := if_neg (fun q => c q.symm)
          have x' : prx b k 6 = (if t = k then (1 : Int) else b t) * prx (fun s => if s = k then 1 else b s) t 6 := x
          rw [z] at x'; exact x'
        have p : 0 ≤ prx (fun s => if s = k then 1 else b s) t 6 := prx_nn (fun s hs => by
          show 0 ≤ (if s = k then (1 : Int) else b s)
          have := (d.2.1 s hs).2.1
          split <;> omega)
        refine ⟨E + h k * (n k * prx (fun s => if s = k then 1 else b s) t 6), ?_, ?_⟩
        · have := Int.mul_nonneg d5 (Int.mul_nonneg d3 p); omega
        · show sm (fun s => if s = t then 0 else RD n b h s) k + (if k = t then 0 else RD n b h k) = _
          rw [if_neg c, e1]
          unfold RD
          rw [e2]; grind
  exact key 6 (Nat.le_refl _)
def svI (l st W n b q E h : Int) : Int := minI (W * l) st - n * minI (E + h * q) (W * q) - (b - n) * minI E (W * q)
theorem mn_c {x y : Int64} {A B : Int} (hx : x.toInt = A) (hy : y.toInt = B) : (if x < y then x else y).toInt = minI A B := by
  unfold minI
  by_cases c : x < y
  · have c' := c
    rw [Int64.lt_iff_toInt_lt, hx, hy] at c'
    rw [if_pos c, if_pos c', hx]
  · have c' := c
    rw [Int64.lt_iff_toInt_lt, hx, hy] at c'
    rw [if_neg c, if_neg c', hy]
theorem mn_r {G A B : Int} (hG : 0 < G) {x y : Int64} (hx : x.toInt = G * A) (hy : y.toInt = G * B) (T : z_Stt) : ∃ v : Int64, f_X11_lesserOf x y T = some (v, T) ∧ v.toInt = G * minI A B := by
  unfold minI
  by_cases c : 0 ≤ lg_cmp x y
  · have c' := c
    rw [lge, hx, hy, G_le hG] at c'
    refine ⟨y, less_ge c T, ?_⟩
    by_cases q : A < B
    · omega
    · rw [if_neg q, hy]
  · have c' := c
    rw [lge, hx, hy, G_le hG] at c'
    exact ⟨x, less_lt c T, by rw [if_pos (by omega), hx]⟩
theorem mn_bd {a b : Int} (h0 : 0 ≤ a) (h1 : 0 ≤ b) : 0 ≤ minI a b ∧ minI a b ≤ a ∧ minI a b ≤ b := by unfold minI; split <;> omega
theorem mn_cm (a b : Int) : minI a b = minI b a := by
  unfold minI
  by_cases c : a < b
  · rw [if_pos c, if_neg (by omega)]
  · rw [if_neg c]
    by_cases d : b < a
    · rw [if_pos d]
    · rw [if_neg d]; omega
/-- the numbers of one thing -/
theorem sv_ok {y : Nat} {n b g h : Nat → Int} (d : Dok y n b g h) {t : Nat} (ht : t < 6) {W E : Int} (hW : 0 ≤ W ∧ W ≤ 19602) (hE : 0 ≤ E) (eE : smx (RD n b h) t = b t * E) : 0 ≤ prx b t 6 ∧ pr b 6 = b t * prx b t 6 ∧ 0 ≤ W * prx b t 6 ∧ b t * (W * prx b t 6) ≤ 19602 * pr b 6 ∧ W * prx b t 6 ≤ 19602 * pr b 6 ∧ 0 ≤ h t * prx b t 6 ∧ h t * prx b t 6 ≤ 999 * pr b 6 ∧ b t * E ≤ 5994 * pr b 6 ∧ E ≤ 5994 * pr b 6 ∧ (0 ≤ n t * minI (E + h t * prx b t 6) (W * prx b t 6) ∧ n t * minI (E + h t * prx b t 6) (W * prx b t 6) ≤ 19602 * pr b 6) ∧ (0 ≤ (b t - n t) * minI E (W * prx b t 6) ∧ (b t - n t) * minI E (W * prx b t 6) ≤ 19602 * pr b 6) := by
  obtain ⟨d1, d2, d3, d4, d5, d6', dn⟩ := d.2.1 t ht
  obtain ⟨-, p1, p2, p3, p4⟩ := d.l
  have x := pr_x b t 6 ht
  have q0 := prx_pos (f := b) (s := t) (fun s hs => (d.2.1 s hs).2.1)
  have ql : prx b t 6 ≤ pr b 6 := by
    have z : 1 * prx b t 6 ≤ b t * prx b t 6 := Int.mul_le_mul_of_nonneg_right (by omega) (by omega)
    omega
  have w0 : 0 ≤ W * prx b t 6 := Int.mul_nonneg hW.1 (by omega)
  have w1 : b t * (W * prx b t 6) ≤ 19602 * pr b 6 := by
    have e : b t * (W * prx b t 6) = W * pr b 6 := by rw [x]; grind
    rw [e]; exact Int.mul_le_mul_of_nonneg_right hW.2 (by omega)
  have w2 : W * prx b t 6 ≤ b t * (W * prx b t 6) := by
    have z : 1 * (W * prx b t 6) ≤ b t * (W * prx b t 6) := Int.mul_le_mul_of_nonneg_right (by omega) w0
    omega
  have h0 : 0 ≤ h t * prx b t 6 := Int.mul_nonneg d5 (by omega)
  have h1 : h t * prx b t 6 ≤ 999 * pr b 6 := Int.mul_le_mul d6' ql (by omega) (by omega)
  have r6 := nsel_bd d 0 (Nat.le_refl 6)
  rw [nsel_0] at r6
  have s6 := smx_6 (RD n b h) ht
  have rt := RD_ok d ht
  have bE : b t * E ≤ 5994 * pr b 6 := by omega
  have E1 : E ≤ b t * E := by
    have z : 1 * E ≤ b t * E := Int.mul_le_mul_of_nonneg_right (by omega) hE
    omega
  obtain ⟨m1, m2, m3⟩ := mn_bd (a := E + h t * prx b t 6) (b := W * prx b t 6) (by omega) w0
  obtain ⟨m4, m5, m6⟩ := mn_bd (a := E) (b := W * prx b t 6) hE w0
  have n1 : n t * minI (E + h t * prx b t 6) (W * prx b t 6) ≤ b t * (W * prx b t 6) := Int.mul_le_mul d4 m3 m1 (by omega)
  have n2 : (b t - n t) * minI E (W * prx b t 6) ≤ b t * (W * prx b t 6) := Int.mul_le_mul (by omega) m6 m4 (by omega)
  exact ⟨by omega, x, w0, w1, by omega, h0, h1, bE, by omega, ⟨Int.mul_nonneg d3 m1, by omega⟩, ⟨Int.mul_nonneg (by omega) m4, by omega⟩⟩
def svE (n b h : Nat → Int) (t : Nat) : Int := smx (RD n b h) t / b t
def sv (n b h : Nat → Int) (W : Int) (t : Nat) : Int := svI (pr b 6) (sm (RD n b h) 6) W (n t) (b t) (prx b t 6) (svE n b h t) (h t)
theorem svE_ok {y : Nat} {n b g h : Nat → Int} (d : Dok y n b g h) {t : Nat} (ht : t < 6) : 0 ≤ svE n b h t ∧ smx (RD n b h) t = b t * svE n b h t := by
  obtain ⟨E, e0, e1⟩ := smx_dv d ht
  have b0 := (d.2.1 t ht).2.1
  have e : svE n b h t = E := by unfold svE; rw [e1, Int.mul_ediv_cancel_left _ (by omega)]
  rw [e]; exact ⟨e0, e1⟩
theorem sv_bd {y : Nat} {n b g h : Nat → Int} (d : Dok y n b g h) {t : Nat} (ht : t < 6) {W : Int} (hW : 0 ≤ W ∧ W ≤ 19602) : -39204 * pr b 6 ≤ sv n b h W t ∧ sv n b h W t ≤ 19602 * pr b 6 := by
  obtain ⟨e0, e1⟩ := svE_ok d ht
  obtain ⟨s1, s2, s3, s4, s5, s6, s7, s8, s9, ⟨s10, s11⟩, s12, s13⟩ := sv_ok d ht hW e0 e1
  obtain ⟨-, p1, p2, p3, p4⟩ := d.l
  have r6 := nsel_bd d 0 (Nat.le_refl 6)
  rw [nsel_0] at r6
  have wl : W * pr b 6 ≤ 19602 * pr b 6 := Int.mul_le_mul_of_nonneg_right hW.2 (by omega)
  obtain ⟨m1, m2, m3⟩ := mn_bd (a := W * pr b 6) (b := sm (RD n b h) 6) (Int.mul_nonneg hW.1 (by omega)) r6.1
  unfold sv svI
  omega
theorem e_sb {C : z_Stt} {y : Nat} {n b g h : Nat → Int} (d : Dok y n b g h) (c : cDt C y n b h) {t : Nat} (ht : t < 6) (hb : y.testBit t = true) {way : Int64} {W : Int} (eW : way.toInt = W) (hW : 0 ≤ W ∧ W ≤ 19602) : ∃ v : Int64, f_X2_savedBy (Int32.ofNat t) way C = some (v, C) ∧ v.toInt = sv n b h W t := by
  obtain ⟨e0, e1⟩ := svE_ok d ht
  obtain ⟨s1, s2, s3, s4, s5, s6, s7, s8, s9, ⟨s10, s11⟩, s12, s13⟩ := sv_ok d ht hW e0 e1
  obtain ⟨-, p1, p2, p3, p4⟩ := d.l
  obtain ⟨d1, d2, d3, d4, d5, d6', dn⟩ := d.2.1 t ht
  obtain ⟨c1, c2, c3⟩ := c.1.2 t ht hb
  have r6 := nsel_bd d 0 (Nat.le_refl 6)
  rw [nsel_0] at r6
  have rt := RD_ok d ht
  have x6 := smx_6 (RD n b h) ht
  have bp : 0 < C.2.1 (100 * (22 + t) + 1) := by rw [i64lt, c2]; exact d2
  have a1 : (C.2.1 1804 / C.2.1 (100 * (22 + t) + 1)).toInt = prx b t 6 := by
    rw [tj_div (by rw [c.2.1]; omega) (by rw [c2]; exact d2), c.2.1, c2, s2, Int.mul_ediv_cancel_left _ (by omega)]
  have a2 : (C.2.1 1805 - C.2.2.2.1 21 t).toInt = b t * svE n b h t := by
    rw [tj_sub (by rw [c.2.2.1, c.2.2.2 t ht]; omega), c.2.2.1, c.2.2.2 t ht, ← e1]; omega
  have a3 : ((C.2.1 1805 - C.2.2.2.1 21 t) / C.2.1 (100 * (22 + t) + 1)).toInt = svE n b h t := by
    rw [tj_div (by rw [a2]; exact Int.mul_nonneg (by omega) e0) (by rw [c2]; exact d2), a2, c2, Int.mul_ediv_cancel_left _ (by omega)]
  have a4 : ((C.2.2.1 20 t).toInt64 * (C.2.1 1804 / C.2.1 (100 * (22 + t) + 1))).toInt = h t * prx b t 6 := by
    rw [tj_mul (by rw [Int32.toInt_toInt64, c3, a1]; omega), Int32.toInt_toInt64, c3, a1]
  have a5 : (way * (C.2.1 1804 / C.2.1 (100 * (22 + t) + 1))).toInt = W * prx b t 6 := by
    rw [tj_mul (by rw [eW, a1]; omega), eW, a1]
  have a6 : ((C.2.1 1805 - C.2.2.2.1 21 t) / C.2.1 (100 * (22 + t) + 1) + (C.2.2.1 20 t).toInt64 * (C.2.1 1804 / C.2.1 (100 * (22 + t) + 1))).toInt = svE n b h t + h t * prx b t 6 := by
    rw [tj_add (by rw [a3, a4]; omega), a3, a4]
  have wl0 : 0 ≤ W * pr b 6 := Int.mul_nonneg hW.1 (by omega)
  have wl : W * pr b 6 ≤ 19602 * pr b 6 := Int.mul_le_mul_of_nonneg_right hW.2 (by omega)
  have a7 : (way * C.2.1 1804).toInt = W * pr b 6 := by rw [tj_mul (by rw [eW, c.2.1]; omega), eW, c.2.1]
  have m1 := mn_c a7 c.2.2.1
  have m2 := mn_c a6 a5
  have m3 := mn_c a3 a5
  have mb := mn_bd (a := W * pr b 6) (b := sm (RD n b h) 6) wl0 r6.1
  have bm : b t ≤ pr b 6 := by
    have z : b t * 1 ≤ b t * prx b t 6 := Int.mul_le_mul_of_nonneg_left (by have := prx_pos (f := b) (s := t) (fun s hs => (d.2.1 s hs).2.1); omega) (by omega)
    omega
  have a8 : (C.2.1 (100 * (22 + t) + 1) - C.2.1 (100 * (22 + t) + 0)).toInt = b t - n t := by
    rw [tj_sub (by rw [c1, c2]; omega), c1, c2]
  generalize em1 : (if way * C.2.1 1804 < C.2.1 1805 then way * C.2.1 1804 else C.2.1 1805) = M1 at *
  generalize em2 : (if (C.2.1 1805 - C.2.2.2.1 21 t) / C.2.1 (100 * (22 + t) + 1) + (C.2.2.1 20 t).toInt64 * (C.2.1 1804 / C.2.1 (100 * (22 + t) + 1)) < way * (C.2.1 1804 / C.2.1 (100 * (22 + t) + 1)) then (C.2.1 1805 - C.2.2.2.1 21 t) / C.2.1 (100 * (22 + t) + 1) + (C.2.2.1 20 t).toInt64 * (C.2.1 1804 / C.2.1 (100 * (22 + t) + 1)) else way * (C.2.1 1804 / C.2.1 (100 * (22 + t) + 1))) = M2 at *
  generalize em3 : (if (C.2.1 1805 - C.2.2.2.1 21 t) / C.2.1 (100 * (22 + t) + 1) < way * (C.2.1 1804 / C.2.1 (100 * (22 + t) + 1)) then (C.2.1 1805 - C.2.2.2.1 21 t) / C.2.1 (100 * (22 + t) + 1) else way * (C.2.1 1804 / C.2.1 (100 * (22 + t) + 1))) = M3 at *
  have b1 : (C.2.1 (100 * (22 + t) + 0) * M2).toInt = n t * minI (svE n b h t + h t * prx b t 6) (W * prx b t 6) := by rw [tj_mul (by rw [c1, m2]; omega), c1, m2]
  have b2 : ((C.2.1 (100 * (22 + t) + 1) - C.2.1 (100 * (22 + t) + 0)) * M3).toInt = (b t - n t) * minI (svE n b h t) (W * prx b t 6) := by rw [tj_mul (by rw [a8, m3]; omega), a8, m3]
  have b3 : (M1 - C.2.1 (100 * (22 + t) + 0) * M2).toInt = minI (W * pr b 6) (sm (RD n b h) 6) - n t * minI (svE n b h t + h t * prx b t 6) (W * prx b t 6) := by rw [tj_sub (by rw [m1, b1]; omega), m1, b1]
  refine ⟨M1 - C.2.1 (100 * (22 + t) + 0) * M2 - (C.2.1 (100 * (22 + t) + 1) - C.2.1 (100 * (22 + t) + 0)) * M3, ?_, ?_⟩
  · unfold f_X2_savedBy
    rw [if_pos (v6n ht), if_pos (v6n ht), on_tn (by omega), if_pos (by rw [cmpg]; exact bp), if_pos (lt0n bp), if_pos (v6m ht), if_pos (lt0n bp), if_pos (v6m ht), em1, em2, em3]
  · rw [tj_sub (by rw [b3, b2]; omega), b3, b2]; rfl
