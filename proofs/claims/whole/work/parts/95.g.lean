/-! BEST -/
abbrev sbB (k y : Nat) : Prop := Int32.ofNat k &&& (Int32.ofNat y ^^^ (-1)) = 0
theorem sb_le8 : ∀ k y : Fin 64, sbB k.val y.val → k.val ≤ y.val := by decide +kernel
def dif (y s : Nat) : Nat := y ^^^ (y &&& s)
theorem dif_8 : ∀ y s : Fin 64, (Int32.ofNat y.val &&& (Int32.ofNat s.val ^^^ (-1))) = Int32.ofNat (dif y.val s.val) ∧ dif y.val s.val < 64 := by decide +kernel
theorem dif_b (y s t : Nat) : (dif y s).testBit t = (y.testBit t && !s.testBit t) := by
  unfold dif
  rw [Nat.testBit_xor, Nat.testBit_and]
  cases y.testBit t <;> cases s.testBit t <;> rfl
theorem sel_dif {y : Nat} {n b g h : Nat → Int} (d : Dok y n b g h) (s : Nat) : sm (selR (dif y s) (RD n b h)) 6 = sm (nselR s (RD n b h)) 6 := by
  refine sm_congr 6 (fun t ht => ?_)
  unfold selR nselR
  rw [dif_b]
  by_cases hs : s.testBit t = true
  · rw [if_pos hs, hs]
    rw [if_neg (by simp)]
  · rw [if_neg hs]
    by_cases hy : y.testBit t = true
    · rw [hy, Bool.eq_false_iff.mpr hs]; rfl
    · rw [if_neg (by simp [hy]), RD_0 d ht hy]
theorem sel_y {y : Nat} {n b g h : Nat → Int} (d : Dok y n b g h) : sm (selR y (RD n b h)) 6 = sm (RD n b h) 6 := by
  refine sm_congr 6 (fun t ht => ?_)
  unfold selR
  by_cases hy : y.testBit t = true
  · rw [if_pos hy]
  · rw [if_neg hy, RD_0 d ht hy]
theorem nsel_0 (R : Nat → Int) : sm (nselR 0 R) 6 = sm R 6 := by
  refine sm_congr 6 (fun t _ => ?_)
  unfold nselR
  rw [if_neg (by simp)]
def bst (f : Nat → Int) (y : Nat) : Nat → Nat
  | 0 => 0
  | k + 1 => if k = 0 then 0 else if sbB k y ∧ f k < f (bst f y k) then k else bst f y k
theorem bst_lt (f : Nat → Int) (y : Nat) : ∀ k, k ≤ 64 → bst f y k < 64
  | 0, _ => by show 0 < 64; decide
  | k + 1, h => by
    rw [bst]
    split
    · decide
    · split
      · omega
      · exact bst_lt f y k (by omega)
theorem bst_end (f : Nat → Int) {y : Nat} (hy : y < 64) : ∀ j, y + 1 + j ≤ 64 → bst f y (y + 1 + j) = bst f y (y + 1)
  | 0, _ => rfl
  | j + 1, h => by
    show bst f y ((y + 1 + j) + 1) = _
    rw [bst, if_neg (by omega), if_neg (fun q => by have : y + 1 + j ≤ y := sb_le8 ⟨y + 1 + j, by omega⟩ ⟨y, hy⟩ q.1; omega), bst_end f hy j (by omega)]
theorem on_63 {k : Nat} (h : k ≤ 2000) : (63 < Int32.ofNat k) = (63 < k) := on_lt (a := 63) (by omega) h
theorem e_bl {C : z_Stt} {y : Nat} {n b g h : Nat → Int} (d : Dok y n b g h) (c : cDt C y n b h) {F : Nat} (hF : 6 < F) {way : Int64} {look : Int32} {W K : Int} (eW : way.toInt = W) (hW : 0 ≤ W ∧ W ≤ 19602) (eK : look.toInt = K) (hK : 0 ≤ K ∧ K ≤ 99) : ∀ (j k m : Nat) (x5 : Int64), k + j = 64 → 1 ≤ k → j < m → x5.toInt = costI (pr b 6) W K (bst (fun s => costI (pr b 6) W K s (RD n b h)) y k) (RD n b h) → f_X2_bestLooks_12 F m way look (Int32.ofNat (bst (fun s => costI (pr b 6) W K s (RD n b h)) y k)) x5 (Int32.ofNat k) C = some (Int32.ofNat (bst (fun s => costI (pr b 6) W K s (RD n b h)) y 64), C) := by
  intro j
  induction j with
  | zero =>
    intro k m x5 hk h1 hm hx
    obtain ⟨m, rfl⟩ : ∃ q, m = q + 1 := ⟨m - 1, by omega⟩
    have ek : k = 64 := by omega
    subst ek
    rw [f_X2_bestLooks_12, if_pos (by decide +kernel)]
  | succ j ih =>
    intro k m x5 hk h1 hm hx
    obtain ⟨m, rfl⟩ : ∃ q, m = q + 1 := ⟨m - 1, by omega⟩
    have c1 : ¬ 63 < Int32.ofNat k := by rw [on_63 (by omega)]; omega
    have h18 : C.1 1800 = Int32.ofNat y := c.1.1
    obtain ⟨⟨v, v1, v2⟩, -, -⟩ := q_co d c (s := k) (by omega) hF eW hW eK hK
    have eb : bst (fun s => costI (pr b 6) W K s (RD n b h)) y (k + 1) = if k = 0 then 0 else if sbB k y ∧ costI (pr b 6) W K k (RD n b h) < costI (pr b 6) W K (bst (fun s => costI (pr b 6) W K s (RD n b h)) y k) (RD n b h) then k else bst (fun s => costI (pr b 6) W K s (RD n b h)) y k := rfl
    rw [if_neg (by omega)] at eb
    by_cases c2 : sbB k y
    · by_cases c3 : 0 ≤ lg_cmp v x5
      · have c3' := c3
        rw [lg_cmp_ge, Int64.le_iff_toInt_le, hx, v2] at c3'
        rw [if_neg (fun q => by have := q.2; omega)] at eb
        rw [f_X2_bestLooks_12, if_neg c1, h18, if_pos c2, v1, g_bds, if_pos c3, f_X2_bestLooks_59, on_s k (by omega), ← eb]
        exact ih (k + 1) m x5 (by omega) (by omega) (by omega) (by rw [eb]; exact hx)
      · have c3' := c3
        rw [lg_cmp_ge, Int64.le_iff_toInt_le, hx, v2] at c3'
        rw [if_pos ⟨c2, by omega⟩] at eb
        rw [f_X2_bestLooks_12, if_neg c1, h18, if_pos c2, v1, g_bds, if_neg c3, v1, g_bds, f_X2_bestLooks_59, on_s k (by omega)]
        have z := ih (k + 1) m v (by omega) (by omega) (by omega) (by rw [eb]; exact v2)
        rw [eb] at z
        exact z
    · rw [if_neg (fun q => c2 q.1)] at eb
      rw [f_X2_bestLooks_12, if_neg c1, h18, if_neg c2, f_X2_bestLooks_59, on_s k (by omega), ← eb]
      exact ih (k + 1) m x5 (by omega) (by omega) (by omega) (by rw [eb]; exact hx)
theorem less_ge {a b : Int64} (h : 0 ≤ lg_cmp a b) (S : z_Stt) : f_X11_lesserOf a b S = some (b, S) := by unfold f_X11_lesserOf; rw [if_pos h]
theorem less_lt {a b : Int64} (h : ¬ 0 ≤ lg_cmp a b) (S : z_Stt) : f_X11_lesserOf a b S = some (a, S) := by unfold f_X11_lesserOf; rw [if_neg h]
theorem G_le {G a b : Int} (h : 0 < G) : (G * a ≤ G * b) = (a ≤ b) := propext ⟨fun q => Int.le_of_mul_le_mul_left q h, fun q => Int.mul_le_mul_of_nonneg_left q (Int.le_of_lt h)⟩
theorem e_bR {S T : z_Stt} (h : Inv S) (a : agQ S T) {y : Nat} {n b g : Nat → Int} (d : Dok y n b g (hD S)) {th : Nat} (hth : S.1 101 = Int32.ofNat th) (h6 : th ≤ 6) (hyt : y < 2 ^ th) (r : rDt T th n b g) {F : Nat} (hF : 92 < F) {x2 x3 : Int32} {W K : Int} (eW : (prV S x2).toInt = W) (hW : 0 ≤ W ∧ W ≤ 19602) (eK : (S.2.2.1 2 37).toInt = K) (hK : 0 ≤ K ∧ K ≤ 99) : ∀ (j k m : Nat) (x6 : Int64), k + j = y + 1 → 1 ≤ k → j < m → x6.toInt = pr g 6 * costI (pr b 6) W K (bst (fun s => costI (pr b 6) W K s (RD n b (hD S))) y k) (RD n b (hD S)) → ∃ x : Int64, x.toInt = pr g 6 * costI (pr b 6) W K (bst (fun s => costI (pr b 6) W K s (RD n b (hD S))) y (y + 1)) (RD n b (hD S)) ∧ f_X11_best_64 F m x2 x3 (Int32.ofNat y) (Int32.ofNat (bst (fun s => costI (pr b 6) W K s (RD n b (hD S))) y k)) x6 (Int32.ofNat k) T = if x3 = 2 then some ((Int32.ofNat (bst (fun s => costI (pr b 6) W K s (RD n b (hD S))) y (y + 1))).toInt64, T) else g_bd (f_X11_partOf F x (T.2.1 4825) x3 T) fun v3 S4 => some (v3, S4) := by
  intro j
  obtain ⟨-, p1, p2, p3, p4⟩ := d.l
  have hy := d.1
  induction j with
  | zero =>
    intro k m x6 hk h1 hm hx
    obtain ⟨m, rfl⟩ : ∃ q, m = q + 1 := ⟨m - 1, by omega⟩
    have ek : k = y + 1 := by omega
    subst ek
    refine ⟨x6, hx, ?_⟩
    rw [f_X11_best_64, if_pos (by rw [on_lt (by omega) (by omega)]; omega)]
  | succ j ih =>
    intro k m x6 hk h1 hm hx
    obtain ⟨m, rfl⟩ : ∃ q, m = q + 1 := ⟨m - 1, by omega⟩
    have c1 : ¬ Int32.ofNat y < Int32.ofNat k := by rw [on_lt (by omega) (by omega)]; omega
    have eb : bst (fun s => costI (pr b 6) W K s (RD n b (hD S))) y (k + 1) = if k = 0 then 0 else if sbB k y ∧ costI (pr b 6) W K k (RD n b (hD S)) < costI (pr b 6) W K (bst (fun s => costI (pr b 6) W K s (RD n b (hD S))) y k) (RD n b (hD S)) then k else bst (fun s => costI (pr b 6) W K s (RD n b (hD S))) y k := rfl
    rw [if_neg (by omega)] at eb
    by_cases c2 : sbB k y
    · obtain ⟨s1, s2⟩ := dif_8 ⟨y, hy⟩ ⟨k, by omega⟩
      have s1' : (Int32.ofNat y &&& (Int32.ofNat k ^^^ (-1))) = Int32.ofNat (dif y k) := s1
      have s2' : dif y k < 64 := s2
      obtain ⟨v, v1, v2⟩ := q_sf h a d hth h6 hyt r s2' (F := F) (by omega)
      rw [sel_dif d] at v2
      have l37 : ¬ ((37 : Int32) < 0 ∨ 75 ≤ (37 : Int32).toNatClampNeg) := by decide +kernel
      have n37 : (37 : Int32).toNatClampNeg = 37 := rfl
      have p6 := pc_6 k
      have k1 : 0 ≤ K * (pcN k : Int) := Int.mul_nonneg hK.1 (by omega)
      have k2 : K * (pcN k : Int) ≤ 99 * 6 := Int.mul_le_mul hK.2 (by omega) (by omega) (by omega)
      have em : (S.2.2.1 2 37 * Int32.ofNat (pcN k)).toInt = K * (pcN k : Int) := by
        rw [ti_mul (by rw [eK, on_ti (by omega)]; omega), eK, on_ti (by omega)]
      have ea : (prV S x2 + S.2.2.1 2 37 * Int32.ofNat (pcN k)).toInt = W + K * (pcN k : Int) := by rw [ti_add (by rw [eW, em]; omega), eW, em]
      have g0 : 0 ≤ pr g 6 * pr b 6 := Int.mul_nonneg (by omega) (by omega)
      have w1 : 0 ≤ (W + K * (pcN k : Int)) * (pr g 6 * pr b 6) := Int.mul_nonneg (by omega) g0
      have w2 : (W + K * (pcN k : Int)) * (pr g 6 * pr b 6) ≤ 20196 * 8916100448256 := Int.mul_le_mul (by omega) p4 g0 (by omega)
      have es : ((prV S x2 + S.2.2.1 2 37 * Int32.ofNat (pcN k)).toInt64 * T.2.1 4825).toInt = (W + K * (pcN k : Int)) * (pr g 6 * pr b 6) := by
        rw [tj_mul (by rw [Int32.toInt_toInt64, ea, r.1]; omega), Int32.toInt_toInt64, ea, r.1]
      have bd := nsel_bd d k (k := 6) (by omega)
      have bg0 : 0 ≤ pr g 6 * sm (nselR k (RD n b (hD S))) 6 := Int.mul_nonneg (by omega) bd.1
      have bg : pr g 6 * sm (nselR k (RD n b (hD S))) 6 ≤ pr g 6 * (5994 * pr b 6) := Int.mul_le_mul_of_nonneg_left bd.2 (by omega)
      have be : pr g 6 * (5994 * pr b 6) = 5994 * (pr g 6 * pr b 6) := by grind
      have ev : ((prV S x2 + S.2.2.1 2 37 * Int32.ofNat (pcN k)).toInt64 * T.2.1 4825 + v).toInt = pr g 6 * costI (pr b 6) W K k (RD n b (hD S)) := by
        rw [tj_add (by rw [es, v2]; omega), es, v2]
        unfold costI
        rw [if_neg (by omega)]
        grind
      have go : ∀ rr, f_X11_best_124 F (f_X11_best_64 F m) x2 x3 (Int32.ofNat y) (Int32.ofNat (bst (fun s => costI (pr b 6) W K s (RD n b (hD S))) y k)) x6 (Int32.ofNat k) ((prV S x2 + S.2.2.1 2 37 * Int32.ofNat (pcN k)).toInt64 * T.2.1 4825 + v) T = rr → f_X11_best_64 F (m + 1) x2 x3 (Int32.ofNat y) (Int32.ofNat (bst (fun s => costI (pr b 6) W K s (RD n b (hD S))) y k)) x6 (Int32.ofNat k) T = rr := by
        rintro rr rfl
        rw [f_X11_best_64, if_neg c1, if_pos c2, e_backG (S := S) x2 (q_49 h a), g_bds, if_pos l37, e_bo (by omega) (by omega), g_bds, s1', v1, g_bds, n37, q_49 h a]
      generalize (prV S x2 + S.2.2.1 2 37 * Int32.ofNat (pcN k)).toInt64 * T.2.1 4825 + v = V at *
      by_cases c3 : 0 ≤ lg_cmp V x6
      · have c3' := c3
        rw [lg_cmp_ge, Int64.le_iff_toInt_le, hx, ev, G_le p1] at c3'
        rw [if_neg (fun q => by have := q.2; omega)] at eb
        obtain ⟨x, y1, y2⟩ := ih (k + 1) m x6 (by omega) (by omega) (by omega) (by rw [eb]; exact hx)
        refine ⟨x, y1, go _ ?_⟩
        rw [eb] at y2
        unfold f_X11_best_124
        rw [if_pos c3, f_X11_best_141, less_ge c3, g_bds, on_s k (by omega)]
        exact y2
      · have c3' := c3
        rw [lg_cmp_ge, Int64.le_iff_toInt_le, hx, ev, G_le p1] at c3'
        rw [if_pos ⟨c2, by omega⟩] at eb
        obtain ⟨x, y1, y2⟩ := ih (k + 1) m V (by omega) (by omega) (by omega) (by rw [eb]; exact ev)
        refine ⟨x, y1, go _ ?_⟩
        rw [eb] at y2
        unfold f_X11_best_124
        rw [if_neg c3, f_X11_best_141, less_lt c3, g_bds, on_s k (by omega)]
        exact y2
    · rw [if_neg (fun q => c2 q.1)] at eb
      have c3 : 0 ≤ lg_cmp 9223372036854775807 x6 := by
        rw [lg_cmp_ge, Int64.le_iff_toInt_le]
        have := x6.toInt_lt
        have e : (9223372036854775807 : Int64).toInt = 9223372036854775807 := rfl
        rw [e]; omega
      obtain ⟨x, y1, y2⟩ := ih (k + 1) m x6 (by omega) (by omega) (by omega) (by rw [eb]; exact hx)
      refine ⟨x, y1, ?_⟩
      rw [eb] at y2
      rw [f_X11_best_64, if_neg c1, if_neg c2]
      unfold f_X11_best_124
      rw [if_pos c3, f_X11_best_141, less_ge c3, g_bds, on_s k (by omega)]
      exact y2
