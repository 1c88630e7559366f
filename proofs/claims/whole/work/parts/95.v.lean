/-! SHORTEST: the call -/
theorem nat6 {x : Int32} (h : 0 ≤ x ∧ x ≤ 5) : ∃ a : Nat, a < 6 ∧ x = Int32.ofNat a :=
  ⟨x.toNatClampNeg, ix_l ⟨h.1, by lia⟩, tn_on h.1 (by lia)⟩
theorem e_room (x : Int32) (T : z_Stt) : f_X11_isRoom x.toInt64 T = some (decide (0 ≤ x ∧ x ≤ 5), T) := by
  unfold f_X11_isRoom
  rw [e_w_0_5, g_bds]
theorem E_shortest (a0 : Int32) (a1 : Int32) (a2 : Int32) {S : z_Stt} (h : Inv S) : ∃ (v : Int32) (S1 S2 : z_Stt), f_X10_shortest FUEL a0 a1 a2 S = some (v, S1) ∧ f_X11_shortest FUEL a0 a1 a2 S1 = some (v, S2) ∧ Inv S2 := by
  have hF : 130 < FUEL := by decide +kernel
  suffices z : ∃ v S1, f_X10_shortest FUEL a0 a1 a2 S = some (v, S1) ∧ (agQ S S1 → ∃ S2, f_X11_shortest FUEL a0 a1 a2 S1 = some (v, S2) ∧ agQ S S2) by
    obtain ⟨v, S1, z1, z2⟩ := z
    have a := fq_X10_shortest _ _ _ _ z1
    obtain ⟨S2, z3, z4⟩ := z2 a
    exact ⟨v, S1, S2, z1, z3, h.quiet z4⟩
  by_cases n0 : a0 < 0
  · refine ⟨-1, S, ?_, fun a => ⟨S, ?_, a⟩⟩
    · unfold f_X10_shortest; rw [if_pos n0]
    · unfold f_X11_shortest; rw [if_pos n0]
  · by_cases g1 : 0 ≤ a0 / 10 ∧ a0 / 10 ≤ 5
    · by_cases g2 : 0 ≤ a0 % 10 ∧ a0 % 10 ≤ 5
      · by_cases g3 : 0 ≤ a1 ∧ a1 ≤ 63
        · by_cases g4 : -1 ≤ a2
          · obtain ⟨a, ha, ea⟩ := nat6 g1
            obtain ⟨z, hz, ez⟩ := nat6 g2
            obtain ⟨R, hR, eR⟩ : ∃ R : Nat, R < 64 ∧ a1 = Int32.ofNat R := by
              refine ⟨a1.toNatClampNeg, ?_, tn_on g3.1 (by lia)⟩
              have t := tn g3.1
              have r := rg g3
              have i63 : (63 : Int32).toInt = 63 := rfl
              rw [z0_32, i63] at r
              omega
            obtain ⟨b1, b2, -⟩ := bt_all ⟨a, ha⟩ ⟨z, hz⟩ ⟨R, hR⟩
            have b1' : (Int32.ofNat R &&& (((1 <<< (Int32.ofNat a &&& 31)) ||| (1 <<< (Int32.ofNat z &&& 31))) ^^^ (-1))) = Int32.ofNat (btw a z R) := b1
            have b2' : btw a z R < 63 := b2
            have k5 : pcN (btw a z R) ≤ 5 := (pc_5 ⟨btw a z R, b2'⟩).1
            obtain ⟨v, bp, bl, w10, w11⟩ := q_way h hF ha hz hR
            obtain ⟨C', c1, c2, c3, c4⟩ := w10 S (agQ.rfl S)
            have x10 : ∀ r, (if 0 ≤ a2 then if C'.1 2802 ≤ a2 then some (-2, C') else if ¬ (a2 < 0 ∨ 7 ≤ a2.toNatClampNeg) then some (C'.2.2.1 30 a2.toNatClampNeg, C') else none else some (C'.1 2803, C')) = r → f_X10_shortest FUEL a0 a1 a2 S = r := by
              rintro r rfl
              unfold f_X10_shortest
              rw [if_neg n0, e_within10, g_bds, decide_eq_true g1, if_pos rfl, e_within10, g_bds, decide_eq_true g2, if_pos rfl, e_within10, g_bds, decide_eq_true g3, if_pos rfl, if_pos g4, ea, ez, eR, c1, g_bds]
            have x11 : ∀ T, agQ S T → ∃ T', agQ S T' ∧ repL (T'.2.2.1 61) bp ∧ ∀ r, (if 0 ≤ a2 then if a2 = 0 then some (Int32.ofNat a, T') else if Int32.ofNat (pcN (btw a z R)) < a2 then if a2 = Int32.ofNat (pcN (btw a z R)) + 1 then some (Int32.ofNat z, T') else some (-2, T') else if ¬ (a2 - 1 < 0 ∨ 6 ≤ (a2 - 1).toNatClampNeg) then some (T'.2.2.1 61 (a2 - 1).toNatClampNeg, T') else none else some (v, T')) = r → f_X11_shortest FUEL a0 a1 a2 T = r := by
              intro T ag
              obtain ⟨T', t1, t2, t3⟩ := w11 T ag
              refine ⟨T', t2, t3, ?_⟩
              rintro r rfl
              unfold f_X11_shortest
              rw [if_neg n0, e_room, g_bds, decide_eq_true g1, if_pos rfl, e_room, g_bds, decide_eq_true g2, if_pos rfl, e_w_0_63, g_bds, decide_eq_true g3, if_pos rfl, if_pos g4, ea, ez, eR, t1, g_bds, b1', e_bo (by omega) (by omega), g_bds]
            by_cases q0 : 0 ≤ a2
            · have q1 : 0 ≤ a2.toInt := by rw [le0_i] at q0; exact q0
              have q2 := a2.toInt_lt
              obtain ⟨q, eq⟩ : ∃ q : Nat, a2.toInt = q := ⟨a2.toInt.toNat, by omega⟩
              have tnq : a2.toNatClampNeg = q := by have := tn q0; omega
              have le2 : (C'.1 2802 ≤ a2) = (pcN (btw a z R) + 2 ≤ q) := by
                rw [c4, Int32.le_iff_toInt_le, on_ti (by omega), eq]; exact propext (by omega)
              rw [if_pos q0] at x10
              by_cases c : pcN (btw a z R) + 2 ≤ q
              · rw [if_pos (by rw [le2]; exact c)] at x10
                refine ⟨-2, C', x10 _ rfl, fun ag => ?_⟩
                obtain ⟨T', t2, t3, x⟩ := x11 C' ag
                refine ⟨T', x _ ?_, t2⟩
                have e0 : ¬ a2 = 0 := by
                  intro w
                  rw [w, z0_32] at eq; omega
                have e1 : Int32.ofNat (pcN (btw a z R)) < a2 := by rw [Int32.lt_iff_toInt_lt, on_ti (by omega), eq]; omega
                have e2 : ¬ a2 = Int32.ofNat (pcN (btw a z R)) + 1 := by
                  rw [on_s _ (by omega)]
                  intro w
                  rw [w, on_ti (by omega)] at eq; omega
                rw [if_pos q0, if_neg e0, if_pos e1, if_neg e2]
              · have q7 : q < 7 := by omega
                have e7 : a2 = Int32.ofNat q := on_eq eq (by omega)
                have cr := c3 q (by rw [full_len, bl]; omega)
                rw [if_neg (by rw [le2]; exact c), if_pos (by rw [e7]; exact v7n q7), tnq, cr] at x10
                refine ⟨_, C', x10 _ rfl, fun ag => ?_⟩
                obtain ⟨T', t2, t3, x⟩ := x11 C' ag
                refine ⟨T', x _ ?_, t2⟩
                rw [if_pos q0, full_g, bl]
                by_cases e0 : q = 0
                · rw [if_pos (by rw [e7, e0]; rfl), if_pos e0]
                · have e0' : ¬ a2 = 0 := by
                    intro w
                    rw [w, z0_32] at eq; omega
                  rw [if_neg e0', if_neg e0]
                  by_cases e1 : q ≤ pcN (btw a z R)
                  · have e1' : ¬ Int32.ofNat (pcN (btw a z R)) < a2 := by rw [Int32.lt_iff_toInt_lt, on_ti (by omega), eq]; omega
                    obtain ⟨u, eu⟩ : ∃ u, q = u + 1 := ⟨q - 1, by omega⟩
                    have ed : a2 - 1 = Int32.ofNat u := by rw [e7, eu]; exact on_d u (by omega)
                    rw [if_neg e1', if_pos e1, ed, if_pos (v6n (by omega)), on_tn (by omega), t3 u (by omega)]
                    unfold ofP
                    rw [show q - 1 = u by omega]
                  · have e1' : Int32.ofNat (pcN (btw a z R)) < a2 := by rw [Int32.lt_iff_toInt_lt, on_ti (by omega), eq]; omega
                    have e2 : a2 = Int32.ofNat (pcN (btw a z R)) + 1 := by rw [on_s _ (by omega), e7, show q = pcN (btw a z R) + 1 by omega]
                    rw [if_pos e1', if_neg e1, if_pos e2, if_pos (by omega)]
            · rw [if_neg q0, c2] at x10
              refine ⟨v, C', x10 _ rfl, fun ag => ?_⟩
              obtain ⟨T', t2, t3, x⟩ := x11 C' ag
              exact ⟨T', x _ (by rw [if_neg q0]), t2⟩
          · refine ⟨-1, S, ?_, fun a => ⟨S, ?_, a⟩⟩
            · unfold f_X10_shortest
              rw [if_neg n0, e_within10, g_bds, decide_eq_true g1, if_pos rfl, e_within10, g_bds, decide_eq_true g2, if_pos rfl, e_within10, g_bds, decide_eq_true g3, if_pos rfl, if_neg g4]
            · unfold f_X11_shortest
              rw [if_neg n0, e_room, g_bds, decide_eq_true g1, if_pos rfl, e_room, g_bds, decide_eq_true g2, if_pos rfl, e_w_0_63, g_bds, decide_eq_true g3, if_pos rfl, if_neg g4]
        · refine ⟨-1, S, ?_, fun a => ⟨S, ?_, a⟩⟩
          · unfold f_X10_shortest
            rw [if_neg n0, e_within10, g_bds, decide_eq_true g1, if_pos rfl, e_within10, g_bds, decide_eq_true g2, if_pos rfl, e_within10, g_bds, decide_eq_false g3, if_neg (by decide)]
          · unfold f_X11_shortest
            rw [if_neg n0, e_room, g_bds, decide_eq_true g1, if_pos rfl, e_room, g_bds, decide_eq_true g2, if_pos rfl, e_w_0_63, g_bds, decide_eq_false g3, if_neg (by decide)]
      · refine ⟨-1, S, ?_, fun a => ⟨S, ?_, a⟩⟩
        · unfold f_X10_shortest
          rw [if_neg n0, e_within10, g_bds, decide_eq_true g1, if_pos rfl, e_within10, g_bds, decide_eq_false g2, if_neg (by decide)]
        · unfold f_X11_shortest
          rw [if_neg n0, e_room, g_bds, decide_eq_true g1, if_pos rfl, e_room, g_bds, decide_eq_false g2, if_neg (by decide)]
    · refine ⟨-1, S, ?_, fun a => ⟨S, ?_, a⟩⟩
      · unfold f_X10_shortest
        rw [if_neg n0, e_within10, g_bds, decide_eq_false g1, if_neg (by decide)]
      · unfold f_X11_shortest
        rw [if_neg n0, e_room, g_bds, decide_eq_false g1, if_neg (by decide)]
/-! LENGTH -/
def roomP (S : z_Stt) (a0 : Int32) (q : Nat) : Prop := 0 ≤ elV S a0.toNatClampNeg q ∧ elV S a0.toNatClampNeg q ≤ 5
def rmN (S : z_Stt) (a0 : Int32) (q : Nat) : Nat := (elV S a0.toNatClampNeg q).toNatClampNeg
theorem rm_e {S : z_Stt} {a0 : Int32} {q : Nat} (h : roomP S a0 q) : rmN S a0 q < 6 ∧ elV S a0.toNatClampNeg q = Int32.ofNat (rmN S a0 q) :=
  ⟨ix_l ⟨h.1, by have := h.2; lia⟩, tn_on h.1 (by have := h.2; lia)⟩
def lsV (S : z_Stt) (a0 : Int32) : Nat → Int32
  | 0 => 0
  | i + 1 => if i = 0 then 0 else lsV S a0 i + wy S (rmN S a0 (i - 1)) (rmN S a0 i)
def rsV (S : z_Stt) (a0 : Int32) : Nat → Nat
  | 0 => 0
  | i + 1 => rsV S a0 i ||| 2 ^ rmN S a0 i
theorem or_8 : ∀ s : Fin 64, ∀ t : Fin 6, (Int32.ofNat s.val ||| (1 <<< (Int32.ofNat t.val &&& 31))) = Int32.ofNat (s.val ||| 2 ^ t.val) ∧ s.val ||| 2 ^ t.val < 64 := by decide +kernel
theorem rsV_lt {S : z_Stt} {a0 : Int32} : ∀ i, (∀ q, q < i → roomP S a0 q) → rsV S a0 i < 64
  | 0, _ => by show 0 < 64; decide
  | i + 1, h => (or_8 ⟨rsV S a0 i, rsV_lt i (fun q hq => h q (by omega))⟩ ⟨rmN S a0 i, (rm_e (h i (by omega))).1⟩).2
theorem l_ar {S T : z_Stt} {a0 so : Int32} {n : Nat} (r : rowOf S a0 so n) (a : agQ S T) (N : Nat) : ∀ (j i m : Nat), i + j = n → j < m → ((∀ k, i ≤ k → k < n → roomP S a0 k) → f_X10_areRooms_2 N m (36 + 2 * a0.toNatClampNeg) (Int32.ofNat i) T = some (true, T)) ∧ (¬ (∀ k, i ≤ k → k < n → roomP S a0 k) → f_X10_areRooms_2 N m (36 + 2 * a0.toNatClampNeg) (Int32.ofNat i) T = some (false, T)) := by
  intro j
  have hn := r.2.1
  have eN : T.1 (100 * (36 + 2 * a0.toNatClampNeg) + 3) = Int32.ofNat n := (q_sh a (d6 r.1) (by decide)).trans r.2.2.1
  induction j with
  | zero =>
    intro i m hi hm
    obtain ⟨m, rfl⟩ : ∃ q, m = q + 1 := ⟨m - 1, by omega⟩
    refine ⟨fun _ => ?_, fun z => absurd (fun k h1 h2 => by omega) z⟩
    rw [f_X10_areRooms_2, eN, if_pos (by rw [on_le (by omega) (by omega)]; omega)]
  | succ j ih =>
    intro i m hi hm
    obtain ⟨m, rfl⟩ : ∃ q, m = q + 1 := ⟨m - 1, by omega⟩
    obtain ⟨y1, y2⟩ := ih (i + 1) m (by omega) (by omega)
    have at1 := at_q r a (q := i) (by omega)
    have z64 : (0 : Int64) = (0 : Int32).toInt64 := rfl
    have s64 : (6 : Int64) = (6 : Int32).toInt64 := rfl
    have c0 : ¬ Int32.ofNat n ≤ Int32.ofNat i := by rw [on_le (by omega) (by omega)]; omega
    by_cases l : elV S a0.toNatClampNeg i < 0
    · have nok : ¬ roomP S a0 i := fun z => absurd z.1 (Int32.not_le.mpr l)
      refine ⟨fun z => absurd (z i (Nat.le_refl _) (by omega)) nok, fun _ => ?_⟩
      rw [f_X10_areRooms_2, eN, if_neg c0, at1, g_bds, if_pos (by rw [lg_cmp_lt, z64, t64_lt]; exact l)]
    · by_cases c : elV S a0.toNatClampNeg i < 6
      · have ok : roomP S a0 i := ⟨Int32.not_lt.mp l, by generalize elV S a0.toNatClampNeg i = x at c; lia⟩
        rw [f_X10_areRooms_2, eN, if_neg c0, at1, g_bds, if_neg (by rw [lg_cmp_lt, z64, t64_lt]; exact l), at1, g_bds, if_pos (by rw [lg_cmp_lt, s64, t64_lt]; exact c), on_s i (by omega)]
        refine ⟨fun z => y1 (fun k h1 h2 => z k (by omega) h2), fun z => y2 (fun w => z (fun k h1 h2 => ?_))⟩
        by_cases e : k = i
        · rw [e]; exact ok
        · exact w k (by omega) h2
      · have nok : ¬ roomP S a0 i := fun z => c (by have := z.2; generalize elV S a0.toNatClampNeg i = x at this; lia)
        refine ⟨fun z => absurd (z i (Nat.le_refl _) (by omega)) nok, fun _ => ?_⟩
        rw [f_X10_areRooms_2, eN, if_neg c0, at1, g_bds, if_neg (by rw [lg_cmp_lt, z64, t64_lt]; exact l), at1, g_bds, if_neg (by rw [lg_cmp_lt, s64, t64_lt]; exact c)]
theorem l_lo {S T : z_Stt} {a0 so : Int32} {n : Nat} (r : rowOf S a0 so n) (a : agQ S T) (N : Nat) (ok : ∀ k, k < n → roomP S a0 k) : ∀ (j i m : Nat), i + j = n → 1 ≤ i → j < m → f_X10_lengthOf_4 N m (36 + 2 * a0.toNatClampNeg) (lsV S a0 i) (Int32.ofNat i) T = some (lsV S a0 n, T) := by
  intro j
  have hn := r.2.1
  have eN : T.1 (100 * (36 + 2 * a0.toNatClampNeg) + 3) = Int32.ofNat n := (q_sh a (d6 r.1) (by decide)).trans r.2.2.1
  induction j with
  | zero =>
    intro i m hi h1 hm
    obtain ⟨m, rfl⟩ : ∃ q, m = q + 1 := ⟨m - 1, by omega⟩
    rw [f_X10_lengthOf_4, eN, if_pos (by rw [on_le (by omega) (by omega)]; omega), show i = n by omega]
  | succ j ih =>
    intro i m hi h1 hm
    obtain ⟨m, rfl⟩ : ∃ q, m = q + 1 := ⟨m - 1, by omega⟩
    obtain ⟨u, eu⟩ : ∃ u, i = u + 1 := ⟨i - 1, by omega⟩
    obtain ⟨p1, p2⟩ := rm_e (ok u (by omega))
    obtain ⟨p3, p4⟩ := rm_e (ok i (by omega))
    have e : lsV S a0 (i + 1) = lsV S a0 i + wy S (rmN S a0 u) (rmN S a0 i) := by
      rw [lsV, if_neg (by omega), show i - 1 = u by omega]
    have ed : Int32.ofNat i - 1 = Int32.ofNat u := by rw [eu]; exact on_d u (by omega)
    rw [f_X10_lengthOf_4, eN, if_neg (by rw [on_le (by omega) (by omega)]; omega), ed, at_q r a (by omega), g_bds, at_q r a (by omega), g_bds, Int32.toInt32_toInt64, Int32.toInt32_toInt64, p2, p4, e_yd10 a p1 p3, g_bds, on_s i (by omega), ← e]
    exact ih (i + 1) m (by omega) (by omega) (by omega)
theorem l_ro {S T : z_Stt} {a0 so : Int32} {n : Nat} (r : rowOf S a0 so n) (a : agQ S T) (N : Nat) (ok : ∀ k, k < n → roomP S a0 k) : ∀ (j i m : Nat), i + j = n → j < m → f_X10_roomsOf_4 N m (36 + 2 * a0.toNatClampNeg) (Int32.ofNat (rsV S a0 i)) (Int32.ofNat i) T = some (Int32.ofNat (rsV S a0 n), T) := by
  intro j
  have hn := r.2.1
  have eN : T.1 (100 * (36 + 2 * a0.toNatClampNeg) + 3) = Int32.ofNat n := (q_sh a (d6 r.1) (by decide)).trans r.2.2.1
  induction j with
  | zero =>
    intro i m hi hm
    obtain ⟨m, rfl⟩ : ∃ q, m = q + 1 := ⟨m - 1, by omega⟩
    rw [f_X10_roomsOf_4, eN, if_pos (by rw [on_le (by omega) (by omega)]; omega), show i = n by omega]
  | succ j ih =>
    intro i m hi hm
    obtain ⟨m, rfl⟩ : ∃ q, m = q + 1 := ⟨m - 1, by omega⟩
    obtain ⟨p3, p4⟩ := rm_e (ok i (by omega))
    obtain ⟨o1, o2⟩ := or_8 ⟨rsV S a0 i, rsV_lt i (fun q hq => ok q (by omega))⟩ ⟨rmN S a0 i, p3⟩
    have o1' : (Int32.ofNat (rsV S a0 i) ||| (1 <<< (Int32.ofNat (rmN S a0 i) &&& 31))) = Int32.ofNat (rsV S a0 (i + 1)) := o1
    rw [f_X10_roomsOf_4, eN, if_neg (by rw [on_le (by omega) (by omega)]; omega), at_q r a (by omega), g_bds, Int32.toInt32_toInt64, p4, o1', on_s i (by omega)]
    exact ih (i + 1) m (by omega) (by omega)
theorem l_43 {S T : z_Stt} (h : Inv S) {a0 : Int32} {n : Nat} (r : rowOf S a0 0 n) (a : agQ S T) (n1 : 1 ≤ n) {N : Nat} (x2 : Int32) : ∀ (j i m : Nat), i + j = n → j < m → (∀ k, k < i → roomP S a0 k) → ((∀ k, i ≤ k → k < n → roomP S a0 k) → f_X11_length_43 N m a0 x2 (Int32.ofNat (rsV S a0 i)) (lsV S a0 i) (Int32.ofNat i) T = if x2 = 0 then some (lsV S a0 n, T) else g_bd (f_X11_shortestOf N (Int32.ofNat (rmN S a0 0)) (Int32.ofNat (rmN S a0 (n - 1))) (Int32.ofNat (rsV S a0 n)) T) fun v9 S10 => some (lsV S a0 n - v9, S10)) ∧ (¬ (∀ k, i ≤ k → k < n → roomP S a0 k) → f_X11_length_43 N m a0 x2 (Int32.ofNat (rsV S a0 i)) (lsV S a0 i) (Int32.ofNat i) T = some (-5, T)) := by
  intro j
  have hn := r.2.1
  have hd := d6 r.1
  have v6a : ¬ (a0 < 0 ∨ 6 ≤ a0.toNatClampNeg) := by rw [vp_6]; exact v6 r.1
  have rN : T.2.2.1 67 a0.toNatClampNeg = Int32.ofNat n := by rw [a.2.1 67 (by decide)]; exact r.2.2.2.2.1
  induction j with
  | zero =>
    intro i m hi hm pre
    obtain ⟨m, rfl⟩ : ∃ q, m = q + 1 := ⟨m - 1, by omega⟩
    have ei : i = n := by omega
    subst ei
    refine ⟨fun _ => ?_, fun z => absurd (fun k h1 h2 => by omega) z⟩
    have nz : ¬ Int32.ofNat i = 0 := by
      intro q
      have := congrArg Int32.toInt q
      rw [on_ti (by omega), z0_32] at this; omega
    obtain ⟨u, eu⟩ : ∃ u, i = u + 1 := ⟨i - 1, by omega⟩
    have x0 : 60 * a0 = Int32.ofNat (60 * a0.toNatClampNeg + 0) := by
      have := ix_q r.1 (x := 0) (q := 0) rfl (by omega)
      rw [Int32.add_zero] at this; exact this
    have x1 : 60 * a0 + Int32.ofNat i - 1 = Int32.ofNat (60 * a0.toNatClampNeg + u) := by
      rw [ix_q r.1 (x := Int32.ofNat i) (q := i) (on_ti (by omega)) (by omega), eu, ← Nat.add_assoc]
      exact on_d _ (by omega)
    obtain ⟨p1, p2⟩ := rm_e (pre 0 (by omega))
    obtain ⟨p3, p4⟩ := rm_e (pre u (by omega))
    rw [f_X11_length_43, if_pos v6a, rN, if_pos (by rw [on_le (by omega) (by omega)]; omega), if_pos v6a, if_neg nz]
    by_cases c : x2 = 0
    · rw [if_pos c, if_pos c]
    · rw [if_neg c, if_neg c, x1, x0, if_pos (v360 (by omega)), if_pos v6a, if_pos (v360 (by omega)), it_q r a (by omega), it_q r a (by omega), Int32.toInt32_toInt64, Int32.toInt32_toInt64, p2, p4, show i - 1 = u by omega]
  | succ j ih =>
    intro i m hi hm pre
    obtain ⟨m, rfl⟩ : ∃ q, m = q + 1 := ⟨m - 1, by omega⟩
    have ex := ix_q r.1 (x := Int32.ofNat i) (q := i) (on_ti (by omega)) (by omega)
    have c0 : ¬ Int32.ofNat n ≤ Int32.ofNat i := by rw [on_le (by omega) (by omega)]; omega
    by_cases ok : roomP S a0 i
    · obtain ⟨p3, p4⟩ := rm_e ok
      obtain ⟨o1, o2⟩ := or_8 ⟨rsV S a0 i, rsV_lt i (fun q hq => pre q (by omega))⟩ ⟨rmN S a0 i, p3⟩
      have o1' : (Int32.ofNat (rsV S a0 i) ||| (1 <<< (Int32.ofNat (rmN S a0 i) &&& 31))) = Int32.ofNat (rsV S a0 (i + 1)) := o1
      obtain ⟨y1, y2⟩ := ih (i + 1) m (by omega) (by omega) (fun k hk => by
        by_cases e : k = i
        · rw [e]; exact ok
        · exact pre k (by omega))
      have st : f_X11_length_43 N (m + 1) a0 x2 (Int32.ofNat (rsV S a0 i)) (lsV S a0 i) (Int32.ofNat i) T = f_X11_length_43 N m a0 x2 (Int32.ofNat (rsV S a0 (i + 1))) (lsV S a0 (i + 1)) (Int32.ofNat (i + 1)) T := by
        rw [f_X11_length_43, if_pos v6a, rN, if_neg c0, ex, if_pos (v360 (by omega)), it_q r a (by omega), e_room, g_bds, decide_eq_true (show 0 ≤ elV S a0.toNatClampNeg i ∧ elV S a0.toNatClampNeg i ≤ 5 from ok), if_pos rfl, Int32.toInt32_toInt64, p4, o1']
        by_cases i0 : i = 0
        · have le : Int32.ofNat i ≤ 0 := by rw [i0]; decide +kernel
          have e0 : lsV S a0 i + 0 = lsV S a0 (i + 1) := by
            rw [lsV, if_pos i0, i0]; rfl
          rw [if_pos le, f_X11_length_120, e0, on_s i (by omega)]
        · have le : ¬ Int32.ofNat i ≤ 0 := by rw [Int32.le_iff_toInt_le, on_ti (by omega), z0_32]; omega
          obtain ⟨u, eu⟩ : ∃ u, i = u + 1 := ⟨i - 1, by omega⟩
          obtain ⟨p1, p2⟩ := rm_e (pre u (by omega))
          have x1 : Int32.ofNat (60 * a0.toNatClampNeg + i) - 1 = Int32.ofNat (60 * a0.toNatClampNeg + u) := by
            rw [eu, ← Nat.add_assoc]; exact on_d _ (by omega)
          have e : lsV S a0 (i + 1) = lsV S a0 i + wy S (rmN S a0 u) (rmN S a0 i) := by
            rw [lsV, if_neg i0, show i - 1 = u by omega]
          rw [if_neg le, x1, if_pos (v360 (by omega)), it_q r a (by omega), Int32.toInt32_toInt64, p2, e_yd11 h a p1 p3, g_bds, f_X11_length_120, ← e, on_s i (by omega)]
      rw [st]
      refine ⟨fun z => y1 (fun k h1 h2 => z k (by omega) h2), fun z => y2 (fun w => z (fun k h1 h2 => ?_))⟩
      by_cases e : k = i
      · rw [e]; exact ok
      · exact w k (by omega) h2
    · refine ⟨fun z => absurd (z i (Nat.le_refl _) (by omega)) ok, fun _ => ?_⟩
      rw [f_X11_length_43, if_pos v6a, rN, if_neg c0, ex, if_pos (v360 (by omega)), it_q r a (by omega), e_room, g_bds, decide_eq_false (show ¬ (0 ≤ elV S a0.toNatClampNeg i ∧ elV S a0.toNatClampNeg i ≤ 5) from ok), if_neg (by decide)]
theorem E_length (a0 : Int32) (a1 : Int32) {S : z_Stt} (h : Inv S) : ∃ (v : Int32) (S1 S2 : z_Stt), f_X10_length FUEL a0 a1 S = some (v, S1) ∧ f_X11_length FUEL a0 a1 S1 = some (v, S2) ∧ Inv S2 := by
  have hF : 130 < FUEL := by decide +kernel
  suffices z : ∃ v S1, f_X10_length FUEL a0 a1 S = some (v, S1) ∧ (agQ S S1 → ∃ S2, f_X11_length FUEL a0 a1 S1 = some (v, S2) ∧ agQ S S2) by
    obtain ⟨v, S1, z1, z2⟩ := z
    have a := fq_X10_length _ _ _ z1
    obtain ⟨S2, z3, z4⟩ := z2 a
    exact ⟨v, S1, S2, z1, z3, h.quiet z4⟩
  by_cases ha : 0 ≤ a0 ∧ a0 ≤ 5
  · have v6a : ¬ (a0 < 0 ∨ 6 ≤ a0.toNatClampNeg) := by rw [vp_6]; exact v6 ha
    have e66 : ∀ T, agQ S T → T.2.2.1 66 = S.2.2.1 66 := fun T a => a.2.1 66 (by decide)
    by_cases g1 : 0 ≤ a1 ∧ a1 ≤ 1
    · rcases sh_cls h ha (Or.inl rfl) with ⟨r, m⟩ | ⟨r, m, m2⟩ | ⟨n, r, rf⟩
      · refine ⟨-11, S, ?_, fun a => ⟨S, ?_, a⟩⟩
        · unfold f_X10_length
          rw [e_isShelf10, g_bds, decide_eq_true ha, if_pos rfl, e_within10, g_bds, decide_eq_true g1, if_pos rfl, if_pos v6a, r S (agQ.rfl S), g_bds, if_neg (by decide +kernel)]
        · have b : f_X11_bytesIs a0 S = some (-11, S) := by rw [by_pos ha, if_neg (Int32.not_le.mpr m)]
          unfold f_X11_length
          rw [b, g_bds, if_neg (by decide +kernel), e_w_0_1, g_bds, decide_eq_true g1, if_pos rfl, b, g_bds, if_neg (by decide +kernel), b, g_bds]
      · have e50 : (50 : Int32) + 0 = 50 := rfl
        rw [e50] at m2
        refine ⟨-12, S, ?_, fun a => ⟨S, ?_, a⟩⟩
        · unfold f_X10_length
          rw [e_isShelf10, g_bds, decide_eq_true ha, if_pos rfl, e_within10, g_bds, decide_eq_true g1, if_pos rfl, if_pos v6a, r S (agQ.rfl S), g_bds, if_neg (by decide +kernel)]
        · have b : f_X11_bytesIs a0 S = some (-12, S) := by rw [by_pos ha, if_pos m, if_neg m2]
          unfold f_X11_length
          rw [b, g_bds, if_neg (by decide +kernel), e_w_0_1, g_bds, decide_eq_true g1, if_pos rfl, b, g_bds, if_neg (by decide +kernel), b, g_bds]
      · have n60 := r.2.1
        have hd := d6 ha
        have b1 : ∀ T, agQ S T → f_X11_bytesIs a0 T = some (1, T) := by
          intro T a
          have e50 : S.2.2.1 66 a0.toNatClampNeg = 50 := r.2.2.2.1
          rw [by_pos ha, e66 T a, e50, if_pos (by decide +kernel), if_pos rfl]
        have x11 : ∀ T, agQ S T → f_X11_length FUEL a0 a1 T = f_X11_length_43 FUEL FUEL a0 a1 0 0 0 T := by
          intro T a
          unfold f_X11_length
          rw [b1 T a, g_bds, if_neg (by decide +kernel), e_w_0_1, g_bds, decide_eq_true g1, if_pos rfl, b1 T a, g_bds, if_pos (by decide +kernel)]
        have eN : S.1 (100 * (36 + 2 * a0.toNatClampNeg) + 3) = Int32.ofNat n := r.2.2.1
        by_cases n0 : n = 0
        · refine ⟨-5, S, ?_, fun a => ⟨S, ?_, a⟩⟩
          · unfold f_X10_length
            rw [e_isShelf10, g_bds, decide_eq_true ha, if_pos rfl, e_within10, g_bds, decide_eq_true g1, if_pos rfl, if_pos v6a, rf S (agQ.rfl S), g_bds, if_pos rfl, eN, n0, if_pos (show Int32.ofNat 0 = 0 from rfl)]
          · have rN : S.2.2.1 67 a0.toNatClampNeg = 0 := by rw [r.2.2.2.2.1, n0]; rfl
            obtain ⟨F, eF⟩ : ∃ q, FUEL = q + 1 := ⟨3999, rfl⟩
            rw [x11 S a]
            generalize hq : FUEL = Q at *
            rw [eF, f_X11_length_43, if_pos v6a, rN, if_pos (by decide +kernel), if_pos v6a, if_pos rfl]
        · have nz : ¬ Int32.ofNat n = 0 := by
            intro q
            have := congrArg Int32.toInt q
            rw [on_ti (by omega), z0_32] at this; omega
          have L43 := fun T (a : agQ S T) => l_43 h r a (by omega) (N := FUEL) a1 n 0 FUEL (by omega) (by omega) (fun k hk => absurd hk (by omega))
          obtain ⟨ar1, ar2⟩ := l_ar r (agQ.rfl S) FUEL n 0 FUEL (by omega) (by omega)
          have pre : ∀ q, f_X10_areRooms FUEL (36 + 2 * a0.toNatClampNeg) S = some (q, S) → ∀ rr, (if q = true then g_bd (f_X10_lengthOf FUEL (36 + 2 * a0.toNatClampNeg) S) fun v19 S20 => if a1 = 0 then some (v19, S20) else g_bd (f_X8_at (36 + 2 * a0.toNatClampNeg) 0 S20) fun v23 S24 => g_bd (f_X8_at (36 + 2 * a0.toNatClampNeg) ((S24.1 (100 * (36 + 2 * a0.toNatClampNeg) + 3)) - 1) S24) fun v26 S27 => g_bd (f_X10_roomsOf FUEL (36 + 2 * a0.toNatClampNeg) S27) fun v29 S30 => g_bd (f_X7_find FUEL (Int64.toInt32 v23) (Int64.toInt32 v26) v29 S30) fun v32 S33 => some (v19 - (S33.1 2803), S33) else some (-5, S)) = rr → f_X10_length FUEL a0 a1 S = rr := by
            rintro q eq rr rfl
            unfold f_X10_length
            rw [e_isShelf10, g_bds, decide_eq_true ha, if_pos rfl, e_within10, g_bds, decide_eq_true g1, if_pos rfl, if_pos v6a, rf S (agQ.rfl S), g_bds, if_pos rfl, eN, if_neg nz, eq, g_bds]
          by_cases ok : ∀ k, 0 ≤ k → k < n → roomP S a0 k
          · have ok' : ∀ k, k < n → roomP S a0 k := fun k hk => ok k (Nat.zero_le _) hk
            have p10 := pre true (ar1 ok)
            have lo : f_X10_lengthOf FUEL (36 + 2 * a0.toNatClampNeg) S = some (lsV S a0 n, S) := l_lo r (agQ.rfl S) FUEL ok' (n - 1) 1 FUEL (by omega) (by omega) (by omega)
            rw [if_pos rfl, lo, g_bds] at p10
            have l11 : ∀ T, agQ S T → f_X11_length FUEL a0 a1 T = if a1 = 0 then some (lsV S a0 n, T) else g_bd (f_X11_shortestOf FUEL (Int32.ofNat (rmN S a0 0)) (Int32.ofNat (rmN S a0 (n - 1))) (Int32.ofNat (rsV S a0 n)) T) fun v9 S10 => some (lsV S a0 n - v9, S10) := by
              intro T a
              rw [x11 T a]
              exact (L43 T a).1 ok
            by_cases c : a1 = 0
            · rw [if_pos c] at p10
              refine ⟨_, _, p10 _ rfl, fun a => ⟨S, ?_, a⟩⟩
              rw [l11 S a, if_pos c]
            · obtain ⟨q1, q2⟩ := rm_e (ok' 0 (by omega))
              obtain ⟨q3, q4⟩ := rm_e (ok' (n - 1) (by omega))
              have ro : f_X10_roomsOf FUEL (36 + 2 * a0.toNatClampNeg) S = some (Int32.ofNat (rsV S a0 n), S) := l_ro r (agQ.rfl S) FUEL ok' n 0 FUEL (by omega) (by omega)
              obtain ⟨v, bp, bl, w10, w11⟩ := q_way h hF q1 q3 (rsV_lt n ok')
              obtain ⟨C', c1, c2, c3, c4⟩ := w10 S (agQ.rfl S)
              obtain ⟨u, eu⟩ : ∃ u, n = u + 1 := ⟨n - 1, by omega⟩
              have ed : Int32.ofNat n - 1 = Int32.ofNat (n - 1) := by rw [eu]; exact on_d u (by omega)
              have a0' : f_X8_at (36 + 2 * a0.toNatClampNeg) 0 S = some ((elV S a0.toNatClampNeg 0).toInt64, S) := at_q r (agQ.rfl S) (q := 0) (by omega)
              rw [if_neg c, a0', g_bds, eN, ed, at_q r (agQ.rfl S) (by omega), g_bds, ro, g_bds, Int32.toInt32_toInt64, Int32.toInt32_toInt64, q2, q4, c1, g_bds, c2] at p10
              refine ⟨_, _, p10 _ rfl, fun a => ?_⟩
              obtain ⟨T', t1, t2, t3⟩ := w11 C' a
              refine ⟨T', ?_, t2⟩
              rw [l11 C' a, if_neg c, t1, g_bds]
          · have p10 := pre false (ar2 ok)
            rw [if_neg (by decide)] at p10
            refine ⟨-5, S, p10 _ rfl, fun a => ⟨S, ?_, a⟩⟩
            rw [x11 S a]
            exact (L43 S a).2 ok
    · refine ⟨-1, S, ?_, fun a => ⟨S, ?_, a⟩⟩
      · unfold f_X10_length
        rw [e_isShelf10, g_bds, decide_eq_true ha, if_pos rfl, e_within10, g_bds, decide_eq_false g1, if_neg (by decide)]
      · obtain ⟨y, y0, ey⟩ := by_any ha S
        unfold f_X11_length
        rw [ey, g_bds, if_neg y0, e_w_0_1, g_bds, decide_eq_false g1, if_neg (by decide)]
  · refine ⟨-1, S, ?_, fun a => ⟨S, ?_, a⟩⟩
    · unfold f_X10_length
      rw [e_isShelf10, g_bds, decide_eq_false ha, if_neg (by decide)]
    · unfold f_X11_length
      rw [by_neg ha, g_bds, if_pos rfl]
