/-! PAYS: both answers -/
theorem e_pays10 {n : Nat} {a0 a1 : Int32} {S : z_Stt} (g0 : 0 ≤ a0 ∧ a0 / 10 < S.1 101 ∧ a0 % 10 ≤ 2) (g1 : 0 ≤ a1 ∧ a1 ≤ 99) {b : Bool} {x y : Int64} (hb : f_X10_findOpen n (a0 / 10) (a0 % 10) 17 S = some (b, sJ (sJ S (100 * 17 + 0) x) (100 * 17 + 1) y)) {p : Prop} [Decidable p] (hp : b = true → (0 ≤ lg_cmp ((prV S a1).toInt64 * y) (x * (vAt S (6 * 3 + a0 / 10)).toInt64)) = p) : f_X10_pays n a0 a1 S = some (if b = true then (if p then 0 else 1) else -2, sJ (sJ S (100 * 17 + 0) x) (100 * 17 + 1) y) := by
  have t0 := (dvk (k := 10) g0.1 (by decide +kernel)).1
  unfold f_X10_pays
  rw [e_tm10, g_bds, decide_eq_true g0, if_pos rfl, e_within10, g_bds, decide_eq_true g1, if_pos rfl, hb, g_bds]
  cases b with
  | false => rw [if_neg (by decide), if_neg (by decide)]
  | true =>
    have q := hp rfl
    rw [if_pos rfl, if_pos rfl, e_paysBy ⟨t0, g0.2.1⟩, g_bds]
    by_cases c : p
    · have z : ¬ ¬ 0 ≤ lg_cmp ((prV S a1).toInt64 * y) (x * (vAt S (6 * 3 + a0 / 10)).toInt64) := by rw [q]; exact fun w => w c
      rw [if_pos c, decide_eq_false z, if_neg (by decide)]
    · have z : ¬ 0 ≤ lg_cmp ((prV S a1).toInt64 * y) (x * (vAt S (6 * 3 + a0 / 10)).toInt64) := by rw [q]; exact c
      rw [if_neg c, decide_eq_true z, if_pos rfl]
theorem e_pays11 {a0 a1 : Int32} {T : z_Stt} (h4 : 0 ≤ T.1 4806) (g0 : 0 ≤ a0 ∧ a0 / 10 < T.1 4806 ∧ a0 % 10 ≤ 2) (g1 : 0 ≤ a1 ∧ a1 ≤ 99) {x y w : Int64} (hw : f_X11_worthWays a0 a1 T = some (w, sJ (sJ T 4811 x) 4812 y)) : f_X11_pays a0 a1 T = some (if y = 0 then -2 else if w ≤ 0 then 0 else 1, sJ (sJ T 4811 x) 4812 y) := by
  unfold f_X11_pays
  rw [e_tr11 a0 h4, g_bds, decide_eq_true g0, if_pos rfl, e_isYards, g_bds, decide_eq_true g1, if_pos rfl, hw, g_bds, rJb]
  simp only [cmp0, cmple]
  split
  · rfl
  · split <;> rfl
theorem nlt0 {b : Int64} (h : ¬ 0 < b) (h0 : 0 ≤ b.toInt) : b = 0 := by
  rw [Int64.lt_iff_toInt_lt, z0_64] at h
  rw [← Int64.toInt_inj, z0_64]; omega
theorem lt0n {b : Int64} (h : 0 < b) : ¬ b = 0 := fun q => by rw [q] at h; exact absurd h (by decide +kernel)
theorem E_pays (a0 : Int32) (a1 : Int32) {S : z_Stt} (h : Inv S) : ∃ (v : Int32) (S1 S2 : z_Stt), f_X10_pays FUEL a0 a1 S = some (v, S1) ∧ f_X11_pays a0 a1 S1 = some (v, S2) ∧ Inv S2 := by
  have f92 : 92 < FUEL := by decide +kernel
  generalize FUEL = F at *
  obtain ⟨hw, e1, e2⟩ := h.1
  have k1 := h.2.2.1.2.1
  have h4 : 0 ≤ S.1 4806 := by rw [e2]; exact hw.1.1
  by_cases g0 : 0 ≤ a0 ∧ a0 / 10 < S.1 101 ∧ a0 % 10 ≤ 2
  · have g0' : 0 ≤ a0 ∧ a0 / 10 < S.1 4806 ∧ a0 % 10 ≤ 2 := by rw [e2]; exact g0
    by_cases g1 : 0 ≤ a1 ∧ a1 ≤ 99
    · have t0 := (dvk (k := 10) g0.1 (by decide +kernel)).1
      have t6 : 0 ≤ a0 / 10 ∧ a0 / 10 < 6 := ⟨t0, lt_of6 g0.2.1 hw.1.2⟩
      have nb := opN_ok h (a0 % 10) t6
      have bk := opB_ok h (a0 % 10) t6
      have hv := rg (hV_ok h t6)
      have pv := prV_ok h g1
      have i999 : (999 : Int32).toInt = 999 := rfl
      rw [z0_32, i999] at hv
      have hN : -9223372036854775808 < (opN S (a0 / 10) (a0 % 10)).toInt := by omega
      have fo := e_findOpen (n := F) (o := 17) (m := a0 % 10) (S := S) ⟨t0, g0.2.1⟩ t6.2
      have ask : ∀ x y, f_X11_asksOpen (a0 / 10) (a0 % 10) (sJ (sJ S (100 * 17 + 0) x) (100 * 17 + 1) y) = some (decide (¬ opB S (a0 / 10) (a0 % 10) ≤ 0), sJ (sJ (sJ (sJ S (100 * 17 + 0) x) (100 * 17 + 1) y) 4811 (opN S (a0 / 10) (a0 % 10))) 4812 (opB S (a0 / 10) (a0 % 10))) := fun x y => e_asksOpen (S := S) (T := sJ (sJ S (100 * 17 + 0) x) (100 * 17 + 1) y) e1 k1 t6 (fV_ok h t6)
      have ww := fun x y => e_worthWays (S := S) (a0 := a0) (T := sJ (sJ S (100 * 17 + 0) x) (100 * 17 + 1) y) a1 e1 t6 (ask x y)
      have p11 := fun x y => e_pays11 (T := sJ (sJ S (100 * 17 + 0) x) (100 * 17 + 1) y) h4 g0' g1 (ww x y)
      generalize opN S (a0 / 10) (a0 % 10) = nn at *
      generalize opB S (a0 / 10) (a0 % 10) = bb at *
      by_cases c : 0 < bb
      · have ps := pays_same (h := (vAt S (6 * 3 + a0 / 10)).toInt64) (k := (prV S a1).toInt64) nb c bk.2 (by rw [Int32.toInt_toInt64]; exact hv) (by rw [Int32.toInt_toInt64]; exact pv)
        rw [e_become4 f92 hN c] at fo
        have z := e_pays10 g0 g1 fo (fun _ => ps)
        rw [if_pos rfl] at z
        have z2 := p11 (nn / gV nn bb) (bb / gV nn bb)
        rw [if_neg (lt0n c)] at z2
        exact ⟨_, _, _, z, z2, ⟨h.1.of rfl rfl rfl rfl, h.2.1.of rfl rfl rfl rfl rfl rfl rfl rfl rfl rfl rfl, h.2.2.1.of rfl rfl rfl rfl rfl rfl rfl rfl rfl rfl rfl rfl rfl rfl rfl, h.2.2.2.1.of rfl rfl rfl rfl rfl rfl rfl rfl rfl rfl rfl rfl, h.2.2.2.2.1.of rfl rfl rfl rfl rfl rfl rfl rfl rfl, h.2.2.2.2.2.1.of rfl rfl rfl rfl rfl rfl rfl rfl, h.2.2.2.2.2.2.of rfl (fun n q1 q2 => by simp only [sI, sJ, sA, sE, sR]; repeat rw [if_neg (by omega)]) (fun n q1 q2 => by simp only [sI, sJ, sA, sE, sR]; repeat rw [if_neg (by omega)]) rfl rfl rfl⟩⟩
      · have bz := nlt0 c bk.1
        rw [e_becomeN c] at fo
        have z := e_pays10 (p := True) g0 g1 fo (fun q => absurd q (by decide))
        rw [if_neg (by decide)] at z
        have z2 := p11 0 1
        rw [if_pos bz] at z2
        exact ⟨_, _, _, z, z2, ⟨h.1.of rfl rfl rfl rfl, h.2.1.of rfl rfl rfl rfl rfl rfl rfl rfl rfl rfl rfl, h.2.2.1.of rfl rfl rfl rfl rfl rfl rfl rfl rfl rfl rfl rfl rfl rfl rfl, h.2.2.2.1.of rfl rfl rfl rfl rfl rfl rfl rfl rfl rfl rfl rfl, h.2.2.2.2.1.of rfl rfl rfl rfl rfl rfl rfl rfl rfl, h.2.2.2.2.2.1.of rfl rfl rfl rfl rfl rfl rfl rfl, h.2.2.2.2.2.2.of rfl (fun n q1 q2 => by simp only [sI, sJ, sA, sE, sR]; repeat rw [if_neg (by omega)]) (fun n q1 q2 => by simp only [sI, sJ, sA, sE, sR]; repeat rw [if_neg (by omega)]) rfl rfl rfl⟩⟩
    · refine ⟨-1, S, S, ?_, ?_, h⟩
      · unfold f_X10_pays
        rw [e_tm10, g_bds, decide_eq_true g0, if_pos rfl, e_within10, g_bds, decide_eq_false g1, if_neg (by decide)]
      · unfold f_X11_pays
        rw [e_tr11 a0 h4, g_bds, decide_eq_true g0', if_pos rfl, e_isYards, g_bds, decide_eq_false g1, if_neg (by decide)]
  · have g0' : ¬ (0 ≤ a0 ∧ a0 / 10 < S.1 4806 ∧ a0 % 10 ≤ 2) := by rw [e2]; exact g0
    refine ⟨-1, S, S, ?_, ?_, h⟩
    · unfold f_X10_pays
      rw [e_tm10, g_bds, decide_eq_false g0, if_neg (by decide)]
    · unfold f_X11_pays
      rw [e_tr11 a0 h4, g_bds, decide_eq_false g0', if_neg (by decide)]
