/-! GONE -/
def ow (S : z_Stt) (z t : Nat) : Int32 := o144 S (Int32.ofNat t) (Int32.ofNat (bt z t))
def hw (S : z_Stt) (t : Nat) : Int32 := vAt S (6 * 3 + Int32.ofNat t)
def wv (S : z_Stt) (z t : Nat) : Int32 := ow S z t * hw S t
theorem ow_ok {S : z_Stt} (h : Inv S) (z : Nat) {t : Nat} (ht : t < 6) : 0 ≤ (ow S z t).toInt ∧ (ow S z t).toInt ≤ 248832 := by
  unfold ow
  by_cases c : 0 < opB S (Int32.ofNat t) (Int32.ofNat (bt z t))
  · have e := o144_64 h (Int32.ofNat (bt z t)) (on_06 ht) c
    have nb := opN_ok h (Int32.ofNat (bt z t)) (on_06 ht)
    have e2 := congrArg Int64.toInt e
    rw [Int32.toInt_toInt64] at e2
    rw [← e2]
    rw [i64lt] at c
    have i144 : (144 : Int64).toInt = 144 := rfl
    have m1 : (144 * opN S (Int32.ofNat t) (Int32.ofNat (bt z t))).toInt = 144 * (opN S (Int32.ofNat t) (Int32.ofNat (bt z t))).toInt := by rw [tj_mul (by rw [i144]; omega), i144]
    rw [tj_div (by rw [m1]; omega) c, m1]
    have q : (144 * (opN S (Int32.ofNat t) (Int32.ofNat (bt z t))).toInt) / (opB S (Int32.ofNat t) (Int32.ofNat (bt z t))).toInt ≤ 144 * (opN S (Int32.ofNat t) (Int32.ofNat (bt z t))).toInt := Int.ediv_le_self _ (by omega)
    have q0 : 0 ≤ (144 * (opN S (Int32.ofNat t) (Int32.ofNat (bt z t))).toInt) / (opB S (Int32.ofNat t) (Int32.ofNat (bt z t))).toInt := Int.ediv_nonneg (by omega) (by omega)
    omega
  · unfold o144
    rw [if_neg c]; decide +kernel
theorem wv_0 {S : z_Stt} (h : Inv S) (z : Nat) {t : Nat} (ht : t < 6) : 0 ≤ (wv S z t).toInt := by
  have a := ow_ok h z ht
  have hv := rg (hV_ok h (on_06 ht))
  have i999 : (999 : Int32).toInt = 999 := rfl
  rw [z0_32, i999] at hv
  have m1 : 0 ≤ (ow S z t).toInt * (hw S t).toInt := Int.mul_nonneg a.1 hv.1
  have m2 : (ow S z t).toInt * (hw S t).toInt ≤ 248832 * 999 := Int.mul_le_mul a.2 hv.2 hv.1 (by omega)
  unfold wv
  rw [ti_mul (by omega)]; exact m1
theorem c144 {S C : z_Stt} (h : Inv S) {y z : Nat} (p : allP S y z) (c : cDt C y (nD S y z) (bD S y z) (hD S)) {t : Nat} (ht : t < 6) (hb : y.testBit t = true) : f_X4_of144 (22 + t) C = some (ow S z t, C) ∧ C.2.2.1 20 t = hw S t := by
  obtain ⟨c1, c2, c3⟩ := c.1.2 t ht hb
  have q := p t ht hb
  have nb := opN_ok h (Int32.ofNat (bt z t)) (on_06 ht)
  have nb' : 0 ≤ (dN S z t).toInt ∧ (dN S z t).toInt ≤ 1728 := nb
  unfold nD at c1
  unfold bD at c2
  rw [if_pos ⟨hb, q⟩, Int64.toInt_inj] at c1 c2
  obtain ⟨g, n, c', gp, ea, eb, eg, en, ec, n0, n1, c0, c1'⟩ := divg nb'.1 q
  have p0 : 0 < dB S z t / gV (dN S z t) (dB S z t) := by rw [i64lt, ec]; exact c0
  refine ⟨?_, ?_⟩
  · unfold f_X4_of144
    rw [c1, c2, if_neg (by rw [cmple]; exact Int64.not_le.mpr p0), if_pos (lt0n p0), frac144 nb' q]
    have e : ow S z t = (144 * dN S z t / dB S z t).toInt32 := if_pos q
    rw [e]
  · rw [← Int32.toInt_inj]; exact c3
theorem r144 {S T : z_Stt} (h : Inv S) {y z th : Nat} (p : allP S y z) (r : rDt T th (nD S y z) (bD S y z) (gD S y z)) (h6 : th ≤ 6) {t : Nat} (ht : t < th) (hb : y.testBit t = true) : (144 * T.2.2.2.1 58 t / T.2.2.2.1 59 t).toInt32 = ow S z t ∧ ¬ T.2.2.2.1 59 t = 0 := by
  have q := p t (by omega) hb
  obtain ⟨r1, r2⟩ := r.2 t ht
  obtain ⟨-, -, -, -, k5, k6⟩ := D_key h (by omega : t < 6) ⟨hb, q⟩
  rw [← k5, Int64.toInt_inj] at r1
  rw [← k6, Int64.toInt_inj] at r2
  rw [r1, r2]
  have e : ow S z t = (144 * dN S z t / dB S z t).toInt32 := if_pos q
  exact ⟨e.symm, lt0n q⟩
def wst (w : Nat → Int32) (y : Nat) : Nat → Option Nat
  | 0 => none
  | k + 1 => if y.testBit k = true then (match wst w y k with | none => some k | some s => if w k ≤ w s then some s else some k) else wst w y k
theorem wst_in {w : Nat → Int32} {y s : Nat} : ∀ k, wst w y k = some s → s < k ∧ y.testBit s = true
  | 0, h => by cases h
  | k + 1, h => by
    rw [wst] at h
    by_cases c : y.testBit k = true
    · rw [if_pos c] at h
      cases e : wst w y k with
      | none =>
        rw [e] at h
        cases h
        exact ⟨by omega, c⟩
      | some u =>
        rw [e] at h
        have ih := wst_in k e
        by_cases q : w k ≤ w u
        · simp only [if_pos q] at h
          cases h
          exact ⟨by omega, ih.2⟩
        · simp only [if_neg q] at h
          cases h
          exact ⟨by omega, c⟩
    · rw [if_neg c] at h
      have ih := wst_in k h
      exact ⟨by omega, ih.2⟩
theorem wst_end {w : Nat → Int32} {y th : Nat} (hyt : y < 2 ^ th) : ∀ j, wst w y (th + j) = wst w y th
  | 0 => rfl
  | j + 1 => by
    show wst w y (th + j + 1) = _
    rw [wst, if_neg (out_th hyt (by omega)), wst_end hyt j]
def wI (o : Option Nat) : Int32 := match o with | none => -1 | some s => Int32.ofNat s
def wM (w : Nat → Int32) (o : Option Nat) : Int32 := match o with | none => -1 | some s => w s
theorem e_wst {S C : z_Stt} (h : Inv S) {y z : Nat} (hy : y < 64) (p : allP S y z) (c : cDt C y (nD S y z) (bD S y z) (hD S)) (F : Nat) : ∀ (j k m : Nat), k + j = 6 → j < m → f_X2_worst_4 F m (wI (wst (wv S z) y k)) (Int32.ofNat k) C = some (wI (wst (wv S z) y 6), C) := by
  intro j
  induction j with
  | zero =>
    intro k m hk hm
    obtain ⟨m, rfl⟩ : ∃ q, m = q + 1 := ⟨m - 1, by omega⟩
    have ek : k = 6 := by omega
    subst ek
    rw [f_X2_worst_4, if_pos (by decide +kernel)]
  | succ j ih =>
    intro k m hk hm
    obtain ⟨m, rfl⟩ : ∃ q, m = q + 1 := ⟨m - 1, by omega⟩
    have hk6 : k < 6 := by omega
    have nx := ih (k + 1) m (by omega) (by omega)
    rw [wst] at nx
    rw [f_X2_worst_4, if_neg (by rw [on_6le (by omega)]; omega), e_has hy hk6 c.1.1, g_bds]
    by_cases hb : y.testBit k = true
    · rw [if_pos hb] at nx
      rw [if_pos hb]
      obtain ⟨o1, o2⟩ := c144 h p c hk6 hb
      cases e : wst (wv S z) y k with
      | none =>
        rw [e] at nx
        have n1 : wI none < 0 := by decide +kernel
        rw [if_pos n1, f_X2_worst_57, f_X2_worst_59, on_s k (by omega)]
        exact nx
      | some s =>
        rw [e] at nx
        obtain ⟨s1, s2⟩ := wst_in k e
        have s6 : s < 6 := by omega
        obtain ⟨q1, q2⟩ := c144 h p c s6 s2
        have n1 : ¬ wI (some s) < 0 := Int32.not_lt.mpr (on_p0 (by omega))
        have es : wI (some s) = Int32.ofNat s := rfl
        rw [if_neg n1, if_pos (v6n hk6), es, on_tn (by omega), o1, g_bds, if_pos (v6m hk6), if_pos (v6n s6), on_tn (by omega), q1, g_bds, if_pos (v6m s6), o2, q2]
        by_cases l : wv S z k ≤ wv S z s
        · simp only [if_pos l] at nx
          rw [if_pos (show ow S z k * hw S k ≤ ow S z s * hw S s from l), f_X2_worst_59, on_s k (by omega)]
          exact nx
        · simp only [if_neg l] at nx
          rw [if_neg (show ¬ ow S z k * hw S k ≤ ow S z s * hw S s from l), f_X2_worst_57, f_X2_worst_59, on_s k (by omega)]
          exact nx
    · rw [if_neg hb] at nx
      rw [if_neg hb, f_X2_worst_59, on_s k (by omega)]
      exact nx
def gnR (S : z_Stt) (F : Nat) (y z : Nat) (a1 : Int32) (o : Option Nat) (T : z_Stt) : Option (Int32 × z_Stt) := match o with
  | none => some (0, T)
  | some s => g_bd (f_X11_goesBy F (ow S z s) (hw S s) a1 (Int32.ofNat (pcN y)) T) fun v12 S13 => if v12 = true then some (1, S13) else some (0, S13)
theorem e_gnR {S T : z_Stt} (h : Inv S) (a : agQ S T) {F N th y z : Nat} (hF : 92 < F) (hN : N < 2147483648) (ey : y = N % 64) (hth : S.1 101 = Int32.ofNat th) (h6 : th ≤ 6) (hyt : y < 2 ^ th) (p : allP S y z) (r : rDt T th (nD S y z) (bD S y z) (gD S y z)) (a1 : Int32) : ∀ (j k m : Nat), k + j = th → j < m → f_X11_gone_37 F m (Int32.ofNat N) a1 (wI (wst (wv S z) y k)) (wM (wv S z) (wst (wv S z) y k)) (Int32.ofNat k) T = gnR S F y z a1 (wst (wv S z) y th) T := by
  intro j
  have hy : y < 64 := by omega
  have em : Int32.ofNat N % 64 = Int32.ofNat y := by rw [mod64 hN, ← ey]
  induction j with
  | zero =>
    intro k m hk hm
    obtain ⟨m, rfl⟩ : ∃ q, m = q + 1 := ⟨m - 1, by omega⟩
    have ek : k = th := by omega
    subst ek
    rw [f_X11_gone_37, if_pos (by rw [q_4806 h a, hth]; exact Int32.le_refl _)]
    cases e : wst (wv S z) y k with
    | none =>
      rw [if_neg (by decide +kernel)]; rfl
    | some s =>
      obtain ⟨s1, s2⟩ := wst_in k e
      have s6 : s < 6 := by omega
      obtain ⟨t1, t2⟩ := r144 h p r h6 s1 s2
      have es : wI (some s) = Int32.ofNat s := rfl
      have nr : f_X11_numberOf (Int32.ofNat s) 3 T = some (hw S s, T) := e_nrG (S := S) (T := T) (q_49 h a) (k := 3) (by decide +kernel) (on_06 s6)
      rw [es, if_pos (on_p0 (by omega)), if_pos (v6n s6), if_pos (v6n s6), on_tn (by omega), if_pos t2, nr, g_bds, em, e_bo (by omega) hy, g_bds, t1]
      rfl
  | succ j ih =>
    intro k m hk hm
    obtain ⟨m, rfl⟩ : ∃ q, m = q + 1 := ⟨m - 1, by omega⟩
    have hk6 : k < 6 := by omega
    have nx := ih (k + 1) m (by omega) (by omega)
    rw [wst] at nx
    have c : ¬ T.1 4806 ≤ Int32.ofNat k := by rw [q_4806 h a, hth, on_le (by omega) (by omega)]; omega
    rw [f_X11_gone_37, if_neg c, em, e_isIn hy hk6, g_bds]
    by_cases hb : y.testBit k = true
    · rw [if_pos hb] at nx
      obtain ⟨t1, t2⟩ := r144 h p r h6 (t := k) (by omega) hb
      have nr : f_X11_numberOf (Int32.ofNat k) 3 T = some (hw S k, T) := e_nrG (S := S) (T := T) (q_49 h a) (k := 3) (by decide +kernel) (on_06 hk6)
      rw [if_pos hb, if_pos (v6n hk6), if_pos (v6n hk6), on_tn (by omega), if_pos t2, t1]
      unfold f_X11_gone_82
      rw [em, e_isIn hy hk6, g_bds, if_pos hb, nr, g_bds]
      cases e : wst (wv S z) y k with
      | none =>
        rw [e] at nx
        have w0 := wv_0 h z hk6
        have n1 : ¬ ow S z k * hw S k ≤ wM (wv S z) none := by
          have e : (wM (wv S z) none).toInt = -1 := rfl
          rw [Int32.le_iff_toInt_le, e]
          have : (ow S z k * hw S k).toInt = (wv S z k).toInt := rfl
          omega
        rw [if_neg n1, nr, g_bds, f_X11_gone_126, on_s k (by omega)]
        exact nx
      | some s =>
        rw [e] at nx
        by_cases l : wv S z k ≤ wv S z s
        · simp only [if_pos l] at nx
          rw [if_pos (show ow S z k * hw S k ≤ wM (wv S z) (some s) from l), f_X11_gone_126, on_s k (by omega)]
          exact nx
        · simp only [if_neg l] at nx
          rw [if_neg (show ¬ ow S z k * hw S k ≤ wM (wv S z) (some s) from l), nr, g_bds, f_X11_gone_126, on_s k (by omega)]
          exact nx
    · rw [if_neg hb] at nx
      rw [if_neg hb]
      unfold f_X11_gone_82
      rw [em, e_isIn hy hk6, g_bds, if_neg hb, f_X11_gone_126, on_s k (by omega)]
      exact nx
theorem E_gone (a0 : Int32) (a1 : Int32) {S : z_Stt} (h : Inv S) : ∃ (v : Int32) (S1 S2 : z_Stt), f_X10_gone FUEL a0 a1 S = some (v, S1) ∧ f_X11_gone FUEL a0 a1 S1 = some (v, S2) ∧ Inv S2 := by
  have hF : 92 < FUEL := by decide +kernel
  suffices z : ∃ v S1, f_X10_gone FUEL a0 a1 S = some (v, S1) ∧ (agQ S S1 → ∃ S2, f_X11_gone FUEL a0 a1 S1 = some (v, S2)) by
    obtain ⟨v, S1, z1, z2⟩ := z
    have a := fq_X10_gone _ _ _ z1
    obtain ⟨S2, z3⟩ := z2 a
    exact ⟨v, S1, S2, z1, z3, (h.quiet a).quiet (fq_X11_gone _ _ _ z3)⟩
  rcases D_cases h a0 with ⟨k10, k11⟩ | ⟨N, th, y, z, edr, hN, ey, ez, hz, hc, hth, h6, hyt, k10, k11⟩
  · refine ⟨-1, S, ?_, fun a => ⟨S, ?_⟩⟩
    · unfold f_X10_gone
      rw [k10 S (agQ.rfl S), g_bds, if_neg (by decide)]
    · unfold f_X11_gone
      rw [k11 S a, g_bds, if_neg (by decide)]
  · by_cases g1 : 0 ≤ a1 ∧ a1 ≤ 99
    · have hy : y < 64 := by omega
      obtain ⟨b, C, f1, f2, f3, f4⟩ := q_fd h (agQ.rfl S) hF hN ey ez hz hc hth h6 hyt
      rw [← edr] at f1
      have r11 : ∀ T, agQ S T → ∃ (b' : Bool) (T' : z_Stt), f_X11_asksAll FUEL a0 T = some (b', T') ∧ (b' = true ↔ allP S y z) ∧ (allP S y z → rDt T' th (nD S y z) (bD S y z) (gD S y z)) ∧ agQ S T' := by
        intro T a
        rw [edr]
        exact q_aa h a hF hN ey ez hz hc hth h6 hyt
      by_cases P : allP S y z
      · have eb := f2.mpr P
        subst eb
        have w10 : f_X2_worst FUEL C = some (wI (wst (wv S z) y 6), C) := e_wst h hy P f3 FUEL 6 0 FUEL (by omega) (by omega)
        have w6 : wst (wv S z) y 6 = wst (wv S z) y th := by
          have := wst_end (w := wv S z) hyt (6 - th)
          rw [show th + (6 - th) = 6 by omega] at this
          exact this
        have c11 : ∀ T, agQ S T → ∃ T', agQ S T' ∧ f_X11_gone FUEL a0 a1 T = gnR S FUEL y z a1 (wst (wv S z) y th) T' := by
          intro T a
          obtain ⟨b', T', t1, t2, t3, t4⟩ := r11 T a
          have eb' := t2.mpr P
          subst eb'
          refine ⟨T', t4, ?_⟩
          have e := e_gnR h t4 hF hN ey hth h6 hyt P (t3 P) a1 th 0 FUEL (by omega) (by omega)
          unfold f_X11_gone
          rw [k11 T a, g_bds, if_pos rfl, e_isYards, g_bds, decide_eq_true g1, if_pos rfl, t1, g_bds, if_pos rfl, edr]
          exact e
        rw [w6] at w10
        cases e : wst (wv S z) y th with
        | none =>
          rw [e] at w10 c11
          refine ⟨0, C, ?_, fun a => ?_⟩
          · unfold f_X10_gone
            rw [k10 S (agQ.rfl S), g_bds, if_pos rfl, e_within10, g_bds, decide_eq_true g1, if_pos rfl, f1, g_bds, if_pos rfl, w10, g_bds, if_neg (by decide +kernel)]
          · obtain ⟨T', t4, c⟩ := c11 C a
            exact ⟨T', c⟩
        | some s =>
          rw [e] at w10 c11
          obtain ⟨s1, s2⟩ := wst_in th e
          have s6 : s < 6 := by omega
          obtain ⟨q1, q2⟩ := c144 h P f3 s6 s2
          obtain ⟨r, l10, l11⟩ := q_says h (ow S z s) (hw S s) a1 (Int32.ofNat (pcN y))
          obtain ⟨C', l⟩ := l10 C f4
          have of : f_X9_ofThing 3 (Int32.ofNat s) C = some (hw S s, C) := by
            rw [e_ofT (S := C) 3 ⟨on_p0 (by omega), by rw [q_101 f4, hth, on_lt (by omega) (by omega)]; exact s1⟩, q_vAt f4]; rfl
          have es : wI (some s) = Int32.ofNat s := rfl
          rw [es] at w10
          refine ⟨if r = true then 1 else 0, C', ?_, fun a => ?_⟩
          · unfold f_X10_gone
            rw [k10 S (agQ.rfl S), g_bds, if_pos rfl, e_within10, g_bds, decide_eq_true g1, if_pos rfl, f1, g_bds, if_pos rfl, w10, g_bds, if_pos (on_p0 (by omega)), of, g_bds, f3.1.1, e_bc hy, g_bds, if_pos (v6n s6), on_tn (by omega), q1, g_bds, e_price, g_bds, l, g_bds]
            split <;> rfl
          · obtain ⟨T', t4, c⟩ := c11 C' a
            obtain ⟨T'', l2, -⟩ := l11 T' t4
            refine ⟨T'', ?_⟩
            rw [c]
            show (g_bd (f_X11_goesBy FUEL (ow S z s) (hw S s) a1 (Int32.ofNat (pcN y)) T') fun v12 S13 => if v12 = true then some (1, S13) else some (0, S13)) = _
            rw [l2, g_bds]
            split <;> rfl
      · have eb : b = false := by
          cases b with
          | false => rfl
          | true => exact absurd (f2.mp rfl) P
        subst eb
        refine ⟨-2, C, ?_, fun a => ?_⟩
        · unfold f_X10_gone
          rw [k10 S (agQ.rfl S), g_bds, if_pos rfl, e_within10, g_bds, decide_eq_true g1, if_pos rfl, f1, g_bds, if_neg (by decide)]
        · obtain ⟨b', T', t1, t2, t3, t4⟩ := r11 C a
          have eb' : b' = false := by
            cases b' with
            | false => rfl
            | true => exact absurd (t2.mp rfl) P
          subst eb'
          refine ⟨T', ?_⟩
          unfold f_X11_gone
          rw [k11 C a, g_bds, if_pos rfl, e_isYards, g_bds, decide_eq_true g1, if_pos rfl, t1, g_bds, if_neg (by decide)]
    · refine ⟨-1, S, ?_, fun a => ⟨S, ?_⟩⟩
      · unfold f_X10_gone
        rw [k10 S (agQ.rfl S), g_bds, if_pos rfl, e_within10, g_bds, decide_eq_false g1, if_neg (by decide)]
      · unfold f_X11_gone
        rw [k11 S a, g_bds, if_pos rfl, e_isYards, g_bds, decide_eq_false g1, if_neg (by decide)]
