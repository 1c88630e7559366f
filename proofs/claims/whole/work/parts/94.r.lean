/-! LAW: the call -/
theorem cpR_one {f g : Nat → Int32} {i n : Nat} (h : i < n) : cpR f (upd g i (f i)) (i + 1) n = cpR f g i n := by
  funext k
  unfold cpR upd
  by_cases c : i + 1 ≤ k ∧ k < n
  · rw [if_pos c, if_pos ⟨by omega, c.2⟩]
  · rw [if_neg c]
    by_cases d : k = i
    · rw [if_pos d, if_pos ⟨by omega, by omega⟩, d]
    · rw [if_neg d, if_neg (by omega)]
theorem e_law37 (n : Nat) {U : z_Stt} : ∀ (j i m : Nat) (g : Nat → Int32), i + j ≤ 120 → j < m → f_X11_law_37 n m (Int32.ofNat (i + j)) (Int32.ofNat i) (sA U 56 g) = some (1, sI (sA U 56 (cpR (U.2.2.1 55) g i (i + j))) 4816 (Int32.ofNat (i + j))) := by
  intro j
  induction j with
  | zero =>
    intro i m g hi hm
    obtain ⟨m, rfl⟩ : ∃ q, m = q + 1 := ⟨m - 1, by omega⟩
    have e : cpR (U.2.2.1 55) g i (i + 0) = g := by
      funext k; unfold cpR; rw [if_neg (by omega)]
    rw [f_X11_law_37, if_pos (by rw [on_le (by omega) (by omega)]; omega), g_lets, e]
  | succ j ih =>
    intro i m g hi hm
    obtain ⟨m, rfl⟩ : ∃ q, m = q + 1 := ⟨m - 1, by omega⟩
    have e1 : (sA U 56 g).2.2.1 56 = g := rfl
    have e2 : (sA U 56 g).2.2.1 55 = U.2.2.1 55 := rfl
    have z := ih (i + 1) m (upd g i (U.2.2.1 55 i)) (by omega) (by omega)
    rw [show i + 1 + j = i + (j + 1) by omega, cpR_one (by omega)] at z
    rw [f_X11_law_37, if_neg (by rw [on_le (by omega) (by omega)]; omega), if_pos (on_v (by omega)), if_pos (on_v (by omega)), g_lets, e1, e2, on_tn (by omega), sA_sA, on_s i (by omega)]
    exact z
theorem kR_f {T T' : z_Stt} {p p' : Nat} {f f' o o' v v' : Int32} (h : some (v, kR T p f o) = some (v', kR T' p' f' o')) : f = f' := by
  have e : kR T p f o = kR T' p' f' o' := congrArg Prod.snd (Option.some.inj h)
  have e2 := congrArg (fun S => S.1 4820) e
  exact e2
theorem kC_f {T T' : z_Stt} {p p' : Nat} {f f' v v' : Int32} (h : some (v, kC T p f) = some (v', kC T' p' f')) : f = f' := by
  have e : kC T p f = kC T' p' f' := congrArg Prod.snd (Option.some.inj h)
  have e2 := congrArg (fun S => S.1 1306) e
  exact e2
def law14 (S : z_Stt) : z_Stt := sI (sR (sI (sR S 1302 14) 1303 (S.1 1301)) 1300 15) 1301 0
theorem law14_env {S T : z_Stt} (h : Inv S) (ra : S.2.2.2.2 1300 = 14) (rb : S.2.2.2.2 1302 = 15) (hT : T.2.2.1 55 = S.2.2.1 55) : env False (law14 S) (tR T (-1) (S.1 1301)) (S.2.2.1 14) (S.1 1301).toNatClampNeg := by
  have hl := h.2.2.2.2.1
  unfold iLaw at hl
  rw [ra, rb] at hl
  obtain ⟨⟨w1, w2, w3, w4, w5, w6⟩, r1, r2, r3⟩ := hl
  have eo := tn_on w2.1 w2.2
  refine ⟨tn_120 w2.1 w2.2, w3, ⟨eo, Or.inl rfl, fun k _ => rfl⟩, ⟨eo, Or.inl ⟨rfl, fun k hk => ?_⟩⟩, fun q => q.elim⟩
  show T.2.2.1 55 k = _
  rw [hT]; exact r2 k hk
theorem E_law14 {S : z_Stt} (h : Inv S) (ra : S.2.2.2.2 1300 = 14) (rb : S.2.2.2.2 1302 = 15) : ∃ (v : Int32) (S1 S2 : z_Stt), f_X10_law FUEL S = some (v, S1) ∧ f_X11_law FUEL S1 = some (v, S2) ∧ Inv S2 := by
  have hn : 130 < FUEL := by decide +kernel
  have hl := h.2.2.2.2.1
  unfold iLaw at hl
  rw [ra, rb] at hl
  obtain ⟨⟨w1, w2, w3, w4, w5, w6⟩, r1, r2, r3⟩ := hl
  have eo := tn_on w2.1 w2.2
  have e120 := tn_120 w2.1 w2.2
  obtain ⟨v, v', p, f, o, z1, z2, z3⟩ := L_run (law14_env (T := S) h ra rb rfl) hn
  have rn : ∀ T, T.2.2.1 55 = S.2.2.1 55 → ∃ (u : Int32) (q : Nat) (o : Int32), f_X11_workOut FUEL (-1) (S.1 1301) T = some (u, kR (tR T (-1) (S.1 1301)) q f o) := by
    intro T hT
    obtain ⟨v2, u, p2, f2, o2, y1, y2, y3⟩ := L_run (law14_env (T := T) h ra rb hT) hn
    rw [z1] at y1
    rw [← kC_f y1] at y2
    exact ⟨u, p2, o2, y2⟩
  have en : ∀ r : Option (Int32 × z_Stt), (if f < 0 then some (f, kC (law14 S) p f) else some (f, sI (sR (sR (kC (law14 S) p f) 1300 14) 1302 15) 1303 (S.1 1303))) = r → f_X6_enact FUEL S = r := by
    rintro r rfl
    unfold f_X6_enact
    rw [g_lets, g_lets, g_lets, g_lets, ra, rb]
    have e : sI (sR (sI (sR S 1302 14) 1303 ((sR S 1302 14).1 1301)) 1300 15) 1301 0 = law14 S := rfl
    rw [e, z1, g_bds]
    have e6 : (kC (law14 S) p f).1 1306 = f := rfl
    rw [e6]
    by_cases c : f < 0
    · rw [if_pos c, if_pos c]; rfl
    · rw [if_neg c, if_neg c]; rfl
  by_cases c : f < 0
  · obtain ⟨-, fm, sp⟩ := z3 c
    have td0 : 0 < S.1 1301 := by rw [Int32.lt_iff_toInt_lt, z0_32]; have := tn w2.1; omega
    obtain ⟨u, q, o', y⟩ := rn (kC (law14 S) p f) rfl
    rw [if_pos c] at en
    have fine : lawFine (S.2.2.1 14) (S.1 1301) := by
      intro S' g1 g2 g3
      have eE : env False S' (tR (kC (law14 S) p f) (-1) (S.1 1301)) (S.2.2.1 14) (S.1 1301).toNatClampNeg := by
        have base := law14_env (T := kC (law14 S) p f) h ra rb rfl
        exact ⟨base.1, base.2.1, ⟨g1.trans eo, g2, fun k _ => by rw [g3]⟩, base.2.2.2.1, fun q => q.elim⟩
      obtain ⟨v2, u2, p2, f2, o2, x1, x2, x3⟩ := L_run eE hn
      rw [y] at x2
      have ef := kR_f x2
      refine ⟨v2, _, x1, ?_⟩
      show f2 = -1
      rw [← ef]; exact fm
    have e37 := e_law37 FUEL (U := sI (kR (tR (kC (law14 S) p f) (-1) (S.1 1301)) q f o') 4814 0) (S.1 1301).toNatClampNeg 0 FUEL (S.2.2.1 56) (by omega) (by omega)
    rw [Nat.zero_add, ← eo] at e37
    refine ⟨1, kC (law14 S) p f, sI (sA (sI (kR (tR (kC (law14 S) p f) (-1) (S.1 1301)) q f o') 4814 0) 56 (cpR (S.2.2.1 55) (S.2.2.1 56) 0 (S.1 1301).toNatClampNeg)) 4816 (S.1 1301), ?_, ?_, ⟨h.1.of rfl rfl rfl rfl, h.2.1.of rfl rfl rfl rfl rfl rfl rfl rfl rfl rfl rfl, h.2.2.1.of rfl rfl rfl rfl rfl rfl rfl rfl rfl rfl rfl rfl rfl rfl rfl, h.2.2.2.1.of rfl rfl rfl rfl rfl rfl rfl rfl rfl rfl rfl rfl, ?_, h.2.2.2.2.2.1.of rfl rfl rfl rfl rfl rfl rfl rfl, h.2.2.2.2.2.2.of rfl (fun n q1 q2 => by simp only [kR, kC, tR, law14, sR, sI, sA]; repeat rw [if_neg (by omega)]) (fun _ _ _ => rfl) rfl rfl rfl⟩⟩
    · unfold f_X10_law
      rw [en _ rfl, g_bds, if_neg (Int32.not_le.mpr c)]
    · unfold f_X11_law
      have e1 : (kC (law14 S) p f).1 4814 = S.1 1301 := r1
      have e2 : (sI (kR (tR (kC (law14 S) p f) (-1) (S.1 1301)) q f o') 4814 0).1 4820 = f := rfl
      have e3 : (kR (tR (kC (law14 S) p f) (-1) (S.1 1301)) q f o').1 4814 = S.1 1301 := r1
      rw [e1, y, g_bds, g_lets, e2, if_pos c, e3]
      have e4 : sA (sI (kR (tR (kC (law14 S) p f) (-1) (S.1 1301)) q f o') 4814 0) 56 (S.2.2.1 56) = sI (kR (tR (kC (law14 S) p f) (-1) (S.1 1301)) q f o') 4814 0 := sA_self _ 56
      rw [e4] at e37
      exact e37
    · show wLaw 15 14 (S.2.2.1 15) (S.2.2.1 14) 0 (S.1 1301) ∧ rLaw (S.2.2.1 15) (S.2.2.1 14) 0 (S.1 1301) (S.2.2.1 55) (cpR (S.2.2.1 55) (S.2.2.1 56) 0 (S.1 1301).toNatClampNeg) 0 (S.1 1301)
      refine ⟨⟨by decide, by decide +kernel, fun k hk => absurd hk (Nat.not_lt_zero k), w2, w3, fun _ => fine⟩, rfl, fun k hk => absurd hk (Nat.not_lt_zero k), Or.inr ⟨td0, rfl, fun k hk => ?_⟩⟩
      unfold cpR
      rw [if_pos ⟨Nat.zero_le _, hk⟩]; exact r2 k hk
  · rw [if_neg c] at en
    obtain ⟨u, q, o', y⟩ := rn (sI (sR (sR (kC (law14 S) p f) 1300 14) 1302 15) 1303 (S.1 1303)) rfl
    refine ⟨-100 - f, sI (sR (sR (kC (law14 S) p f) 1300 14) 1302 15) 1303 (S.1 1303), sI (kR (tR (sI (sR (sR (kC (law14 S) p f) 1300 14) 1302 15) 1303 (S.1 1303)) (-1) (S.1 1301)) q f o') 4814 0, ?_, ?_, ⟨h.1.of rfl rfl rfl rfl, h.2.1.of rfl rfl rfl rfl rfl rfl rfl rfl rfl rfl rfl, h.2.2.1.of rfl rfl rfl rfl rfl rfl rfl rfl rfl rfl rfl rfl rfl rfl rfl, h.2.2.2.1.of rfl rfl rfl rfl rfl rfl rfl rfl rfl rfl rfl rfl, ?_, h.2.2.2.2.2.1.of rfl rfl rfl rfl rfl rfl rfl rfl, h.2.2.2.2.2.2.of rfl (fun n q1 q2 => by simp only [kR, kC, tR, law14, sR, sI, sA]; repeat rw [if_neg (by omega)]) (fun _ _ _ => rfl) rfl rfl rfl⟩⟩
    · unfold f_X10_law
      rw [en _ rfl, g_bds, if_pos (Int32.not_lt.mp c)]
    · unfold f_X11_law
      have e1 : (sI (sR (sR (kC (law14 S) p f) 1300 14) 1302 15) 1303 (S.1 1303)).1 4814 = S.1 1301 := r1
      have e2 : (sI (kR (tR (sI (sR (sR (kC (law14 S) p f) 1300 14) 1302 15) 1303 (S.1 1303)) (-1) (S.1 1301)) q f o') 4814 0).1 4820 = f := rfl
      rw [e1, y, g_bds, g_lets, e2, if_neg c]
    · show wLaw 14 15 (S.2.2.1 14) (S.2.2.1 15) 0 (S.1 1303) ∧ rLaw (S.2.2.1 14) (S.2.2.1 15) 0 (S.1 1303) (S.2.2.1 55) (S.2.2.1 56) 0 (S.1 4816)
      exact ⟨⟨w1, by decide +kernel, fun k hk => absurd hk (Nat.not_lt_zero k), w4, w5, w6⟩, rfl, fun k hk => absurd hk (Nat.not_lt_zero k), r3⟩
def law15 (S : z_Stt) : z_Stt := sI (sR (sI (sR S 1302 15) 1303 (S.1 1301)) 1300 14) 1301 0
theorem law15_env {S T : z_Stt} (h : Inv S) (ra : S.2.2.2.2 1300 = 15) (rb : S.2.2.2.2 1302 = 14) (hT : T.2.2.1 55 = S.2.2.1 55) : env False (law15 S) (tR T (-1) (S.1 1301)) (S.2.2.1 15) (S.1 1301).toNatClampNeg := by
  have hl := h.2.2.2.2.1
  unfold iLaw at hl
  rw [ra, rb] at hl
  obtain ⟨⟨w1, w2, w3, w4, w5, w6⟩, r1, r2, r3⟩ := hl
  have eo := tn_on w2.1 w2.2
  refine ⟨tn_120 w2.1 w2.2, w3, ⟨eo, Or.inr rfl, fun k _ => rfl⟩, ⟨eo, Or.inl ⟨rfl, fun k hk => ?_⟩⟩, fun q => q.elim⟩
  show T.2.2.1 55 k = _
  rw [hT]; exact r2 k hk
theorem E_law15 {S : z_Stt} (h : Inv S) (ra : S.2.2.2.2 1300 = 15) (rb : S.2.2.2.2 1302 = 14) : ∃ (v : Int32) (S1 S2 : z_Stt), f_X10_law FUEL S = some (v, S1) ∧ f_X11_law FUEL S1 = some (v, S2) ∧ Inv S2 := by
  have hn : 130 < FUEL := by decide +kernel
  have hl := h.2.2.2.2.1
  unfold iLaw at hl
  rw [ra, rb] at hl
  obtain ⟨⟨w1, w2, w3, w4, w5, w6⟩, r1, r2, r3⟩ := hl
  have eo := tn_on w2.1 w2.2
  have e120 := tn_120 w2.1 w2.2
  obtain ⟨v, v', p, f, o, z1, z2, z3⟩ := L_run (law15_env (T := S) h ra rb rfl) hn
  have rn : ∀ T, T.2.2.1 55 = S.2.2.1 55 → ∃ (u : Int32) (q : Nat) (o : Int32), f_X11_workOut FUEL (-1) (S.1 1301) T = some (u, kR (tR T (-1) (S.1 1301)) q f o) := by
    intro T hT
    obtain ⟨v2, u, p2, f2, o2, y1, y2, y3⟩ := L_run (law15_env (T := T) h ra rb hT) hn
    rw [z1] at y1
    rw [← kC_f y1] at y2
    exact ⟨u, p2, o2, y2⟩
  have en : ∀ r : Option (Int32 × z_Stt), (if f < 0 then some (f, kC (law15 S) p f) else some (f, sI (sR (sR (kC (law15 S) p f) 1300 15) 1302 14) 1303 (S.1 1303))) = r → f_X6_enact FUEL S = r := by
    rintro r rfl
    unfold f_X6_enact
    rw [g_lets, g_lets, g_lets, g_lets, ra, rb]
    have e : sI (sR (sI (sR S 1302 15) 1303 ((sR S 1302 15).1 1301)) 1300 14) 1301 0 = law15 S := rfl
    rw [e, z1, g_bds]
    have e6 : (kC (law15 S) p f).1 1306 = f := rfl
    rw [e6]
    by_cases c : f < 0
    · rw [if_pos c, if_pos c]; rfl
    · rw [if_neg c, if_neg c]; rfl
  by_cases c : f < 0
  · obtain ⟨-, fm, sp⟩ := z3 c
    have td0 : 0 < S.1 1301 := by rw [Int32.lt_iff_toInt_lt, z0_32]; have := tn w2.1; omega
    obtain ⟨u, q, o', y⟩ := rn (kC (law15 S) p f) rfl
    rw [if_pos c] at en
    have fine : lawFine (S.2.2.1 15) (S.1 1301) := by
      intro S' g1 g2 g3
      have eE : env False S' (tR (kC (law15 S) p f) (-1) (S.1 1301)) (S.2.2.1 15) (S.1 1301).toNatClampNeg := by
        have base := law15_env (T := kC (law15 S) p f) h ra rb rfl
        exact ⟨base.1, base.2.1, ⟨g1.trans eo, g2, fun k _ => by rw [g3]⟩, base.2.2.2.1, fun q => q.elim⟩
      obtain ⟨v2, u2, p2, f2, o2, x1, x2, x3⟩ := L_run eE hn
      rw [y] at x2
      have ef := kR_f x2
      refine ⟨v2, _, x1, ?_⟩
      show f2 = -1
      rw [← ef]; exact fm
    have e37 := e_law37 FUEL (U := sI (kR (tR (kC (law15 S) p f) (-1) (S.1 1301)) q f o') 4814 0) (S.1 1301).toNatClampNeg 0 FUEL (S.2.2.1 56) (by omega) (by omega)
    rw [Nat.zero_add, ← eo] at e37
    refine ⟨1, kC (law15 S) p f, sI (sA (sI (kR (tR (kC (law15 S) p f) (-1) (S.1 1301)) q f o') 4814 0) 56 (cpR (S.2.2.1 55) (S.2.2.1 56) 0 (S.1 1301).toNatClampNeg)) 4816 (S.1 1301), ?_, ?_, ⟨h.1.of rfl rfl rfl rfl, h.2.1.of rfl rfl rfl rfl rfl rfl rfl rfl rfl rfl rfl, h.2.2.1.of rfl rfl rfl rfl rfl rfl rfl rfl rfl rfl rfl rfl rfl rfl rfl, h.2.2.2.1.of rfl rfl rfl rfl rfl rfl rfl rfl rfl rfl rfl rfl, ?_, h.2.2.2.2.2.1.of rfl rfl rfl rfl rfl rfl rfl rfl, h.2.2.2.2.2.2.of rfl (fun n q1 q2 => by simp only [kR, kC, tR, law15, sR, sI, sA]; repeat rw [if_neg (by omega)]) (fun _ _ _ => rfl) rfl rfl rfl⟩⟩
    · unfold f_X10_law
      rw [en _ rfl, g_bds, if_neg (Int32.not_le.mpr c)]
    · unfold f_X11_law
      have e1 : (kC (law15 S) p f).1 4814 = S.1 1301 := r1
      have e2 : (sI (kR (tR (kC (law15 S) p f) (-1) (S.1 1301)) q f o') 4814 0).1 4820 = f := rfl
      have e3 : (kR (tR (kC (law15 S) p f) (-1) (S.1 1301)) q f o').1 4814 = S.1 1301 := r1
      rw [e1, y, g_bds, g_lets, e2, if_pos c, e3]
      have e4 : sA (sI (kR (tR (kC (law15 S) p f) (-1) (S.1 1301)) q f o') 4814 0) 56 (S.2.2.1 56) = sI (kR (tR (kC (law15 S) p f) (-1) (S.1 1301)) q f o') 4814 0 := sA_self _ 56
      rw [e4] at e37
      exact e37
    · show wLaw 14 15 (S.2.2.1 14) (S.2.2.1 15) 0 (S.1 1301) ∧ rLaw (S.2.2.1 14) (S.2.2.1 15) 0 (S.1 1301) (S.2.2.1 55) (cpR (S.2.2.1 55) (S.2.2.1 56) 0 (S.1 1301).toNatClampNeg) 0 (S.1 1301)
      refine ⟨⟨by decide, by decide +kernel, fun k hk => absurd hk (Nat.not_lt_zero k), w2, w3, fun _ => fine⟩, rfl, fun k hk => absurd hk (Nat.not_lt_zero k), Or.inr ⟨td0, rfl, fun k hk => ?_⟩⟩
      unfold cpR
      rw [if_pos ⟨Nat.zero_le _, hk⟩]; exact r2 k hk
  · rw [if_neg c] at en
    obtain ⟨u, q, o', y⟩ := rn (sI (sR (sR (kC (law15 S) p f) 1300 15) 1302 14) 1303 (S.1 1303)) rfl
    refine ⟨-100 - f, sI (sR (sR (kC (law15 S) p f) 1300 15) 1302 14) 1303 (S.1 1303), sI (kR (tR (sI (sR (sR (kC (law15 S) p f) 1300 15) 1302 14) 1303 (S.1 1303)) (-1) (S.1 1301)) q f o') 4814 0, ?_, ?_, ⟨h.1.of rfl rfl rfl rfl, h.2.1.of rfl rfl rfl rfl rfl rfl rfl rfl rfl rfl rfl, h.2.2.1.of rfl rfl rfl rfl rfl rfl rfl rfl rfl rfl rfl rfl rfl rfl rfl, h.2.2.2.1.of rfl rfl rfl rfl rfl rfl rfl rfl rfl rfl rfl rfl, ?_, h.2.2.2.2.2.1.of rfl rfl rfl rfl rfl rfl rfl rfl, h.2.2.2.2.2.2.of rfl (fun n q1 q2 => by simp only [kR, kC, tR, law15, sR, sI, sA]; repeat rw [if_neg (by omega)]) (fun _ _ _ => rfl) rfl rfl rfl⟩⟩
    · unfold f_X10_law
      rw [en _ rfl, g_bds, if_pos (Int32.not_lt.mp c)]
    · unfold f_X11_law
      have e1 : (sI (sR (sR (kC (law15 S) p f) 1300 15) 1302 14) 1303 (S.1 1303)).1 4814 = S.1 1301 := r1
      have e2 : (sI (kR (tR (sI (sR (sR (kC (law15 S) p f) 1300 15) 1302 14) 1303 (S.1 1303)) (-1) (S.1 1301)) q f o') 4814 0).1 4820 = f := rfl
      rw [e1, y, g_bds, g_lets, e2, if_neg c]
    · show wLaw 15 14 (S.2.2.1 15) (S.2.2.1 14) 0 (S.1 1303) ∧ rLaw (S.2.2.1 15) (S.2.2.1 14) 0 (S.1 1303) (S.2.2.1 55) (S.2.2.1 56) 0 (S.1 4816)
      exact ⟨⟨w1, by decide +kernel, fun k hk => absurd hk (Nat.not_lt_zero k), w4, w5, w6⟩, rfl, fun k hk => absurd hk (Nat.not_lt_zero k), r3⟩
theorem E_law {S : z_Stt} (h : Inv S) : ∃ (v : Int32) (S1 S2 : z_Stt), f_X10_law FUEL S = some (v, S1) ∧ f_X11_law FUEL S1 = some (v, S2) ∧ Inv S2 := by
  rcases h.2.2.2.2.1.1.1 with ⟨ra, rb⟩ | ⟨ra, rb⟩
  · exact E_law14 h ra rb
  · exact E_law15 h ra rb
