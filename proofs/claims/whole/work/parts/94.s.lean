/-! LAW: what it says, on both sides -/
def nmA (f : Nat → Int32) (o h y p v c : Int32) : Nat → Int32 := upd (upd (upd (upd (upd (upd f 0 o) 1 h) 2 y) 3 p) 4 v) 5 c
theorem nmA_i (f g : Nat → Int32) (o h y p v c : Int32) : ∀ i, i < 6 → nmA f o h y p v c i = nmA g o h y p v c i := by
  intro i hi
  have : i = 0 ∨ i = 1 ∨ i = 2 ∨ i = 3 ∨ i = 4 ∨ i = 5 := by omega
  rcases this with e | e | e | e | e | e <;> subst e <;> rfl
theorem l6_0 : ¬ ((0 : Int32) < 0 ∨ 6 ≤ (0 : Int32).toNatClampNeg) := by decide +kernel
theorem l6_1 : ¬ ((1 : Int32) < 0 ∨ 6 ≤ (1 : Int32).toNatClampNeg) := by decide +kernel
theorem l6_2 : ¬ ((2 : Int32) < 0 ∨ 6 ≤ (2 : Int32).toNatClampNeg) := by decide +kernel
theorem l6_3 : ¬ ((3 : Int32) < 0 ∨ 6 ≤ (3 : Int32).toNatClampNeg) := by decide +kernel
theorem l6_4 : ¬ ((4 : Int32) < 0 ∨ 6 ≤ (4 : Int32).toNatClampNeg) := by decide +kernel
theorem l6_5 : ¬ ((5 : Int32) < 0 ∨ 6 ≤ (5 : Int32).toNatClampNeg) := by decide +kernel
theorem l75_p : ¬ ((36 : Int32) < 0 ∨ 75 ≤ (36 : Int32).toNatClampNeg) := by decide +kernel
theorem e_price (S : z_Stt) : f_X9_price S = some (S.2.2.1 2 36, S) := by
  unfold f_X9_price
  rw [if_pos l75_p]
  rfl
theorem e_says {n : Nat} {o h y p v c : Int32} (S : z_Stt) (told : ¬ S.1 1303 = 0) : f_X6_says n o h y p v c S = (g_bd (f_X6_lines n (sA S 16 (nmA (S.2.2.1 16) o h y p v c))) fun w U => if w = 0 then some (false, U) else some (true, U)) := by
  have rd : ∀ (U : z_Stt) (f : Nat → Int32), (sA U 16 f).2.2.1 16 = f := fun _ _ => rfl
  unfold f_X6_says
  rw [if_neg told, if_pos l6_0, g_lets, if_pos l6_1, g_lets, if_pos l6_2, g_lets, if_pos l6_3, g_lets, if_pos l6_4, g_lets, if_pos l6_5, g_lets, rd, rd, rd, rd, rd, sA_sA, sA_sA, sA_sA, sA_sA, sA_sA]
  rfl
theorem e_goesT {n : Nat} {o h y c : Int32} (T : z_Stt) (h0 : 0 ≤ T.1 4816) {v : Int32} {U : z_Stt} (hw : f_X11_workOut n 0 (T.1 4816) (sA T 57 (nmA (T.2.2.1 57) o h y (T.2.2.1 49 36) (T.1 4809) c)) = some (v, U)) : f_X11_goesBy n o h y c T = some (decide (¬ v = 0), U) := by
  have rd : ∀ (U : z_Stt) (f : Nat → Int32), (sA U 57 f).2.2.1 57 = f := fun _ _ => rfl
  have r49 : ∀ (U : z_Stt) (f : Nat → Int32), (sA U 57 f).2.2.1 49 = U.2.2.1 49 := fun _ _ => rfl
  have ri : ∀ (U : z_Stt) (f : Nat → Int32) k, (sA U 57 f).1 k = U.1 k := fun _ _ _ => rfl
  have n36 : (36 : Int32).toNatClampNeg = 36 := rfl
  unfold f_X11_goesBy
  rw [if_pos h0, if_pos l6_0, g_lets, if_pos l6_1, g_lets, if_pos l6_2, g_lets, if_pos l75_p, if_pos l6_3, g_lets, if_pos l6_4, g_lets, if_pos l6_5, g_lets, rd, rd, rd, rd, rd, r49, r49, r49, ri, ri, ri, ri, ri, ri, ri, ri, ri, ri, sA_sA, sA_sA, sA_sA, sA_sA, sA_sA, n36]
  have e : sA T 57 (upd (upd (upd (upd (upd (upd (T.2.2.1 57) (0 : Int32).toNatClampNeg o) (1 : Int32).toNatClampNeg h) (2 : Int32).toNatClampNeg y) (3 : Int32).toNatClampNeg (T.2.2.1 49 36)) (4 : Int32).toNatClampNeg (T.1 4809)) (5 : Int32).toNatClampNeg c) = sA T 57 (nmA (T.2.2.1 57) o h y (T.2.2.1 49 36) (T.1 4809) c) := rfl
  rw [e, hw, g_bds]
  by_cases q : v = 0
  · rw [if_pos q, decide_eq_false (fun z => z q)]
  · rw [if_neg q, decide_eq_true q]
theorem says_pair {S S' T' : z_Stt} (h : Inv S) (a : agQ S S') (b : agQ S T') (told : 0 < S.1 1303) (o hh y c : Int32) : ∃ (v : Int32) (S'' T'' : z_Stt), f_X6_lines FUEL (sA S' 16 (nmA (S'.2.2.1 16) o hh y (S.2.2.1 2 36) (S.1 702) c)) = some (v, S'') ∧ f_X11_goesBy FUEL o hh y c T' = some (decide (¬ v = 0), T'') ∧ T''.1 4829 = T'.1 4829 := by
  have hn : 130 < FUEL := by decide +kernel
  obtain ⟨⟨w1, w2, w3, w4, w5, w6⟩, r1, r2, r3⟩ := h.2.2.2.2.1
  obtain ⟨-, mz, mx⟩ := r3.resolve_left (fun q => by rw [q.1] at told; exact absurd told (by decide +kernel))
  have x14 : S.2.2.2.2 1302 = 14 ∨ S.2.2.2.2 1302 = 15 := by rcases w1 with q | q; exact Or.inr q.2; exact Or.inl q.2
  have a13 : S'.1 1303 = S.1 1303 := a.1 _ (by decide)
  have aR : S'.2.2.2.2 = S.2.2.2.2 := a.2.2.2
  have aX : S'.2.2.1 (S.2.2.2.2 1302) = S.2.2.1 (S.2.2.2.2 1302) := by rcases x14 with q | q <;> rw [q] <;> exact a.2.1 _ (by decide)
  have n16 : ¬ S.2.2.2.2 1302 = 16 := by rcases x14 with q | q <;> rw [q] <;> decide
  have aX' : (sA S' 16 (nmA (S'.2.2.1 16) o hh y (S.2.2.1 2 36) (S.1 702) c)).2.2.1 (S.2.2.2.2 1302) = S.2.2.1 (S.2.2.2.2 1302) := by
    show (if S.2.2.2.2 1302 = 16 then _ else S'.2.2.1 (S.2.2.2.2 1302)) = _
    rw [if_neg n16]; exact aX
  have b16 : T'.1 4816 = S.1 1303 := (b.1 _ (by decide)).trans mz
  have b56 : T'.2.2.1 56 = S.2.2.1 56 := b.2.1 _ (by decide)
  have b49 : T'.2.2.1 49 = S.2.2.1 2 := q_49 h b
  have b9 : T'.1 4809 = S.1 702 := (b.1 _ (by decide)).trans h.2.2.1.2.2.2.1
  have eo := tn_on w4.1 w4.2
  have eE : env True (sA S' 16 (nmA (S'.2.2.1 16) o hh y (S.2.2.1 2 36) (S.1 702) c)) (tR (sA T' 57 (nmA (T'.2.2.1 57) o hh y (T'.2.2.1 49 36) (T'.1 4809) c)) 0 (T'.1 4816)) (S.2.2.1 (S.2.2.2.2 1302)) (S.1 1303).toNatClampNeg := by
    refine ⟨tn_120 w4.1 w4.2, w5, ⟨a13.trans eo, ?_, fun k _ => ?_⟩, ⟨b16.trans eo, Or.inr ⟨rfl, fun k hk => ?_⟩⟩, fun _ i hi => ?_⟩
    · show S'.2.2.2.2 1302 = 14 ∨ S'.2.2.2.2 1302 = 15
      rw [aR]; exact x14
    · show (sA S' 16 _).2.2.1 (S'.2.2.2.2 1302) k = _
      rw [aR, aX']
    · show T'.2.2.1 56 k = _
      rw [b56]; exact mx k hk
    · show nmA (S'.2.2.1 16) o hh y (S.2.2.1 2 36) (S.1 702) c i = nmA (T'.2.2.1 57) o hh y (T'.2.2.1 49 36) (T'.1 4809) c i
      rw [b49, b9]; exact nmA_i _ _ _ _ _ _ _ _ i hi
  obtain ⟨v, v', p, f, u, z1, z2, z3⟩ := L_run eE hn
  have fine := w6 told (sA S' 16 (nmA (S'.2.2.1 16) o hh y (S.2.2.1 2 36) (S.1 702) c)) a13 (by show S'.2.2.2.2 1302 = 14 ∨ S'.2.2.2.2 1302 = 15; rw [aR]; exact x14) (by show (sA S' 16 _).2.2.1 (S'.2.2.2.2 1302) = _; rw [aR, aX'])
  obtain ⟨x, X, y1, y2⟩ := fine
  have fx : f = -1 := by
    rw [z1] at y1
    have e := congrArg Prod.snd (Option.some.inj y1)
    have e2 := congrArg (fun U => U.1 1306) e
    exact Eq.trans e2 y2
  have ev := (z3 (by rw [fx]; decide +kernel)).1 trivial
  have g := e_goesT (o := o) (h := hh) (y := y) (c := c) T' (by rw [b16]; exact w4.1) z2
  rw [← ev] at g
  exact ⟨v, _, _, z1, g, rfl⟩
/-- one answer, wherever it is asked -/
theorem q_says {S : z_Stt} (h : Inv S) (o hh y c : Int32) : ∃ r : Bool, (∀ S', agQ S S' → ∃ S'', f_X6_says FUEL o hh y (S'.2.2.1 2 36) (S'.1 702) c S' = some (r, S'')) ∧ ∀ T, agQ S T → ∃ T', f_X11_goesBy FUEL o hh y c T = some (r, T') ∧ T'.1 4829 = T.1 4829 := by
  obtain ⟨⟨w1, w2, w3, w4, w5, w6⟩, r1, r2, r3⟩ := h.2.2.2.2.1
  have n36 : (36 : Int32).toNatClampNeg = 36 := rfl
  by_cases told : 0 < S.1 1303
  · obtain ⟨v, S1, T1, z1, z2, -⟩ := says_pair h (agQ.rfl S) (agQ.rfl S) told o hh y c
    refine ⟨decide (¬ v = 0), fun S' a => ?_, fun T a => ?_⟩
    · obtain ⟨v2, S2, T2, y1, y2, -⟩ := says_pair h a (agQ.rfl S) told o hh y c
      rw [z2] at y2
      have e : decide (¬ v = 0) = decide (¬ v2 = 0) := congrArg Prod.fst (Option.some.inj y2)
      have a13 : ¬ S'.1 1303 = 0 := by
        rw [a.1 1303 (by decide)]
        intro q
        rw [q] at told
        exact absurd told (by decide +kernel)
      have a36 : S'.2.2.1 2 = S.2.2.1 2 := a.2.1 _ (by decide)
      have a702 : S'.1 702 = S.1 702 := a.1 _ (by decide)
      refine ⟨S2, ?_⟩
      rw [e_says S' a13, a36, a702, y1, g_bds, e]
      by_cases q : v2 = 0
      · rw [if_pos q, decide_eq_false (fun z => z q)]
      · rw [if_neg q, decide_eq_true q]
    · obtain ⟨v2, S2, T2, y1, y2, y3⟩ := says_pair h (agQ.rfl S) a told o hh y c
      rw [z1] at y1
      have e : v = v2 := congrArg Prod.fst (Option.some.inj y1)
      rw [e]
      exact ⟨T2, y2, y3⟩
  · have z : S.1 1303 = 0 ∧ S.1 4816 = -1 := by rcases r3 with q | q; exact q; exact absurd q.1 told
    refine ⟨decide (¬ o * hh ≤ 144 * prV S y), fun S' a => ⟨S', ?_⟩, fun T a => ⟨T, ?_, rfl⟩⟩
    · have a13 : S'.1 1303 = 0 := (a.1 1303 (by decide)).trans z.1
      have a36 : S'.2.2.1 2 = S.2.2.1 2 := a.2.1 _ (by decide)
      have e : 288 * y * S.2.2.1 2 36 = 144 * prV S y := by
        unfold prV
        generalize S.2.2.1 2 36 = x
        grind
      unfold f_X6_says
      rw [if_pos a13, a36, e]
      by_cases q : o * hh ≤ 144 * prV S y
      · rw [if_pos q, decide_eq_false (fun z => z q)]
      · rw [if_neg q, decide_eq_true q]
    · have b16 : ¬ 0 ≤ T.1 4816 := by rw [a.1 4816 (by decide), z.2]; decide +kernel
      have e : 288 * y * T.2.2.1 49 36 = 144 * prV S y := by
        rw [q_49 h a]; unfold prV
        generalize S.2.2.1 2 36 = x
        grind
      unfold f_X11_goesBy
      rw [if_neg b16, if_pos l75_p, n36, e]
      by_cases q : o * hh ≤ 144 * prV S y
      · rw [if_pos q, decide_eq_false (fun z => z q)]
      · rw [if_neg q, decide_eq_true q]
