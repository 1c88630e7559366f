/-! WHAT IS NOT TOUCHED: the class's own functions leave the reference's part of the state (indices from 4800 on, rows from 48 on), the reference's leave the class's. -/
def agM (S T : z_Stt) : Prop := (∀ n, 4800 ≤ n → T.1 n = S.1 n) ∧ (∀ n, 4800 ≤ n → T.2.1 n = S.2.1 n) ∧ (∀ k, 48 ≤ k → T.2.2.1 k = S.2.2.1 k) ∧ (∀ k, 48 ≤ k → T.2.2.2.1 k = S.2.2.2.1 k)
def agC (S T : z_Stt) : Prop := (∀ n, n < 4800 → T.1 n = S.1 n) ∧ (∀ n, n < 4800 → T.2.1 n = S.2.1 n) ∧ (∀ k, k < 48 → T.2.2.1 k = S.2.2.1 k) ∧ (∀ k, k < 48 → T.2.2.2.1 k = S.2.2.2.1 k) ∧ T.2.2.2.2 = S.2.2.2.2
theorem agM.rfl (S : z_Stt) : agM S S := ⟨fun _ _ => Eq.refl _, fun _ _ => Eq.refl _, fun _ _ => Eq.refl _, fun _ _ => Eq.refl _⟩
theorem agC.rfl (S : z_Stt) : agC S S := ⟨fun _ _ => Eq.refl _, fun _ _ => Eq.refl _, fun _ _ => Eq.refl _, fun _ _ => Eq.refl _, Eq.refl _⟩
theorem agM.trans {S T U : z_Stt} (a : agM S T) (b : agM T U) : agM S U := ⟨fun n h => (b.1 n h).trans (a.1 n h), fun n h => (b.2.1 n h).trans (a.2.1 n h), fun n h => (b.2.2.1 n h).trans (a.2.2.1 n h), fun n h => (b.2.2.2 n h).trans (a.2.2.2 n h)⟩
theorem agC.trans {S T U : z_Stt} (a : agC S T) (b : agC T U) : agC S U := ⟨fun n h => (b.1 n h).trans (a.1 n h), fun n h => (b.2.1 n h).trans (a.2.1 n h), fun n h => (b.2.2.1 n h).trans (a.2.2.1 n h), fun n h => (b.2.2.2.1 n h).trans (a.2.2.2.1 n h), b.2.2.2.2.trans a.2.2.2.2⟩
theorem agM.lsI {S T U : z_Stt} {n : Nat} {v : Int32} (a : agM S T) (e : U = sI T n v) (h : n < 4800) : agM S U := a.trans (by subst e; exact ⟨fun m hm => if_neg (by omega), fun _ _ => Eq.refl _, fun _ _ => Eq.refl _, fun _ _ => Eq.refl _⟩)
theorem agM.lsJ {S T U : z_Stt} {n : Nat} {v : Int64} (a : agM S T) (e : U = sJ T n v) (h : n < 4800) : agM S U := a.trans (by subst e; exact ⟨fun _ _ => Eq.refl _, fun m hm => if_neg (by omega), fun _ _ => Eq.refl _, fun _ _ => Eq.refl _⟩)
theorem agM.lsA {S T U : z_Stt} {k : Nat} {f : Nat → Int32} (a : agM S T) (e : U = sA T k f) (h : k < 48) : agM S U := a.trans (by subst e; exact ⟨fun _ _ => Eq.refl _, fun _ _ => Eq.refl _, fun m hm => if_neg (by omega), fun _ _ => Eq.refl _⟩)
theorem agM.lsE {S T U : z_Stt} {k : Nat} {f : Nat → Int64} (a : agM S T) (e : U = sE T k f) (h : k < 48) : agM S U := a.trans (by subst e; exact ⟨fun _ _ => Eq.refl _, fun _ _ => Eq.refl _, fun _ _ => Eq.refl _, fun m hm => if_neg (by omega)⟩)
theorem agM.lsR {S T U : z_Stt} {n v : Nat} (a : agM S T) (e : U = sR T n v) : agM S U := a.trans (by subst e; exact ⟨fun _ _ => Eq.refl _, fun _ _ => Eq.refl _, fun _ _ => Eq.refl _, fun _ _ => Eq.refl _⟩)
theorem agC.lsI {S T U : z_Stt} {n : Nat} {v : Int32} (a : agC S T) (e : U = sI T n v) (h : 4800 ≤ n) : agC S U := a.trans (by subst e; exact ⟨fun m hm => if_neg (by omega), fun _ _ => Eq.refl _, fun _ _ => Eq.refl _, fun _ _ => Eq.refl _, Eq.refl _⟩)
theorem agC.lsJ {S T U : z_Stt} {n : Nat} {v : Int64} (a : agC S T) (e : U = sJ T n v) (h : 4800 ≤ n) : agC S U := a.trans (by subst e; exact ⟨fun _ _ => Eq.refl _, fun m hm => if_neg (by omega), fun _ _ => Eq.refl _, fun _ _ => Eq.refl _, Eq.refl _⟩)
theorem agC.lsA {S T U : z_Stt} {k : Nat} {f : Nat → Int32} (a : agC S T) (e : U = sA T k f) (h : 48 ≤ k) : agC S U := a.trans (by subst e; exact ⟨fun _ _ => Eq.refl _, fun _ _ => Eq.refl _, fun m hm => if_neg (by omega), fun _ _ => Eq.refl _, Eq.refl _⟩)
theorem agC.lsE {S T U : z_Stt} {k : Nat} {f : Nat → Int64} (a : agC S T) (e : U = sE T k f) (h : 48 ≤ k) : agC S U := a.trans (by subst e; exact ⟨fun _ _ => Eq.refl _, fun _ _ => Eq.refl _, fun _ _ => Eq.refl _, fun m hm => if_neg (by omega), Eq.refl _⟩)
theorem g_nem (P : Prop) : ¬ P ∨ P := (Classical.em P).symm
theorem g_bf (b : Bool) : b = false ∨ b = true := by cases b <;> simp
theorem g_bt (b : Bool) : b = true ∨ b = false := by cases b <;> simp
theorem fw4_of {i : Int32} (h : ¬ (i < 0 ∨ 6 ≤ i.toNatClampNeg)) : 22 + i.toNatClampNeg + 1 < 48 := by
  have hlt : i.toNatClampNeg < 6 := Nat.not_le.mp fun q => h (Or.inr q)
  omega
theorem fw8_of {i : Int32} (h : ¬ (i < 0 ∨ 6 ≤ i.toNatClampNeg)) : 36 + 2 * i.toNatClampNeg + 1 < 48 := by
  have hlt : i.toNatClampNeg < 6 := Nat.not_le.mp fun q => h (Or.inr q)
  omega
set_option maxHeartbeats 4000000 in
set_option maxRecDepth 100000 in
theorem fr_X9_come (a0 : Int32) (a1 : Int32) (a2 : Int32) (a3 : Int32) (S : z_Stt) {v : Int32} {S' : z_Stt} (h : f_X9_come a0 a1 a2 a3 S = some (v, S')) : agM S S' := by
  have a := agM.rfl S
  unfold f_X9_come at h
  rcases Classical.em (S.1 101 < 6) with c1 | c1
  · have h := g_t c1 h
    obtain ⟨c2, h⟩ := g_if h
    obtain ⟨S3, e4, h⟩ := g_let_ex h
    have a := a.lsA e4 (by omega)
    obtain ⟨c5, h⟩ := g_if h
    obtain ⟨S6, e7, h⟩ := g_let_ex h
    have a := a.lsA e7 (by omega)
    obtain ⟨c8, h⟩ := g_if h
    obtain ⟨S9, e10, h⟩ := g_let_ex h
    have a := a.lsA e10 (by omega)
    obtain ⟨c11, h⟩ := g_if h
    obtain ⟨S12, e13, h⟩ := g_let_ex h
    have a := a.lsA e13 (by omega)
    obtain ⟨S14, e15, h⟩ := g_let_ex h
    have a := a.lsI e15 (by omega)
    obtain ⟨rfl, rfl⟩ := g_some h
    exact a
  · have h := g_f c1 h
    obtain ⟨rfl, rfl⟩ := g_some h
    exact a
set_option maxHeartbeats 4000000 in
set_option maxRecDepth 100000 in
theorem fr_X9_between (a0 : Int32) (a1 : Int32) (S : z_Stt) {v : Int32} {S' : z_Stt} (h : f_X9_between a0 a1 S = some (v, S')) : agM S S' := by
  have a := agM.rfl S
  unfold f_X9_between at h
  obtain ⟨rfl, rfl⟩ := g_some h
  exact a
set_option maxHeartbeats 4000000 in
set_option maxRecDepth 100000 in
theorem fr_X9_placeOf (a0 : Int32) (a1 : Int32) (S : z_Stt) {v : Int32} {S' : z_Stt} (h : f_X9_placeOf a0 a1 S = some (v, S')) : agM S S' := by
  have a := agM.rfl S
  unfold f_X9_placeOf at h
  rcases Classical.em (a0 < 0) with c1 | c1
  · have h := g_t c1 h
    obtain ⟨rfl, rfl⟩ := g_some h
    exact a
  · have h := g_f c1 h
    rcases Classical.em (a1 < 0) with c2 | c2
    · have h := g_t c2 h
      obtain ⟨rfl, rfl⟩ := g_some h
      exact a
    · have h := g_f c2 h
      rcases Classical.em (a1 ≤ 9) with c3 | c3
      · have h := g_t c3 h
        rcases Classical.em (5 < a1) with c4 | c4
        · have h := g_t c4 h
          rcases Classical.em (9 ≤ a1) with c5 | c5
          · have h := g_t c5 h
            rcases Classical.em (6 ≤ a0 / 10) with c6 | c6
            · have h := g_t c6 h
              obtain ⟨rfl, rfl⟩ := g_some h
              exact a
            · have h := g_f c6 h
              rcases Classical.em (6 ≤ a0 % 10) with c7 | c7
              · have h := g_t c7 h
                obtain ⟨rfl, rfl⟩ := g_some h
                exact a
              · have h := g_f c7 h
                rcases Classical.em (a0 / 10 = a0 % 10) with c8 | c8
                · have h := g_t c8 h
                  obtain ⟨rfl, rfl⟩ := g_some h
                  exact a
                · have h := g_f c8 h
                  obtain ⟨v9, S10, e11, h⟩ := g_bd_ex h
                  have a := a.trans (fr_X9_between (a0 / 10) (a0 % 10) _ e11)
                  obtain ⟨rfl, rfl⟩ := g_some h
                  exact a
          · have h := g_f c5 h
            rcases g_nem (a0 = 0) with c12 | c12
            · have h := g_f c12 h
              obtain ⟨rfl, rfl⟩ := g_some h
              exact a
            · have h := g_t c12 h
              obtain ⟨rfl, rfl⟩ := g_some h
              exact a
        · have h := g_f c4 h
          rcases Classical.em (S.1 101 ≤ a0) with c13 | c13
          · have h := g_t c13 h
            obtain ⟨rfl, rfl⟩ := g_some h
            exact a
          · have h := g_f c13 h
            obtain ⟨rfl, rfl⟩ := g_some h
            exact a
      · have h := g_f c3 h
        obtain ⟨rfl, rfl⟩ := g_some h
        exact a
set_option maxHeartbeats 4000000 in
set_option maxRecDepth 100000 in
theorem fr_X9_mostOf (a0 : Int32) (S : z_Stt) {v : Int32} {S' : z_Stt} (h : f_X9_mostOf a0 S = some (v, S')) : agM S S' := by
  have a := agM.rfl S
  unfold f_X9_mostOf at h
  rcases Classical.em (a0 < 0) with c1 | c1
  · have h := g_t c1 h
    obtain ⟨rfl, rfl⟩ := g_some h
    exact a
  · have h := g_f c1 h
    rcases Classical.em (10 ≤ a0) with c2 | c2
    · have h := g_t c2 h
      obtain ⟨rfl, rfl⟩ := g_some h
      exact a
    · have h := g_f c2 h
      obtain ⟨c3, h⟩ := g_if h
      obtain ⟨rfl, rfl⟩ := g_some h
      exact a
set_option maxHeartbeats 4000000 in
set_option maxRecDepth 100000 in
theorem fr_X9_at (a0 : Int32) (S : z_Stt) {v : Int32} {S' : z_Stt} (h : f_X9_at a0 S = some (v, S')) : agM S S' := by
  have a := agM.rfl S
  unfold f_X9_at at h
  rcases Classical.em (a0 < 0) with c1 | c1
  · have h := g_t c1 h
    obtain ⟨rfl, rfl⟩ := g_some h
    exact a
  · have h := g_f c1 h
    rcases Classical.em (75 ≤ a0) with c2 | c2
    · have h := g_t c2 h
      obtain ⟨rfl, rfl⟩ := g_some h
      exact a
    · have h := g_f c2 h
      obtain ⟨c3, h⟩ := g_if h
      obtain ⟨rfl, rfl⟩ := g_some h
      exact a
set_option maxHeartbeats 4000000 in
set_option maxRecDepth 100000 in
theorem fr_X9_become (a0 : Int32) (a1 : Int32) (S : z_Stt) {v : Unit} {S' : z_Stt} (h : f_X9_become a0 a1 S = some (v, S')) : agM S S' := by
  have a := agM.rfl S
  unfold f_X9_become at h
  rcases Classical.em (a0 < 0) with c1 | c1
  · have h := g_t c1 h
    obtain ⟨rfl, rfl⟩ := g_some h
    exact a
  · have h := g_f c1 h
    rcases Classical.em (75 ≤ a0) with c2 | c2
    · have h := g_t c2 h
      obtain ⟨rfl, rfl⟩ := g_some h
      exact a
    · have h := g_f c2 h
      obtain ⟨c3, h⟩ := g_if h
      obtain ⟨S4, e5, h⟩ := g_let_ex h
      have a := a.lsA e5 (by omega)
      obtain ⟨rfl, rfl⟩ := g_some h
      exact a
set_option maxHeartbeats 4000000 in
set_option maxRecDepth 100000 in
theorem fr_X9_ofThing (a0 : Int32) (a1 : Int32) (S : z_Stt) {v : Int32} {S' : z_Stt} (h : f_X9_ofThing a0 a1 S = some (v, S')) : agM S S' := by
  have a := agM.rfl S
  unfold f_X9_ofThing at h
  rcases Classical.em (a1 < 0) with c1 | c1
  · have h := g_t c1 h
    obtain ⟨rfl, rfl⟩ := g_some h
    exact a
  · have h := g_f c1 h
    rcases Classical.em (S.1 101 ≤ a1) with c2 | c2
    · have h := g_t c2 h
      obtain ⟨rfl, rfl⟩ := g_some h
      exact a
    · have h := g_f c2 h
      obtain ⟨v3, S4, e5, h⟩ := g_bd_ex h
      have a := a.trans (fr_X9_at ((6 * a0) + a1) _ e5)
      obtain ⟨rfl, rfl⟩ := g_some h
      exact a
set_option maxHeartbeats 4000000 in
set_option maxRecDepth 100000 in
theorem fr_X9_price (S : z_Stt) {v : Int32} {S' : z_Stt} (h : f_X9_price S = some (v, S')) : agM S S' := by
  have a := agM.rfl S
  unfold f_X9_price at h
  obtain ⟨c1, h⟩ := g_if h
  obtain ⟨rfl, rfl⟩ := g_some h
  exact a
set_option maxHeartbeats 4000000 in
set_option maxRecDepth 100000 in
theorem fr_X9_look (S : z_Stt) {v : Int32} {S' : z_Stt} (h : f_X9_look S = some (v, S')) : agM S S' := by
  have a := agM.rfl S
  unfold f_X9_look at h
  obtain ⟨c1, h⟩ := g_if h
  obtain ⟨rfl, rfl⟩ := g_some h
  exact a
set_option maxHeartbeats 4000000 in
set_option maxRecDepth 100000 in
theorem fr_X9_ring (S : z_Stt) {v : Int32} {S' : z_Stt} (h : f_X9_ring S = some (v, S')) : agM S S' := by
  have a := agM.rfl S
  unfold f_X9_ring at h
  obtain ⟨c1, h⟩ := g_if h
  obtain ⟨rfl, rfl⟩ := g_some h
  exact a
set_option maxHeartbeats 4000000 in
set_option maxRecDepth 100000 in
theorem fr_X9_yards (a0 : Int32) (a1 : Int32) (S : z_Stt) {v : Int32} {S' : z_Stt} (h : f_X9_yards a0 a1 S = some (v, S')) : agM S S' := by
  have a := agM.rfl S
  unfold f_X9_yards at h
  rcases g_nem (a0 = a1) with c1 | c1
  · have h := g_f c1 h
    obtain ⟨v2, S3, e4, h⟩ := g_bd_ex h
    have a := a.trans (fr_X9_between a0 a1 _ e4)
    obtain ⟨v5, S6, e7, h⟩ := g_bd_ex h
    have a := a.trans (fr_X9_at v2 _ e7)
    obtain ⟨rfl, rfl⟩ := g_some h
    exact a
  · have h := g_t c1 h
    obtain ⟨rfl, rfl⟩ := g_some h
    exact a
set_option maxHeartbeats 4000000 in
set_option maxRecDepth 100000 in
theorem fr_J6_bitCount_0f7a4 (a0 : Int32) (S : z_Stt) {v : Int32} {S' : z_Stt} (h : f_J6_bitCount_0f7a4 a0 S = some (v, S')) : agM S S' := by
  have a := agM.rfl S
  unfold f_J6_bitCount_0f7a4 at h
  obtain ⟨rfl, rfl⟩ := g_some h
  exact a
set_option maxHeartbeats 4000000 in
set_option maxRecDepth 100000 in
theorem fr_X0_dropOldest_2 (n : Nat) {v : Unit} {S' : z_Stt} : ∀ (m : Nat) (x1 : Int32) (S : z_Stt) (h : f_X0_dropOldest_2 n m x1 S = some (v, S')), agM S S' := by
  intro m
  induction m with
  | zero => intro x1 S h; simp [f_X0_dropOldest_2] at h
  | succ m ih =>
    intro x1 S h
    have a := agM.rfl S
    rw [f_X0_dropOldest_2] at h
    rcases Classical.em (40 ≤ x1) with c1 | c1
    · have h := g_t c1 h
      obtain ⟨S2, e3, h⟩ := g_let_ex h
      have a := a.lsI e3 (by omega)
      obtain ⟨rfl, rfl⟩ := g_some h
      exact a
    · have h := g_f c1 h
      obtain ⟨c4, h⟩ := g_if h
      obtain ⟨c5, h⟩ := g_if h
      obtain ⟨S6, e7, h⟩ := g_let_ex h
      have a := a.lsA e7 (by omega)
      obtain ⟨c8, h⟩ := g_if h
      obtain ⟨c9, h⟩ := g_if h
      obtain ⟨S10, e11, h⟩ := g_let_ex h
      have a := a.lsA e11 (by omega)
      obtain ⟨c12, h⟩ := g_if h
      obtain ⟨c13, h⟩ := g_if h
      obtain ⟨S14, e15, h⟩ := g_let_ex h
      have a := a.lsA e15 (by omega)
      exact a.trans (ih (x1 + 1) S14 h)
set_option maxHeartbeats 4000000 in
set_option maxRecDepth 100000 in
theorem fr_X0_dropOldest {n : Nat} (S : z_Stt) {v : Unit} {S' : z_Stt} (h : f_X0_dropOldest n S = some (v, S')) : agM S S' := by
  have a := agM.rfl S
  unfold f_X0_dropOldest at h
  exact a.trans (fr_X0_dropOldest_2 n n 1 S h)
set_option maxHeartbeats 4000000 in
set_option maxRecDepth 100000 in
theorem fr_X0_add_13 (n : Nat) {v : Unit} {S' : z_Stt} (x1 : Int32) (x2 : Int32) (x3 : Int32) (S : z_Stt) (h : f_X0_add_13 n x1 x2 x3 S = some (v, S')) : agM S S' := by
  have a := agM.rfl S
  unfold f_X0_add_13 at h
  obtain ⟨c1, h⟩ := g_if h
  obtain ⟨S2, e3, h⟩ := g_let_ex h
  have a := a.lsA e3 (by omega)
  obtain ⟨c4, h⟩ := g_if h
  obtain ⟨S5, e6, h⟩ := g_let_ex h
  have a := a.lsA e6 (by omega)
  obtain ⟨c7, h⟩ := g_if h
  obtain ⟨S8, e9, h⟩ := g_let_ex h
  have a := a.lsA e9 (by omega)
  obtain ⟨S10, e11, h⟩ := g_let_ex h
  have a := a.lsI e11 (by omega)
  obtain ⟨S12, e13, h⟩ := g_let_ex h
  have a := a.lsI e13 (by omega)
  obtain ⟨rfl, rfl⟩ := g_some h
  exact a
set_option maxHeartbeats 4000000 in
set_option maxRecDepth 100000 in
theorem fr_X0_add {n : Nat} (a0 : Int32) (a1 : Int32) (a2 : Int32) (S : z_Stt) {v : Unit} {S' : z_Stt} (h : f_X0_add n a0 a1 a2 S = some (v, S')) : agM S S' := by
  have a := agM.rfl S
  unfold f_X0_add at h
  rcases Classical.em (S.1 304 < 40) with c1 | c1
  · have h := g_t c1 h
    exact a.trans (fr_X0_add_13 n a0 a1 a2 S h)
  · have h := g_f c1 h
    obtain ⟨v2, S3, e4, h⟩ := g_bd_ex h
    have a := a.trans (fr_X0_dropOldest  _ e4)
    exact a.trans (fr_X0_add_13 n a0 a1 a2 S3 h)
set_option maxHeartbeats 4000000 in
set_option maxRecDepth 100000 in
theorem fr_X0_takeBack (S : z_Stt) {v : Unit} {S' : z_Stt} (h : f_X0_takeBack S = some (v, S')) : agM S S' := by
  have a := agM.rfl S
  unfold f_X0_takeBack at h
  rcases Classical.em (S.1 304 ≤ 0) with c1 | c1
  · have h := g_t c1 h
    obtain ⟨rfl, rfl⟩ := g_some h
    exact a
  · have h := g_f c1 h
    obtain ⟨S2, e3, h⟩ := g_let_ex h
    have a := a.lsI e3 (by omega)
    obtain ⟨c4, h⟩ := g_if h
    obtain ⟨c5, h⟩ := g_if h
    obtain ⟨v6, S7, e8, h⟩ := g_bd_ex h
    have a := a.trans (fr_X9_become (S2.2.2.1 4 (S2.1 304).toNatClampNeg) (S2.2.2.1 5 (S2.1 304).toNatClampNeg) _ e8)
    obtain ⟨rfl, rfl⟩ := g_some h
    exact a
set_option maxHeartbeats 4000000 in
set_option maxRecDepth 100000 in
theorem fr_X0_doAgain (S : z_Stt) {v : Unit} {S' : z_Stt} (h : f_X0_doAgain S = some (v, S')) : agM S S' := by
  have a := agM.rfl S
  unfold f_X0_doAgain at h
  rcases Classical.em (S.1 303 ≤ S.1 304) with c1 | c1
  · have h := g_t c1 h
    obtain ⟨rfl, rfl⟩ := g_some h
    exact a
  · have h := g_f c1 h
    obtain ⟨c2, h⟩ := g_if h
    obtain ⟨c3, h⟩ := g_if h
    obtain ⟨v4, S5, e6, h⟩ := g_bd_ex h
    have a := a.trans (fr_X9_become (S.2.2.1 4 (S.1 304).toNatClampNeg) (S.2.2.1 6 (S.1 304).toNatClampNeg) _ e6)
    obtain ⟨S7, e8, h⟩ := g_let_ex h
    have a := a.lsI e8 (by omega)
    obtain ⟨rfl, rfl⟩ := g_some h
    exact a
set_option maxHeartbeats 4000000 in
set_option maxRecDepth 100000 in
theorem fr_X1_use (o : Nat) (a0 : Int32) (S : z_Stt) {v : Unit} {S' : z_Stt} (uo : o + 2 < 48) (h : f_X1_use o a0 S = some (v, S')) : agM S S' := by
  have a := agM.rfl S
  unfold f_X1_use at h
  rcases Classical.em (a0 < 0) with c1 | c1
  · have h := g_t c1 h
    obtain ⟨rfl, rfl⟩ := g_some h
    exact a
  · have h := g_f c1 h
    rcases Classical.em (6 ≤ a0) with c2 | c2
    · have h := g_t c2 h
      obtain ⟨rfl, rfl⟩ := g_some h
      exact a
    · have h := g_f c2 h
      obtain ⟨c3, h⟩ := g_if h
      obtain ⟨c4, h⟩ := g_if h
      obtain ⟨S5, e6, h⟩ := g_let_ex h
      have a := a.lsA e6 (by omega)
      obtain ⟨S7, e8, h⟩ := g_let_ex h
      have a := a.lsI e8 (by omega)
      obtain ⟨rfl, rfl⟩ := g_some h
      exact a
set_option maxHeartbeats 4000000 in
set_option maxRecDepth 100000 in
theorem fr_X1_end_86 {v : Unit} {S' : z_Stt} (x0 : Nat) (S : z_Stt) (ux0 : x0 + 2 < 48) (h : f_X1_end_86 x0 S = some (v, S')) : agM S S' := by
  have a := agM.rfl S
  unfold f_X1_end_86 at h
  obtain ⟨S1, e2, h⟩ := g_let_ex h
  have a := a.lsI e2 (by omega)
  obtain ⟨rfl, rfl⟩ := g_some h
  exact a
set_option maxHeartbeats 4000000 in
set_option maxRecDepth 100000 in
theorem fr_X1_end_50 {v : Unit} {S' : z_Stt} (x0 : Nat) (x2 : Int32) (S : z_Stt) (ux0 : x0 + 2 < 48) (h : f_X1_end_50 x0 x2 S = some (v, S')) : agM S S' := by
  have a := agM.rfl S
  unfold f_X1_end_50 at h
  rcases Classical.em (x2 = 0) with c1 | c1
  · have h := g_t c1 h
    exact a.trans (fr_X1_end_86 x0 S ux0 h)
  · have h := g_f c1 h
    rcases g_nem (S.1 (100 * x0 + 6) = 0) with c2 | c2
    · have h := g_f c2 h
      exact a.trans (fr_X1_end_86 x0 S ux0 h)
    · have h := g_t c2 h
      obtain ⟨c3, h⟩ := g_if h
      obtain ⟨c4, h⟩ := g_if h
      obtain ⟨S5, e6, h⟩ := g_let_ex h
      have a := a.lsA e6 (by omega)
      obtain ⟨S7, e8, h⟩ := g_let_ex h
      have a := a.lsI e8 (by omega)
      exact a.trans (fr_X1_end_86 x0 S7 ux0 h)
set_option maxHeartbeats 4000000 in
set_option maxRecDepth 100000 in
theorem fr_X1_end (o : Nat) (a0 : Int32) (a1 : Int32) (S : z_Stt) {v : Unit} {S' : z_Stt} (uo : o + 2 < 48) (h : f_X1_end o a0 a1 S = some (v, S')) : agM S S' := by
  have a := agM.rfl S
  unfold f_X1_end at h
  obtain ⟨c1, h⟩ := g_if h
  obtain ⟨c2, h⟩ := g_if h
  obtain ⟨S3, e4, h⟩ := g_let_ex h
  have a := a.lsA e4 (by omega)
  obtain ⟨c5, h⟩ := g_if h
  obtain ⟨c6, h⟩ := g_if h
  obtain ⟨S7, e8, h⟩ := g_let_ex h
  have a := a.lsA e8 (by omega)
  obtain ⟨c9, h⟩ := g_if h
  obtain ⟨c10, h⟩ := g_if h
  obtain ⟨S11, e12, h⟩ := g_let_ex h
  have a := a.lsA e12 (by omega)
  rcases Classical.em (a1 = 0) with c13 | c13
  · have h := g_t c13 h
    exact a.trans (fr_X1_end_50 o a1 S11 uo h)
  · have h := g_f c13 h
    obtain ⟨c14, h⟩ := g_if h
    obtain ⟨c15, h⟩ := g_if h
    obtain ⟨S16, e17, h⟩ := g_let_ex h
    have a := a.lsA e17 (by omega)
    exact a.trans (fr_X1_end_50 o a1 S16 uo h)
set_option maxHeartbeats 4000000 in
set_option maxRecDepth 100000 in
theorem fr_X1_rest_43 (n : Nat) {v : Int32} {S' : z_Stt} (k4 : Nat → Int32 → Int32 → z_Stt → Option (Int32 × z_Stt)) (hk4 : ∀ (x0 : Nat) (x1 : Int32) (x2 : Int32) (S : z_Stt) (ux0 : x0 + 2 < 48), k4 x0 x1 x2 S = some (v, S') → agM S S') (x0 : Nat) (x1 : Int32) (x2 : Int32) (S : z_Stt) (ux0 : x0 + 2 < 48) (h : f_X1_rest_43 n k4 x0 x1 x2 S = some (v, S')) : agM S S' := by
  have a := agM.rfl S
  unfold f_X1_rest_43 at h
  exact a.trans (hk4 x0 x1 (x2 + 1) S ux0 h)
set_option maxHeartbeats 4000000 in
set_option maxRecDepth 100000 in
theorem fr_X1_rest_4 (n : Nat) {v : Int32} {S' : z_Stt} : ∀ (m : Nat) (x0 : Nat) (x1 : Int32) (x2 : Int32) (S : z_Stt) (ux0 : x0 + 2 < 48) (h : f_X1_rest_4 n m x0 x1 x2 S = some (v, S')), agM S S' := by
  intro m
  induction m with
  | zero => intro x0 x1 x2 S ux0 h; simp [f_X1_rest_4] at h
  | succ m ih =>
    intro x0 x1 x2 S ux0 h
    have a := agM.rfl S
    rw [f_X1_rest_4] at h
    rcases Classical.em (6 ≤ x2) with c1 | c1
    · have h := g_t c1 h
      obtain ⟨S2, e3, h⟩ := g_let_ex h
      have a := a.lsI e3 (by omega)
      obtain ⟨rfl, rfl⟩ := g_some h
      exact a
    · have h := g_f c1 h
      rcases g_nem (((S.1 (100 * x0 + 1)) >>> (x2 &&& 31)) &&& 1 = 0) with c4 | c4
      · have h := g_f c4 h
        exact a.trans (fr_X1_rest_43 n (f_X1_rest_4 n m) ih x0 x1 x2 S ux0 h)
      · have h := g_t c4 h
        obtain ⟨c5, h⟩ := g_if h
        rcases Classical.em (S.2.2.1 (x0 + 1) x2.toNatClampNeg ≤ 0) with c6 | c6
        · have h := g_t c6 h
          exact a.trans (fr_X1_rest_43 n (f_X1_rest_4 n m) ih x0 x1 x2 S ux0 h)
        · have h := g_f c6 h
          obtain ⟨c7, h⟩ := g_if h
          obtain ⟨c8, h⟩ := g_if h
          obtain ⟨S9, e10, h⟩ := g_let_ex h
          have a := a.lsA e10 (by omega)
          exact a.trans (fr_X1_rest_43 n (f_X1_rest_4 n m) ih x0 (x1 + 1) x2 S9 ux0 h)
set_option maxHeartbeats 4000000 in
set_option maxRecDepth 100000 in
theorem fr_X1_rest {n : Nat} (o : Nat) (S : z_Stt) {v : Int32} {S' : z_Stt} (uo : o + 2 < 48) (h : f_X1_rest n o S = some (v, S')) : agM S S' := by
  have a := agM.rfl S
  unfold f_X1_rest at h
  exact a.trans (fr_X1_rest_4 n n o 0 0 S uo h)
set_option maxHeartbeats 4000000 in
set_option maxRecDepth 100000 in
theorem fr_X1_copy_28 (n : Nat) {v : Unit} {S' : z_Stt} : ∀ (m : Nat) (x0 : Nat) (x1 : Nat) (x2 : Int32) (S : z_Stt) (ux0 : x0 + 2 < 48) (ux1 : x1 + 2 < 48) (h : f_X1_copy_28 n m x0 x1 x2 S = some (v, S')), agM S S' := by
  intro m
  induction m with
  | zero => intro x0 x1 x2 S ux0 ux1 h; simp [f_X1_copy_28] at h
  | succ m ih =>
    intro x0 x1 x2 S ux0 ux1 h
    have a := agM.rfl S
    rw [f_X1_copy_28] at h
    rcases Classical.em (5 ≤ x2) with c1 | c1
    · have h := g_t c1 h
      obtain ⟨S2, e3, h⟩ := g_let_ex h
      have a := a.lsI e3 (by omega)
      obtain ⟨S4, e5, h⟩ := g_let_ex h
      have a := a.lsI e5 (by omega)
      obtain ⟨S6, e7, h⟩ := g_let_ex h
      have a := a.lsI e7 (by omega)
      obtain ⟨S8, e9, h⟩ := g_let_ex h
      have a := a.lsI e9 (by omega)
      obtain ⟨c10, h⟩ := g_if h
      obtain ⟨S11, e12, h⟩ := g_let_ex h
      have a := a.lsI e12 (by omega)
      obtain ⟨rfl, rfl⟩ := g_some h
      exact a
    · have h := g_f c1 h
      obtain ⟨c13, h⟩ := g_if h
      obtain ⟨c14, h⟩ := g_if h
      obtain ⟨S15, e16, h⟩ := g_let_ex h
      have a := a.lsA e16 (by omega)
      exact a.trans (ih x0 x1 (x2 + 1) S15 ux0 ux1 h)
set_option maxHeartbeats 4000000 in
set_option maxRecDepth 100000 in
theorem fr_X1_copy_2 (n : Nat) {v : Unit} {S' : z_Stt} : ∀ (m : Nat) (x0 : Nat) (x1 : Nat) (x2 : Int32) (S : z_Stt) (ux0 : x0 + 2 < 48) (ux1 : x1 + 2 < 48) (h : f_X1_copy_2 n m x0 x1 x2 S = some (v, S')), agM S S' := by
  intro m
  induction m with
  | zero => intro x0 x1 x2 S ux0 ux1 h; simp [f_X1_copy_2] at h
  | succ m ih =>
    intro x0 x1 x2 S ux0 ux1 h
    have a := agM.rfl S
    rw [f_X1_copy_2] at h
    rcases Classical.em (6 ≤ x2) with c1 | c1
    · have h := g_t c1 h
      exact a.trans (fr_X1_copy_28 n n x0 x1 0 S ux0 ux1 h)
    · have h := g_f c1 h
      obtain ⟨c2, h⟩ := g_if h
      obtain ⟨c3, h⟩ := g_if h
      obtain ⟨S4, e5, h⟩ := g_let_ex h
      have a := a.lsA e5 (by omega)
      exact a.trans (ih x0 x1 (x2 + 1) S4 ux0 ux1 h)
set_option maxHeartbeats 4000000 in
set_option maxRecDepth 100000 in
theorem fr_X1_copy {n : Nat} (o : Nat) (a0 : Nat) (S : z_Stt) {v : Unit} {S' : z_Stt} (uo : o + 2 < 48) (ua0 : a0 + 2 < 48) (h : f_X1_copy n o a0 S = some (v, S')) : agM S S' := by
  have a := agM.rfl S
  unfold f_X1_copy at h
  exact a.trans (fr_X1_copy_2 n n o a0 0 S uo ua0 h)
set_option maxHeartbeats 4000000 in
set_option maxRecDepth 100000 in
theorem fr_X3_draw (a0 : Int32) (S : z_Stt) {v : Int32} {S' : z_Stt} (h : f_X3_draw a0 S = some (v, S')) : agM S S' := by
  have a := agM.rfl S
  unfold f_X3_draw at h
  obtain ⟨S1, e2, h⟩ := g_let_ex h
  have a := a.lsI e2 (by omega)
  rcases Classical.em (a0 ≤ 0) with c3 | c3
  · have h := g_t c3 h
    obtain ⟨rfl, rfl⟩ := g_some h
    exact a
  · have h := g_f c3 h
    obtain ⟨c4, h⟩ := g_if h
    obtain ⟨rfl, rfl⟩ := g_some h
    exact a
set_option maxHeartbeats 4000000 in
set_option maxRecDepth 100000 in
theorem fr_X3_drawMorning_47 {v : Unit} {S' : z_Stt} (y0 : Int32) (S : z_Stt) (h : f_X3_drawMorning_47 y0 S = some (v, S')) : agM S S' := by
  have a := agM.rfl S
  unfold f_X3_drawMorning_47 at h
  obtain ⟨c1, h⟩ := g_if h
  obtain ⟨S2, e3, h⟩ := g_let_ex h
  have a := a.lsI e3 (by omega)
  obtain ⟨rfl, rfl⟩ := g_some h
  exact a
set_option maxHeartbeats 4000000 in
set_option maxRecDepth 100000 in
theorem fr_X3_drawMorning_39 {v : Unit} {S' : z_Stt} (y0 : Int32) (y1 : Int32) (S : z_Stt) (h : f_X3_drawMorning_39 y0 y1 S = some (v, S')) : agM S S' := by
  have a := agM.rfl S
  unfold f_X3_drawMorning_39 at h
  rcases Classical.em (y0 ≤ y1) with c1 | c1
  · have h := g_t c1 h
    exact a.trans (fr_X3_drawMorning_47 0 S h)
  · have h := g_f c1 h
    exact a.trans (fr_X3_drawMorning_47 1 S h)
set_option maxHeartbeats 4000000 in
set_option maxRecDepth 100000 in
theorem fr_X3_drawMorning_17 {v : Unit} {S' : z_Stt} (x2 : Int32) (x3 : Int32) (y0 : Int32) (S : z_Stt) (h : f_X3_drawMorning_17 x2 x3 y0 S = some (v, S')) : agM S S' := by
  have a := agM.rfl S
  unfold f_X3_drawMorning_17 at h
  obtain ⟨c1, h⟩ := g_if h
  obtain ⟨S2, e3, h⟩ := g_let_ex h
  have a := a.lsI e3 (by omega)
  obtain ⟨v4, S5, e6, h⟩ := g_bd_ex h
  have a := a.trans (fr_X3_draw 12 _ e6)
  rcases Classical.em (S5.1 3101 = 0) with c7 | c7
  · have h := g_t c7 h
    exact a.trans (fr_X3_drawMorning_39 x2 v4 S5 h)
  · have h := g_f c7 h
    exact a.trans (fr_X3_drawMorning_39 x3 v4 S5 h)
set_option maxHeartbeats 4000000 in
set_option maxRecDepth 100000 in
theorem fr_X3_drawMorning (a0 : Int32) (a1 : Int32) (a2 : Int32) (S : z_Stt) {v : Unit} {S' : z_Stt} (h : f_X3_drawMorning a0 a1 a2 S = some (v, S')) : agM S S' := by
  have a := agM.rfl S
  unfold f_X3_drawMorning at h
  obtain ⟨v1, S2, e3, h⟩ := g_bd_ex h
  have a := a.trans (fr_X3_draw 144 _ e3)
  rcases Classical.em (a0 ≤ v1) with c4 | c4
  · have h := g_t c4 h
    exact a.trans (fr_X3_drawMorning_17 a1 a2 0 S2 h)
  · have h := g_f c4 h
    exact a.trans (fr_X3_drawMorning_17 a1 a2 1 S2 h)
set_option maxHeartbeats 4000000 in
set_option maxRecDepth 100000 in
theorem fr_X4_commonDivisor_3 (n : Nat) {v : Int64} {S' : z_Stt} : ∀ (m : Nat) (x0 : Int64) (x2 : Int64) (x4 : Int32) (S : z_Stt) (h : f_X4_commonDivisor_3 n m x0 x2 x4 S = some (v, S')), agM S S' := by
  intro m
  induction m with
  | zero => intro x0 x2 x4 S h; simp [f_X4_commonDivisor_3] at h
  | succ m ih =>
    intro x0 x2 x4 S h
    have a := agM.rfl S
    rw [f_X4_commonDivisor_3] at h
    rcases Classical.em (100 ≤ x4) with c1 | c1
    · have h := g_t c1 h
      obtain ⟨rfl, rfl⟩ := g_some h
      exact a
    · have h := g_f c1 h
      rcases Classical.em (lg_cmp x2 0 = 0) with c2 | c2
      · have h := g_t c2 h
        obtain ⟨rfl, rfl⟩ := g_some h
        exact a
      · have h := g_f c2 h
        obtain ⟨c3, h⟩ := g_if h
        exact a.trans (ih x2 (x0 % x2) (x4 + 1) S h)
set_option maxHeartbeats 4000000 in
set_option maxRecDepth 100000 in
theorem fr_X4_commonDivisor {n : Nat} (a0 : Int64) (a1 : Int64) (S : z_Stt) {v : Int64} {S' : z_Stt} (h : f_X4_commonDivisor n a0 a1 S = some (v, S')) : agM S S' := by
  have a := agM.rfl S
  unfold f_X4_commonDivisor at h
  exact a.trans (fr_X4_commonDivisor_3 n n a0 a1 0 S h)
set_option maxHeartbeats 4000000 in
set_option maxRecDepth 100000 in
theorem fr_X4_become_38 (n : Nat) {v : Bool} {S' : z_Stt} (x0 : Nat) (x1 : Int64) (x3 : Int64) (x5 : Int64) (S : z_Stt) (ux0 : x0 + 1 < 48) (h : f_X4_become_38 n x0 x1 x3 x5 S = some (v, S')) : agM S S' := by
  have a := agM.rfl S
  unfold f_X4_become_38 at h
  obtain ⟨c1, h⟩ := g_if h
  obtain ⟨S2, e3, h⟩ := g_let_ex h
  have a := a.lsJ e3 (by omega)
  obtain ⟨c4, h⟩ := g_if h
  obtain ⟨S5, e6, h⟩ := g_let_ex h
  have a := a.lsJ e6 (by omega)
  obtain ⟨rfl, rfl⟩ := g_some h
  exact a
set_option maxHeartbeats 4000000 in
set_option maxRecDepth 100000 in
theorem fr_X4_become {n : Nat} (o : Nat) (a0 : Int64) (a1 : Int64) (S : z_Stt) {v : Bool} {S' : z_Stt} (uo : o + 1 < 48) (h : f_X4_become n o a0 a1 S = some (v, S')) : agM S S' := by
  have a := agM.rfl S
  unfold f_X4_become at h
  rcases Classical.em (0 < lg_cmp a1 0) with c1 | c1
  · have h := g_t c1 h
    obtain ⟨v2, S3, e4, h⟩ := g_bd_ex h
    have a := a.trans (fr_X4_commonDivisor (if 0 < a0 then a0 else -a0) a1 _ e4)
    rcases Classical.em (0 < lg_cmp v2 0) with c5 | c5
    · have h := g_t c5 h
      exact a.trans (fr_X4_become_38 n o a0 a1 v2 S3 uo h)
    · have h := g_f c5 h
      exact a.trans (fr_X4_become_38 n o a0 a1 1 S3 uo h)
  · have h := g_f c1 h
    obtain ⟨S6, e7, h⟩ := g_let_ex h
    have a := a.lsJ e7 (by omega)
    obtain ⟨S8, e9, h⟩ := g_let_ex h
    have a := a.lsJ e9 (by omega)
    obtain ⟨rfl, rfl⟩ := g_some h
    exact a
set_option maxHeartbeats 4000000 in
set_option maxRecDepth 100000 in
theorem fr_X4_part (o : Nat) (a0 : Int32) (S : z_Stt) {v : Int64} {S' : z_Stt} (uo : o + 1 < 48) (h : f_X4_part o a0 S = some (v, S')) : agM S S' := by
  have a := agM.rfl S
  unfold f_X4_part at h
  rcases g_nem (a0 = 0) with c1 | c1
  · have h := g_f c1 h
    obtain ⟨rfl, rfl⟩ := g_some h
    exact a
  · have h := g_t c1 h
    obtain ⟨rfl, rfl⟩ := g_some h
    exact a
set_option maxHeartbeats 4000000 in
set_option maxRecDepth 100000 in
theorem fr_X4_of144 (o : Nat) (S : z_Stt) {v : Int32} {S' : z_Stt} (uo : o + 1 < 48) (h : f_X4_of144 o S = some (v, S')) : agM S S' := by
  have a := agM.rfl S
  unfold f_X4_of144 at h
  rcases Classical.em (lg_cmp (S.2.1 (100 * o + 1)) 0 ≤ 0) with c1 | c1
  · have h := g_t c1 h
    obtain ⟨rfl, rfl⟩ := g_some h
    exact a
  · have h := g_f c1 h
    obtain ⟨c2, h⟩ := g_if h
    obtain ⟨rfl, rfl⟩ := g_some h
    exact a
set_option maxHeartbeats 4000000 in
set_option maxRecDepth 100000 in
theorem fr_X8_holdGoer_10 {v : Unit} {S' : z_Stt} (x0 : Nat) (x1 : Int32) (y0 : Int32) (y1 : Nat) (S : z_Stt) (ux0 : x0 + 1 < 48) (uy1 : y1 + 1 < 48) (h : f_X8_holdGoer_10 x0 x1 y0 y1 S = some (v, S')) : agM S S' := by
  have a := agM.rfl S
  unfold f_X8_holdGoer_10 at h
  obtain ⟨S1, e2, h⟩ := g_let_ex h
  have a := a.lsI e2 (by omega)
  obtain ⟨S3, e4, h⟩ := g_let_ex h
  have a := a.lsI e4 (by omega)
  obtain ⟨rfl, rfl⟩ := g_some h
  exact a
set_option maxHeartbeats 4000000 in
set_option maxRecDepth 100000 in
theorem fr_X8_holdGoer (o : Nat) (a0 : Int32) (S : z_Stt) {v : Unit} {S' : z_Stt} (uo : o + 1 < 48) (h : f_X8_holdGoer o a0 S = some (v, S')) : agM S S' := by
  have a := agM.rfl S
  unfold f_X8_holdGoer at h
  rcases Classical.em (0 ≤ a0) with c1 | c1
  · have h := g_t c1 h
    exact a.trans (fr_X8_holdGoer_10 o a0 1 o S uo uo h)
  · have h := g_f c1 h
    exact a.trans (fr_X8_holdGoer_10 o a0 0 o S uo uo h)
set_option maxHeartbeats 4000000 in
set_option maxRecDepth 100000 in
theorem fr_X8_holdRow_31 (n : Nat) {v : Unit} {S' : z_Stt} : ∀ (m : Nat) (x0 : Nat) (x3 : Int32) (S : z_Stt) (ux0 : x0 + 1 < 48) (h : f_X8_holdRow_31 n m x0 x3 S = some (v, S')), agM S S' := by
  intro m
  induction m with
  | zero => intro x0 x3 S ux0 h; simp [f_X8_holdRow_31] at h
  | succ m ih =>
    intro x0 x3 S ux0 h
    have a := agM.rfl S
    rw [f_X8_holdRow_31] at h
    rcases Classical.em (60 ≤ x3) with c1 | c1
    · have h := g_t c1 h
      obtain ⟨rfl, rfl⟩ := g_some h
      exact a
    · have h := g_f c1 h
      obtain ⟨c2, h⟩ := g_if h
      obtain ⟨S3, e4, h⟩ := g_let_ex h
      have a := a.lsE e4 (by omega)
      exact a.trans (ih x0 (x3 + 1) S3 ux0 h)
set_option maxHeartbeats 4000000 in
set_option maxRecDepth 100000 in
theorem fr_X8_holdRow_26 (n : Nat) {v : Unit} {S' : z_Stt} (x0 : Nat) (y0 : Int32) (y1 : Nat) (S : z_Stt) (ux0 : x0 + 1 < 48) (uy1 : y1 + 1 < 48) (h : f_X8_holdRow_26 n x0 y0 y1 S = some (v, S')) : agM S S' := by
  have a := agM.rfl S
  unfold f_X8_holdRow_26 at h
  obtain ⟨S1, e2, h⟩ := g_let_ex h
  have a := a.lsI e2 (by omega)
  exact a.trans (fr_X8_holdRow_31 n n x0 0 S1 ux0 h)
set_option maxHeartbeats 4000000 in
set_option maxRecDepth 100000 in
theorem fr_X8_holdRow_25 (n : Nat) {v : Unit} {S' : z_Stt} (x0 : Nat) (y0 : Nat) (S : z_Stt) (ux0 : x0 + 1 < 48) (uy0 : y0 + 1 < 48) (h : f_X8_holdRow_25 n x0 y0 S = some (v, S')) : agM S S' := by
  have a := agM.rfl S
  unfold f_X8_holdRow_25 at h
  exact a.trans (fr_X8_holdRow_26 n x0 0 y0 S ux0 uy0 h)
set_option maxHeartbeats 4000000 in
set_option maxRecDepth 100000 in
theorem fr_X8_holdRow {n : Nat} (o : Nat) (a0 : Int32) (a1 : Int32) (S : z_Stt) {v : Unit} {S' : z_Stt} (uo : o + 1 < 48) (h : f_X8_holdRow n o a0 a1 S = some (v, S')) : agM S S' := by
  have a := agM.rfl S
  unfold f_X8_holdRow at h
  obtain ⟨S1, e2, h⟩ := g_let_ex h
  have a := a.lsI e2 (by omega)
  obtain ⟨S3, e4, h⟩ := g_let_ex h
  have a := a.lsI e4 (by omega)
  rcases Classical.em (a1 < 0) with c5 | c5
  · have h := g_t c5 h
    exact a.trans (fr_X8_holdRow_25 n o o S3 uo uo h)
  · have h := g_f c5 h
    rcases Classical.em (60 < a1) with c6 | c6
    · have h := g_t c6 h
      exact a.trans (fr_X8_holdRow_25 n o o S3 uo uo h)
    · have h := g_f c6 h
      exact a.trans (fr_X8_holdRow_26 n o a1 o S3 uo uo h)
set_option maxHeartbeats 4000000 in
set_option maxRecDepth 100000 in
theorem fr_X8_isRow (o : Nat) (a0 : Int32) (S : z_Stt) {v : Bool} {S' : z_Stt} (uo : o + 1 < 48) (h : f_X8_isRow o a0 S = some (v, S')) : agM S S' := by
  have a := agM.rfl S
  unfold f_X8_isRow at h
  rcases g_nem (S.1 (100 * o + 0) = 2) with c1 | c1
  · have h := g_f c1 h
    obtain ⟨rfl, rfl⟩ := g_some h
    exact a
  · have h := g_t c1 h
    rcases g_nem (S.1 (100 * o + 2) = a0) with c2 | c2
    · have h := g_f c2 h
      obtain ⟨rfl, rfl⟩ := g_some h
      exact a
    · have h := g_t c2 h
      obtain ⟨rfl, rfl⟩ := g_some h
      exact a
set_option maxHeartbeats 4000000 in
set_option maxRecDepth 100000 in
theorem fr_X8_refusal (o : Nat) (a0 : Int32) (S : z_Stt) {v : Int32} {S' : z_Stt} (uo : o + 1 < 48) (h : f_X8_refusal o a0 S = some (v, S')) : agM S S' := by
  have a := agM.rfl S
  unfold f_X8_refusal at h
  rcases g_nem (S.1 (100 * o + 0) = 0) with c1 | c1
  · have h := g_f c1 h
    obtain ⟨v2, S3, e4, h⟩ := g_bd_ex h
    have a := a.trans (fr_X8_isRow o a0 _ uo e4)
    rcases g_bf v2 with c5 | c5
    · have h := g_f (Bool.eq_false_iff.mp c5) h
      obtain ⟨rfl, rfl⟩ := g_some h
      exact a
    · have h := g_t c5 h
      obtain ⟨rfl, rfl⟩ := g_some h
      exact a
  · have h := g_t c1 h
    obtain ⟨rfl, rfl⟩ := g_some h
    exact a
set_option maxHeartbeats 4000000 in
set_option maxRecDepth 100000 in
theorem fr_X8_hasPlaces (o : Nat) (a0 : Int32) (a1 : Int32) (S : z_Stt) {v : Bool} {S' : z_Stt} (uo : o + 1 < 48) (h : f_X8_hasPlaces o a0 a1 S = some (v, S')) : agM S S' := by
  have a := agM.rfl S
  unfold f_X8_hasPlaces at h
  rcases Classical.em (a0 < 0) with c1 | c1
  · have h := g_t c1 h
    obtain ⟨rfl, rfl⟩ := g_some h
    exact a
  · have h := g_f c1 h
    rcases Classical.em (a1 < 0) with c2 | c2
    · have h := g_t c2 h
      obtain ⟨rfl, rfl⟩ := g_some h
      exact a
    · have h := g_f c2 h
      rcases Classical.em (S.1 (100 * o + 3) < a1) with c3 | c3
      · have h := g_t c3 h
        obtain ⟨rfl, rfl⟩ := g_some h
        exact a
      · have h := g_f c3 h
        rcases Classical.em ((S.1 (100 * o + 3)) - a1 < a0) with c4 | c4
        · have h := g_t c4 h
          obtain ⟨rfl, rfl⟩ := g_some h
          exact a
        · have h := g_f c4 h
          obtain ⟨rfl, rfl⟩ := g_some h
          exact a
set_option maxHeartbeats 4000000 in
set_option maxRecDepth 100000 in
theorem fr_X8_refusalAt (o : Nat) (a0 : Int32) (S : z_Stt) {v : Int32} {S' : z_Stt} (uo : o + 1 < 48) (h : f_X8_refusalAt o a0 S = some (v, S')) : agM S S' := by
  have a := agM.rfl S
  unfold f_X8_refusalAt at h
  rcases g_nem (S.1 (100 * o + 0) = 0) with c1 | c1
  · have h := g_f c1 h
    rcases Classical.em (S.1 (100 * o + 0) = 2) with c2 | c2
    · have h := g_t c2 h
      obtain ⟨v3, S4, e5, h⟩ := g_bd_ex h
      have a := a.trans (fr_X8_hasPlaces o a0 1 _ uo e5)
      rcases g_bf v3 with c6 | c6
      · have h := g_f (Bool.eq_false_iff.mp c6) h
        obtain ⟨rfl, rfl⟩ := g_some h
        exact a
      · have h := g_t c6 h
        obtain ⟨rfl, rfl⟩ := g_some h
        exact a
    · have h := g_f c2 h
      obtain ⟨rfl, rfl⟩ := g_some h
      exact a
  · have h := g_t c1 h
    obtain ⟨rfl, rfl⟩ := g_some h
    exact a
set_option maxHeartbeats 4000000 in
set_option maxRecDepth 100000 in
theorem fr_X8_at (o : Nat) (a0 : Int32) (S : z_Stt) {v : Int64} {S' : z_Stt} (uo : o + 1 < 48) (h : f_X8_at o a0 S = some (v, S')) : agM S S' := by
  have a := agM.rfl S
  unfold f_X8_at at h
  rcases Classical.em (a0 < 0) with c1 | c1
  · have h := g_t c1 h
    obtain ⟨rfl, rfl⟩ := g_some h
    exact a
  · have h := g_f c1 h
    rcases Classical.em (60 ≤ a0) with c2 | c2
    · have h := g_t c2 h
      obtain ⟨rfl, rfl⟩ := g_some h
      exact a
    · have h := g_f c2 h
      obtain ⟨c3, h⟩ := g_if h
      obtain ⟨rfl, rfl⟩ := g_some h
      exact a
set_option maxHeartbeats 4000000 in
set_option maxRecDepth 100000 in
theorem fr_X8_lowestBits (o : Nat) (a0 : Int64) (S : z_Stt) {v : Int64} {S' : z_Stt} (uo : o + 1 < 48) (h : f_X8_lowestBits o a0 S = some (v, S')) : agM S S' := by
  have a := agM.rfl S
  unfold f_X8_lowestBits at h
  by_cases c1 : S.1 (100 * o + 2) = 0
  · have h := g_t c1 h
    obtain ⟨rfl, rfl⟩ := g_some h
    exact a
  have h := g_f c1 h
  by_cases c2 : S.1 (100 * o + 2) = 1
  · have h := g_t c2 h
    obtain ⟨rfl, rfl⟩ := g_some h
    exact a
  have h := g_f c2 h
  by_cases c3 : S.1 (100 * o + 2) = 2
  · have h := g_t c3 h
    obtain ⟨rfl, rfl⟩ := g_some h
    exact a
  have h := g_f c3 h
  by_cases c4 : S.1 (100 * o + 2) = 3
  · have h := g_t c4 h
    obtain ⟨rfl, rfl⟩ := g_some h
    exact a
  have h := g_f c4 h
  rcases Classical.em (lg_cmp a0 0 = 0) with c5 | c5
  · have h := g_t c5 h
    obtain ⟨rfl, rfl⟩ := g_some h
    exact a
  · have h := g_f c5 h
    obtain ⟨rfl, rfl⟩ := g_some h
    exact a
set_option maxHeartbeats 4000000 in
set_option maxRecDepth 100000 in
theorem fr_X8_become (o : Nat) (a0 : Int32) (a1 : Int64) (S : z_Stt) {v : Unit} {S' : z_Stt} (uo : o + 1 < 48) (h : f_X8_become o a0 a1 S = some (v, S')) : agM S S' := by
  have a := agM.rfl S
  unfold f_X8_become at h
  rcases Classical.em (a0 < 0) with c1 | c1
  · have h := g_t c1 h
    obtain ⟨rfl, rfl⟩ := g_some h
    exact a
  · have h := g_f c1 h
    rcases Classical.em (60 ≤ a0) with c2 | c2
    · have h := g_t c2 h
      obtain ⟨rfl, rfl⟩ := g_some h
      exact a
    · have h := g_f c2 h
      obtain ⟨v3, S4, e5, h⟩ := g_bd_ex h
      have a := a.trans (fr_X8_lowestBits o a1 _ uo e5)
      obtain ⟨c6, h⟩ := g_if h
      obtain ⟨S7, e8, h⟩ := g_let_ex h
      have a := a.lsE e8 (by omega)
      obtain ⟨rfl, rfl⟩ := g_some h
      exact a
set_option maxHeartbeats 4000000 in
set_option maxRecDepth 100000 in
theorem fr_X2_has (a0 : Int32) (S : z_Stt) {v : Bool} {S' : z_Stt} (h : f_X2_has a0 S = some (v, S')) : agM S S' := by
  have a := agM.rfl S
  unfold f_X2_has at h
  rcases g_nem (((S.1 1800) >>> (a0 &&& 31)) &&& 1 = 1) with c1 | c1
  · have h := g_f c1 h
    obtain ⟨rfl, rfl⟩ := g_some h
    exact a
  · have h := g_t c1 h
    obtain ⟨rfl, rfl⟩ := g_some h
    exact a
set_option maxHeartbeats 4000000 in
set_option maxRecDepth 100000 in
theorem fr_X2_chance (a0 : Int32) (a1 : Int64) (S : z_Stt) {v : Int64} {S' : z_Stt} (h : f_X2_chance a0 a1 S = some (v, S')) : agM S S' := by
  have a := agM.rfl S
  unfold f_X2_chance at h
  obtain ⟨c1, h⟩ := g_if h
  rcases Classical.em (lg_cmp (S.2.1 (100 * (22 + a0.toNatClampNeg) + 1)) 0 ≤ 0) with c2 | c2
  · have h := g_t c2 h
    obtain ⟨rfl, rfl⟩ := g_some h
    exact a
  · have h := g_f c2 h
    obtain ⟨c3, h⟩ := g_if h
    obtain ⟨c4, h⟩ := g_if h
    obtain ⟨rfl, rfl⟩ := g_some h
    exact a
set_option maxHeartbeats 4000000 in
set_option maxRecDepth 100000 in
theorem fr_X2_weigh_96 (n : Nat) {v : Unit} {S' : z_Stt} (k56 : Int32 → z_Stt → Option (Unit × z_Stt)) (hk56 : ∀ (x1 : Int32) (S : z_Stt), k56 x1 S = some (v, S') → agM S S') (x1 : Int32) (y0 : Int64) (y1 : Int32) (S : z_Stt) (h : f_X2_weigh_96 n k56 x1 y0 y1 S = some (v, S')) : agM S S' := by
  have a := agM.rfl S
  unfold f_X2_weigh_96 at h
  obtain ⟨c1, h⟩ := g_if h
  obtain ⟨S2, e3, h⟩ := g_let_ex h
  have a := a.lsE e3 (by omega)
  obtain ⟨c4, h⟩ := g_if h
  obtain ⟨S5, e6, h⟩ := g_let_ex h
  have a := a.lsJ e6 (by omega)
  exact a.trans (hk56 (x1 + 1) S5 h)
set_option maxHeartbeats 4000000 in
set_option maxRecDepth 100000 in
theorem fr_X2_weigh_56 (n : Nat) {v : Unit} {S' : z_Stt} : ∀ (m : Nat) (x1 : Int32) (S : z_Stt) (h : f_X2_weigh_56 n m x1 S = some (v, S')), agM S S' := by
  intro m
  induction m with
  | zero => intro x1 S h; simp [f_X2_weigh_56] at h
  | succ m ih =>
    intro x1 S h
    have a := agM.rfl S
    rw [f_X2_weigh_56] at h
    rcases Classical.em (6 ≤ x1) with c1 | c1
    · have h := g_t c1 h
      obtain ⟨rfl, rfl⟩ := g_some h
      exact a
    · have h := g_f c1 h
      obtain ⟨v2, S3, e4, h⟩ := g_bd_ex h
      have a := a.trans (fr_X2_has x1 _ e4)
      rcases g_bf v2 with c5 | c5
      · have h := g_f (Bool.eq_false_iff.mp c5) h
        exact a.trans (fr_X2_weigh_96 n (f_X2_weigh_56 n m) ih x1 0 x1 S3 h)
      · have h := g_t c5 h
        obtain ⟨c6, h⟩ := g_if h
        obtain ⟨v7, S8, e9, h⟩ := g_bd_ex h
        have a := a.trans (fr_X2_chance x1 (S3.2.1 1804) _ e9)
        exact a.trans (fr_X2_weigh_96 n (f_X2_weigh_56 n m) ih x1 ((Int32.toInt64 (S3.2.2.1 20 x1.toNatClampNeg)) * v7) x1 S8 h)
set_option maxHeartbeats 4000000 in
set_option maxRecDepth 100000 in
theorem fr_X2_weigh_39 (n : Nat) {v : Unit} {S' : z_Stt} (k7 : Int32 → z_Stt → Option (Unit × z_Stt)) (hk7 : ∀ (x1 : Int32) (S : z_Stt), k7 x1 S = some (v, S') → agM S S') (x1 : Int32) (y0 : Int64) (y1 : Int64) (S : z_Stt) (h : f_X2_weigh_39 n k7 x1 y0 y1 S = some (v, S')) : agM S S' := by
  have a := agM.rfl S
  unfold f_X2_weigh_39 at h
  obtain ⟨S1, e2, h⟩ := g_let_ex h
  have a := a.lsJ e2 (by omega)
  exact a.trans (hk7 (x1 + 1) S1 h)
set_option maxHeartbeats 4000000 in
set_option maxRecDepth 100000 in
theorem fr_X2_weigh_7 (n : Nat) {v : Unit} {S' : z_Stt} : ∀ (m : Nat) (x1 : Int32) (S : z_Stt) (h : f_X2_weigh_7 n m x1 S = some (v, S')), agM S S' := by
  intro m
  induction m with
  | zero => intro x1 S h; simp [f_X2_weigh_7] at h
  | succ m ih =>
    intro x1 S h
    have a := agM.rfl S
    rw [f_X2_weigh_7] at h
    rcases Classical.em (6 ≤ x1) with c1 | c1
    · have h := g_t c1 h
      obtain ⟨S2, e3, h⟩ := g_let_ex h
      have a := a.lsJ e3 (by omega)
      exact a.trans (fr_X2_weigh_56 n n 0 S2 h)
    · have h := g_f c1 h
      obtain ⟨v4, S5, e6, h⟩ := g_bd_ex h
      have a := a.trans (fr_X2_has x1 _ e6)
      rcases g_bf v4 with c7 | c7
      · have h := g_f (Bool.eq_false_iff.mp c7) h
        exact a.trans (fr_X2_weigh_39 n (f_X2_weigh_7 n m) ih x1 1 (S.2.1 1804) S5 h)
      · have h := g_t c7 h
        obtain ⟨c8, h⟩ := g_if h
        exact a.trans (fr_X2_weigh_39 n (f_X2_weigh_7 n m) ih x1 (S5.2.1 (100 * (22 + x1.toNatClampNeg) + 1)) (S.2.1 1804) S5 h)
set_option maxHeartbeats 4000000 in
set_option maxRecDepth 100000 in
theorem fr_X2_weigh {n : Nat} (S : z_Stt) {v : Unit} {S' : z_Stt} (h : f_X2_weigh n S = some (v, S')) : agM S S' := by
  have a := agM.rfl S
  unfold f_X2_weigh at h
  obtain ⟨S1, e2, h⟩ := g_let_ex h
  have a := a.lsJ e2 (by omega)
  exact a.trans (fr_X2_weigh_7 n n 0 S1 h)
set_option maxHeartbeats 4000000 in
set_option maxRecDepth 100000 in
theorem fr_X2_costOf_56 (n : Nat) {v : Int64} {S' : z_Stt} (k28 : Int32 → Int64 → Int32 → z_Stt → Option (Int64 × z_Stt)) (hk28 : ∀ (x1 : Int32) (x5 : Int64) (x7 : Int32) (S : z_Stt), k28 x1 x5 x7 S = some (v, S') → agM S S') (x1 : Int32) (x5 : Int64) (x7 : Int32) (S : z_Stt) (h : f_X2_costOf_56 n k28 x1 x5 x7 S = some (v, S')) : agM S S' := by
  have a := agM.rfl S
  unfold f_X2_costOf_56 at h
  exact a.trans (hk28 x1 x5 (x7 + 1) S h)
set_option maxHeartbeats 4000000 in
set_option maxRecDepth 100000 in
theorem fr_X2_costOf_28 (n : Nat) {v : Int64} {S' : z_Stt} : ∀ (m : Nat) (x1 : Int32) (x5 : Int64) (x7 : Int32) (S : z_Stt) (h : f_X2_costOf_28 n m x1 x5 x7 S = some (v, S')), agM S S' := by
  intro m
  induction m with
  | zero => intro x1 x5 x7 S h; simp [f_X2_costOf_28] at h
  | succ m ih =>
    intro x1 x5 x7 S h
    have a := agM.rfl S
    rw [f_X2_costOf_28] at h
    rcases Classical.em (6 ≤ x7) with c1 | c1
    · have h := g_t c1 h
      obtain ⟨rfl, rfl⟩ := g_some h
      exact a
    · have h := g_f c1 h
      rcases g_nem ((x1 >>> (x7 &&& 31)) &&& 1 = 0) with c2 | c2
      · have h := g_f c2 h
        exact a.trans (fr_X2_costOf_56 n (f_X2_costOf_28 n m) ih x1 x5 x7 S h)
      · have h := g_t c2 h
        obtain ⟨c3, h⟩ := g_if h
        exact a.trans (fr_X2_costOf_56 n (f_X2_costOf_28 n m) ih x1 (x5 + (S.2.2.2.1 21 x7.toNatClampNeg)) x7 S h)
set_option maxHeartbeats 4000000 in
set_option maxRecDepth 100000 in
theorem fr_X2_costOf_23 (n : Nat) {v : Int64} {S' : z_Stt} (x1 : Int32) (y0 : Int64) (S : z_Stt) (h : f_X2_costOf_23 n x1 y0 S = some (v, S')) : agM S S' := by
  have a := agM.rfl S
  unfold f_X2_costOf_23 at h
  exact a.trans (fr_X2_costOf_28 n n x1 y0 0 S h)
set_option maxHeartbeats 4000000 in
set_option maxRecDepth 100000 in
theorem fr_X2_costOf {n : Nat} (a0 : Int32) (a1 : Int64) (a2 : Int32) (S : z_Stt) {v : Int64} {S' : z_Stt} (h : f_X2_costOf n a0 a1 a2 S = some (v, S')) : agM S S' := by
  have a := agM.rfl S
  unfold f_X2_costOf at h
  rcases g_nem (a0 = 0) with c1 | c1
  · have h := g_f c1 h
    obtain ⟨v2, S3, e4, h⟩ := g_bd_ex h
    have a := a.trans (fr_J6_bitCount_0f7a4 a0 _ e4)
    exact a.trans (fr_X2_costOf_23 n a0 ((S.2.1 1804) * (a1 + (Int32.toInt64 (a2 * v2)))) S3 h)
  · have h := g_t c1 h
    exact a.trans (fr_X2_costOf_23 n a0 0 S h)
set_option maxHeartbeats 4000000 in
set_option maxRecDepth 100000 in
theorem fr_X2_bestLooks_59 (n : Nat) {v : Int32} {S' : z_Stt} (k12 : Int64 → Int32 → Int32 → Int64 → Int32 → z_Stt → Option (Int32 × z_Stt)) (hk12 : ∀ (x1 : Int64) (x3 : Int32) (x4 : Int32) (x5 : Int64) (x7 : Int32) (S : z_Stt), k12 x1 x3 x4 x5 x7 S = some (v, S') → agM S S') (x1 : Int64) (x3 : Int32) (x4 : Int32) (x5 : Int64) (x7 : Int32) (S : z_Stt) (h : f_X2_bestLooks_59 n k12 x1 x3 x4 x5 x7 S = some (v, S')) : agM S S' := by
  have a := agM.rfl S
  unfold f_X2_bestLooks_59 at h
  exact a.trans (hk12 x1 x3 x4 x5 (x7 + 1) S h)
set_option maxHeartbeats 4000000 in
set_option maxRecDepth 100000 in
theorem fr_X2_bestLooks_12 (n : Nat) {v : Int32} {S' : z_Stt} : ∀ (m : Nat) (x1 : Int64) (x3 : Int32) (x4 : Int32) (x5 : Int64) (x7 : Int32) (S : z_Stt) (h : f_X2_bestLooks_12 n m x1 x3 x4 x5 x7 S = some (v, S')), agM S S' := by
  intro m
  induction m with
  | zero => intro x1 x3 x4 x5 x7 S h; simp [f_X2_bestLooks_12] at h
  | succ m ih =>
    intro x1 x3 x4 x5 x7 S h
    have a := agM.rfl S
    rw [f_X2_bestLooks_12] at h
    rcases Classical.em (63 < x7) with c1 | c1
    · have h := g_t c1 h
      obtain ⟨rfl, rfl⟩ := g_some h
      exact a
    · have h := g_f c1 h
      rcases g_nem (x7 &&& ((S.1 1800) ^^^ (-1)) = 0) with c2 | c2
      · have h := g_f c2 h
        exact a.trans (fr_X2_bestLooks_59 n (f_X2_bestLooks_12 n m) ih x1 x3 x4 x5 x7 S h)
      · have h := g_t c2 h
        obtain ⟨v3, S4, e5, h⟩ := g_bd_ex h
        have a := a.trans (fr_X2_costOf x7 x1 x3 _ e5)
        rcases Classical.em (0 ≤ lg_cmp v3 x5) with c6 | c6
        · have h := g_t c6 h
          exact a.trans (fr_X2_bestLooks_59 n (f_X2_bestLooks_12 n m) ih x1 x3 x4 x5 x7 S4 h)
        · have h := g_f c6 h
          obtain ⟨v7, S8, e9, h⟩ := g_bd_ex h
          have a := a.trans (fr_X2_costOf x7 x1 x3 _ e9)
          exact a.trans (fr_X2_bestLooks_59 n (f_X2_bestLooks_12 n m) ih x1 x3 x7 v7 x7 S8 h)
set_option maxHeartbeats 4000000 in
set_option maxRecDepth 100000 in
theorem fr_X2_bestLooks {n : Nat} (a0 : Int64) (a1 : Int32) (S : z_Stt) {v : Int32} {S' : z_Stt} (h : f_X2_bestLooks n a0 a1 S = some (v, S')) : agM S S' := by
  have a := agM.rfl S
  unfold f_X2_bestLooks at h
  exact a.trans (fr_X2_bestLooks_12 n n a0 a1 0 (S.2.1 1805) 1 S h)
set_option maxHeartbeats 4000000 in
set_option maxRecDepth 100000 in
theorem fr_X2_worst_59 (n : Nat) {v : Int32} {S' : z_Stt} (k4 : Int32 → Int32 → z_Stt → Option (Int32 × z_Stt)) (hk4 : ∀ (x1 : Int32) (x2 : Int32) (S : z_Stt), k4 x1 x2 S = some (v, S') → agM S S') (x1 : Int32) (x2 : Int32) (S : z_Stt) (h : f_X2_worst_59 n k4 x1 x2 S = some (v, S')) : agM S S' := by
  have a := agM.rfl S
  unfold f_X2_worst_59 at h
  exact a.trans (hk4 x1 (x2 + 1) S h)
set_option maxHeartbeats 4000000 in
set_option maxRecDepth 100000 in
theorem fr_X2_worst_57 (n : Nat) {v : Int32} {S' : z_Stt} (k4 : Int32 → Int32 → z_Stt → Option (Int32 × z_Stt)) (hk4 : ∀ (x1 : Int32) (x2 : Int32) (S : z_Stt), k4 x1 x2 S = some (v, S') → agM S S') (x2 : Int32) (S : z_Stt) (h : f_X2_worst_57 n k4 x2 S = some (v, S')) : agM S S' := by
  have a := agM.rfl S
  unfold f_X2_worst_57 at h
  exact a.trans (fr_X2_worst_59 n k4 hk4 x2 x2 S h)
set_option maxHeartbeats 4000000 in
set_option maxRecDepth 100000 in
theorem fr_X2_worst_4 (n : Nat) {v : Int32} {S' : z_Stt} : ∀ (m : Nat) (x1 : Int32) (x2 : Int32) (S : z_Stt) (h : f_X2_worst_4 n m x1 x2 S = some (v, S')), agM S S' := by
  intro m
  induction m with
  | zero => intro x1 x2 S h; simp [f_X2_worst_4] at h
  | succ m ih =>
    intro x1 x2 S h
    have a := agM.rfl S
    rw [f_X2_worst_4] at h
    rcases Classical.em (6 ≤ x2) with c1 | c1
    · have h := g_t c1 h
      obtain ⟨rfl, rfl⟩ := g_some h
      exact a
    · have h := g_f c1 h
      obtain ⟨v2, S3, e4, h⟩ := g_bd_ex h
      have a := a.trans (fr_X2_has x2 _ e4)
      rcases g_bf v2 with c5 | c5
      · have h := g_f (Bool.eq_false_iff.mp c5) h
        exact a.trans (fr_X2_worst_59 n (f_X2_worst_4 n m) ih x1 x2 S3 h)
      · have h := g_t c5 h
        rcases Classical.em (x1 < 0) with c6 | c6
        · have h := g_t c6 h
          exact a.trans (fr_X2_worst_57 n (f_X2_worst_4 n m) ih x2 S3 h)
        · have h := g_f c6 h
          obtain ⟨c7, h⟩ := g_if h
          obtain ⟨v8, S9, e10, h⟩ := g_bd_ex h
          have a := a.trans (fr_X4_of144 (22 + x2.toNatClampNeg) _ (fw4_of c7) e10)
          obtain ⟨c11, h⟩ := g_if h
          obtain ⟨c12, h⟩ := g_if h
          obtain ⟨v13, S14, e15, h⟩ := g_bd_ex h
          have a := a.trans (fr_X4_of144 (22 + x1.toNatClampNeg) _ (fw4_of c12) e15)
          obtain ⟨c16, h⟩ := g_if h
          rcases Classical.em (v8 * (S9.2.2.1 20 x2.toNatClampNeg) ≤ v13 * (S14.2.2.1 20 x1.toNatClampNeg)) with c17 | c17
          · have h := g_t c17 h
            exact a.trans (fr_X2_worst_59 n (f_X2_worst_4 n m) ih x1 x2 S14 h)
          · have h := g_f c17 h
            exact a.trans (fr_X2_worst_57 n (f_X2_worst_4 n m) ih x2 S14 h)
set_option maxHeartbeats 4000000 in
set_option maxRecDepth 100000 in
theorem fr_X2_worst {n : Nat} (S : z_Stt) {v : Int32} {S' : z_Stt} (h : f_X2_worst n S = some (v, S')) : agM S S' := by
  have a := agM.rfl S
  unfold f_X2_worst at h
  exact a.trans (fr_X2_worst_4 n n (-1) 0 S h)
set_option maxHeartbeats 4000000 in
set_option maxRecDepth 100000 in
theorem fr_X2_costOfRinging_140 (n : Nat) {v : Int64} {S' : z_Stt} (k92 : Int64 → Int32 → Int32 → Int32 → Int64 → Int64 → Int32 → z_Stt → Option (Int64 × z_Stt)) (hk92 : ∀ (x1 : Int64) (x3 : Int32) (x4 : Int32) (x5 : Int32) (x6 : Int64) (x8 : Int64) (x10 : Int32) (S : z_Stt), k92 x1 x3 x4 x5 x6 x8 x10 S = some (v, S') → agM S S') (x1 : Int64) (x3 : Int32) (x4 : Int32) (x5 : Int32) (x6 : Int64) (x8 : Int64) (x10 : Int32) (S : z_Stt) (h : f_X2_costOfRinging_140 n k92 x1 x3 x4 x5 x6 x8 x10 S = some (v, S')) : agM S S' := by
  have a := agM.rfl S
  unfold f_X2_costOfRinging_140 at h
  exact a.trans (hk92 x1 x3 x4 x5 x6 x8 (x10 + 1) S h)
set_option maxHeartbeats 4000000 in
set_option maxRecDepth 100000 in
theorem fr_X2_costOfRinging_92 (n : Nat) {v : Int64} {S' : z_Stt} : ∀ (m : Nat) (x1 : Int64) (x3 : Int32) (x4 : Int32) (x5 : Int32) (x6 : Int64) (x8 : Int64) (x10 : Int32) (S : z_Stt) (h : f_X2_costOfRinging_92 n m x1 x3 x4 x5 x6 x8 x10 S = some (v, S')), agM S S' := by
  intro m
  induction m with
  | zero => intro x1 x3 x4 x5 x6 x8 x10 S h; simp [f_X2_costOfRinging_92] at h
  | succ m ih =>
    intro x1 x3 x4 x5 x6 x8 x10 S h
    have a := agM.rfl S
    rw [f_X2_costOfRinging_92] at h
    rcases Classical.em (6 ≤ x10) with c1 | c1
    · have h := g_t c1 h
      obtain ⟨rfl, rfl⟩ := g_some h
      exact a
    · have h := g_f c1 h
      obtain ⟨v2, S3, e4, h⟩ := g_bd_ex h
      have a := a.trans (fr_X2_has x10 _ e4)
      rcases g_bf v2 with c5 | c5
      · have h := g_f (Bool.eq_false_iff.mp c5) h
        exact a.trans (fr_X2_costOfRinging_140 n (f_X2_costOfRinging_92 n m) ih x1 x3 x4 x5 x6 x8 x10 S3 h)
      · have h := g_t c5 h
        rcases g_nem ((x5 >>> (x10 &&& 31)) &&& 1 = 0) with c6 | c6
        · have h := g_f c6 h
          exact a.trans (fr_X2_costOfRinging_140 n (f_X2_costOfRinging_92 n m) ih x1 x3 x4 x5 x6 x8 x10 S3 h)
        · have h := g_t c6 h
          obtain ⟨c7, h⟩ := g_if h
          obtain ⟨v8, S9, e10, h⟩ := g_bd_ex h
          have a := a.trans (fr_X2_chance x10 x6 _ e10)
          exact a.trans (fr_X2_costOfRinging_140 n (f_X2_costOfRinging_92 n m) ih x1 x3 x4 x5 x6 (x8 + ((Int32.toInt64 (S3.2.2.1 20 x10.toNatClampNeg)) * v8)) x10 S9 h)
set_option maxHeartbeats 4000000 in
set_option maxRecDepth 100000 in
theorem fr_X2_costOfRinging_72 (n : Nat) {v : Int64} {S' : z_Stt} (k6 : Int64 → Int32 → Int32 → Int32 → Int64 → Int32 → z_Stt → Option (Int64 × z_Stt)) (hk6 : ∀ (x1 : Int64) (x3 : Int32) (x4 : Int32) (x5 : Int32) (x6 : Int64) (x8 : Int32) (S : z_Stt), k6 x1 x3 x4 x5 x6 x8 S = some (v, S') → agM S S') (x1 : Int64) (x3 : Int32) (x4 : Int32) (x5 : Int32) (x6 : Int64) (x8 : Int32) (S : z_Stt) (h : f_X2_costOfRinging_72 n k6 x1 x3 x4 x5 x6 x8 S = some (v, S')) : agM S S' := by
  have a := agM.rfl S
  unfold f_X2_costOfRinging_72 at h
  exact a.trans (hk6 x1 x3 x4 x5 x6 (x8 + 1) S h)
set_option maxHeartbeats 4000000 in
set_option maxRecDepth 100000 in
theorem fr_X2_costOfRinging_69 (n : Nat) {v : Int64} {S' : z_Stt} (k6 : Int64 → Int32 → Int32 → Int32 → Int64 → Int32 → z_Stt → Option (Int64 × z_Stt)) (hk6 : ∀ (x1 : Int64) (x3 : Int32) (x4 : Int32) (x5 : Int32) (x6 : Int64) (x8 : Int32) (S : z_Stt), k6 x1 x3 x4 x5 x6 x8 S = some (v, S') → agM S S') (x1 : Int64) (x3 : Int32) (x4 : Int32) (x5 : Int32) (x8 : Int32) (y0 : Int64) (y1 : Int64) (S : z_Stt) (h : f_X2_costOfRinging_69 n k6 x1 x3 x4 x5 x8 y0 y1 S = some (v, S')) : agM S S' := by
  have a := agM.rfl S
  unfold f_X2_costOfRinging_69 at h
  exact a.trans (fr_X2_costOfRinging_72 n k6 hk6 x1 x3 x4 x5 (y1 * y0) x8 S h)
set_option maxHeartbeats 4000000 in
set_option maxRecDepth 100000 in
theorem fr_X2_costOfRinging_6 (n : Nat) {v : Int64} {S' : z_Stt} : ∀ (m : Nat) (x1 : Int64) (x3 : Int32) (x4 : Int32) (x5 : Int32) (x6 : Int64) (x8 : Int32) (S : z_Stt) (h : f_X2_costOfRinging_6 n m x1 x3 x4 x5 x6 x8 S = some (v, S')), agM S S' := by
  intro m
  induction m with
  | zero => intro x1 x3 x4 x5 x6 x8 S h; simp [f_X2_costOfRinging_6] at h
  | succ m ih =>
    intro x1 x3 x4 x5 x6 x8 S h
    have a := agM.rfl S
    rw [f_X2_costOfRinging_6] at h
    rcases Classical.em (6 ≤ x8) with c1 | c1
    · have h := g_t c1 h
      exact a.trans (fr_X2_costOfRinging_92 n n x1 x3 x4 x5 x6 (x1 * ((S.2.1 1804) - x6)) 0 S h)
    · have h := g_f c1 h
      obtain ⟨v2, S3, e4, h⟩ := g_bd_ex h
      have a := a.trans (fr_X2_has x8 _ e4)
      rcases g_bf v2 with c5 | c5
      · have h := g_f (Bool.eq_false_iff.mp c5) h
        exact a.trans (fr_X2_costOfRinging_72 n (f_X2_costOfRinging_6 n m) ih x1 x3 x4 x5 x6 x8 S3 h)
      · have h := g_t c5 h
        rcases g_nem ((x5 >>> (x8 &&& 31)) &&& 1 = 1) with c6 | c6
        · have h := g_f c6 h
          obtain ⟨c7, h⟩ := g_if h
          exact a.trans (fr_X2_costOfRinging_69 n (f_X2_costOfRinging_6 n m) ih x1 x3 x4 x5 x8 (S3.2.1 (100 * (22 + x8.toNatClampNeg) + 1)) x6 S3 h)
        · have h := g_t c6 h
          obtain ⟨c8, h⟩ := g_if h
          obtain ⟨c9, h⟩ := g_if h
          exact a.trans (fr_X2_costOfRinging_69 n (f_X2_costOfRinging_6 n m) ih x1 x3 x4 x5 x8 ((S3.2.1 (100 * (22 + x8.toNatClampNeg) + 1)) - (S3.2.1 (100 * (22 + x8.toNatClampNeg) + 0))) x6 S3 h)
set_option maxHeartbeats 4000000 in
set_option maxRecDepth 100000 in
theorem fr_X2_costOfRinging {n : Nat} (a0 : Int64) (a1 : Int32) (a2 : Int32) (a3 : Int32) (S : z_Stt) {v : Int64} {S' : z_Stt} (h : f_X2_costOfRinging n a0 a1 a2 a3 S = some (v, S')) : agM S S' := by
  have a := agM.rfl S
  unfold f_X2_costOfRinging at h
  exact a.trans (fr_X2_costOfRinging_6 n n a0 a1 a2 a3 1 0 S h)
set_option maxHeartbeats 4000000 in
set_option maxRecDepth 100000 in
theorem fr_X2_savedBy (a0 : Int32) (a1 : Int64) (S : z_Stt) {v : Int64} {S' : z_Stt} (h : f_X2_savedBy a0 a1 S = some (v, S')) : agM S S' := by
  have a := agM.rfl S
  unfold f_X2_savedBy at h
  obtain ⟨c1, h⟩ := g_if h
  obtain ⟨c2, h⟩ := g_if h
  rcases Classical.em (0 < lg_cmp (S.2.1 (100 * (22 + a0.toNatClampNeg) + 1)) 0) with c3 | c3
  · have h := g_t c3 h
    obtain ⟨c4, h⟩ := g_if h
    obtain ⟨c5, h⟩ := g_if h
    obtain ⟨c6, h⟩ := g_if h
    obtain ⟨c7, h⟩ := g_if h
    obtain ⟨rfl, rfl⟩ := g_some h
    exact a
  · have h := g_f c3 h
    obtain ⟨rfl, rfl⟩ := g_some h
    exact a
set_option maxHeartbeats 4000000 in
set_option maxRecDepth 100000 in
theorem fr_X2_bestSeen_45 (n : Nat) {v : Int32} {S' : z_Stt} (k5 : Int64 → Int32 → Int32 → z_Stt → Option (Int32 × z_Stt)) (hk5 : ∀ (x1 : Int64) (x3 : Int32) (x4 : Int32) (S : z_Stt), k5 x1 x3 x4 S = some (v, S') → agM S S') (x1 : Int64) (x3 : Int32) (x4 : Int32) (S : z_Stt) (h : f_X2_bestSeen_45 n k5 x1 x3 x4 S = some (v, S')) : agM S S' := by
  have a := agM.rfl S
  unfold f_X2_bestSeen_45 at h
  exact a.trans (hk5 x1 x3 (x4 + 1) S h)
set_option maxHeartbeats 4000000 in
set_option maxRecDepth 100000 in
theorem fr_X2_bestSeen_42 (n : Nat) {v : Int32} {S' : z_Stt} (k5 : Int64 → Int32 → Int32 → z_Stt → Option (Int32 × z_Stt)) (hk5 : ∀ (x1 : Int64) (x3 : Int32) (x4 : Int32) (S : z_Stt), k5 x1 x3 x4 S = some (v, S') → agM S S') (x1 : Int64) (x4 : Int32) (S : z_Stt) (h : f_X2_bestSeen_42 n k5 x1 x4 S = some (v, S')) : agM S S' := by
  have a := agM.rfl S
  unfold f_X2_bestSeen_42 at h
  exact a.trans (fr_X2_bestSeen_45 n k5 hk5 x1 x4 x4 S h)
set_option maxHeartbeats 4000000 in
set_option maxRecDepth 100000 in
theorem fr_X2_bestSeen_5 (n : Nat) {v : Int32} {S' : z_Stt} : ∀ (m : Nat) (x1 : Int64) (x3 : Int32) (x4 : Int32) (S : z_Stt) (h : f_X2_bestSeen_5 n m x1 x3 x4 S = some (v, S')), agM S S' := by
  intro m
  induction m with
  | zero => intro x1 x3 x4 S h; simp [f_X2_bestSeen_5] at h
  | succ m ih =>
    intro x1 x3 x4 S h
    have a := agM.rfl S
    rw [f_X2_bestSeen_5] at h
    rcases Classical.em (6 ≤ x4) with c1 | c1
    · have h := g_t c1 h
      obtain ⟨rfl, rfl⟩ := g_some h
      exact a
    · have h := g_f c1 h
      obtain ⟨v2, S3, e4, h⟩ := g_bd_ex h
      have a := a.trans (fr_X2_has x4 _ e4)
      rcases g_bf v2 with c5 | c5
      · have h := g_f (Bool.eq_false_iff.mp c5) h
        exact a.trans (fr_X2_bestSeen_45 n (f_X2_bestSeen_5 n m) ih x1 x3 x4 S3 h)
      · have h := g_t c5 h
        rcases Classical.em (x3 < 0) with c6 | c6
        · have h := g_t c6 h
          exact a.trans (fr_X2_bestSeen_42 n (f_X2_bestSeen_5 n m) ih x1 x4 S3 h)
        · have h := g_f c6 h
          obtain ⟨v7, S8, e9, h⟩ := g_bd_ex h
          have a := a.trans (fr_X2_savedBy x4 x1 _ e9)
          obtain ⟨v10, S11, e12, h⟩ := g_bd_ex h
          have a := a.trans (fr_X2_savedBy x3 x1 _ e12)
          rcases Classical.em (lg_cmp v7 v10 ≤ 0) with c13 | c13
          · have h := g_t c13 h
            exact a.trans (fr_X2_bestSeen_45 n (f_X2_bestSeen_5 n m) ih x1 x3 x4 S11 h)
          · have h := g_f c13 h
            exact a.trans (fr_X2_bestSeen_42 n (f_X2_bestSeen_5 n m) ih x1 x4 S11 h)
set_option maxHeartbeats 4000000 in
set_option maxRecDepth 100000 in
theorem fr_X2_bestSeen {n : Nat} (a0 : Int64) (S : z_Stt) {v : Int32} {S' : z_Stt} (h : f_X2_bestSeen n a0 S = some (v, S')) : agM S S' := by
  have a := agM.rfl S
  unfold f_X2_bestSeen at h
  exact a.trans (fr_X2_bestSeen_5 n n a0 (-1) 0 S h)
set_option maxHeartbeats 4000000 in
set_option maxRecDepth 100000 in
theorem fr_X5_come (a0 : Int32) (S : z_Stt) {v : Int32} {S' : z_Stt} (h : f_X5_come a0 S = some (v, S')) : agM S S' := by
  have a := agM.rfl S
  unfold f_X5_come at h
  rcases Classical.em (S.1 3201 < 50) with c1 | c1
  · have h := g_t c1 h
    obtain ⟨c2, h⟩ := g_if h
    obtain ⟨S3, e4, h⟩ := g_let_ex h
    have a := a.lsA e4 (by omega)
    obtain ⟨S5, e6, h⟩ := g_let_ex h
    have a := a.lsI e6 (by omega)
    obtain ⟨rfl, rfl⟩ := g_some h
    exact a
  · have h := g_f c1 h
    obtain ⟨rfl, rfl⟩ := g_some h
    exact a
set_option maxHeartbeats 4000000 in
set_option maxRecDepth 100000 in
theorem fr_X5_isUnder_4 (n : Nat) {v : Bool} {S' : z_Stt} : ∀ (m : Nat) (x1 : Int32) (x2 : Int32) (x3 : Int32) (S : z_Stt) (h : f_X5_isUnder_4 n m x1 x2 x3 S = some (v, S')), agM S S' := by
  intro m
  induction m with
  | zero => intro x1 x2 x3 S h; simp [f_X5_isUnder_4] at h
  | succ m ih =>
    intro x1 x2 x3 S h
    have a := agM.rfl S
    rw [f_X5_isUnder_4] at h
    rcases Classical.em (8 ≤ x3) with c1 | c1
    · have h := g_t c1 h
      obtain ⟨rfl, rfl⟩ := g_some h
      exact a
    · have h := g_f c1 h
      rcases Classical.em (x2 < 0) with c2 | c2
      · have h := g_t c2 h
        obtain ⟨rfl, rfl⟩ := g_some h
        exact a
      · have h := g_f c2 h
        rcases Classical.em (8 ≤ x2) with c3 | c3
        · have h := g_t c3 h
          obtain ⟨rfl, rfl⟩ := g_some h
          exact a
        · have h := g_f c3 h
          rcases g_nem (x2 = x1) with c4 | c4
          · have h := g_f c4 h
            obtain ⟨c5, h⟩ := g_if h
            exact a.trans (ih x1 (st_KA x2.toNatClampNeg) (x3 + 1) S h)
          · have h := g_t c4 h
            obtain ⟨rfl, rfl⟩ := g_some h
            exact a
set_option maxHeartbeats 4000000 in
set_option maxRecDepth 100000 in
theorem fr_X5_isUnder {n : Nat} (a0 : Int32) (a1 : Int32) (S : z_Stt) {v : Bool} {S' : z_Stt} (h : f_X5_isUnder n a0 a1 S = some (v, S')) : agM S S' := by
  have a := agM.rfl S
  unfold f_X5_isUnder at h
  exact a.trans (fr_X5_isUnder_4 n n a1 a0 0 S h)
set_option maxHeartbeats 4000000 in
set_option maxRecDepth 100000 in
theorem fr_X5_ownerOf_43 (n : Nat) {v : Int32} {S' : z_Stt} (k4 : Int32 → Int32 → Int32 → z_Stt → Option (Int32 × z_Stt)) (hk4 : ∀ (x1 : Int32) (x2 : Int32) (x3 : Int32) (S : z_Stt), k4 x1 x2 x3 S = some (v, S') → agM S S') (x1 : Int32) (x2 : Int32) (x3 : Int32) (S : z_Stt) (h : f_X5_ownerOf_43 n k4 x1 x2 x3 S = some (v, S')) : agM S S' := by
  have a := agM.rfl S
  unfold f_X5_ownerOf_43 at h
  obtain ⟨c1, h⟩ := g_if h
  exact a.trans (hk4 x1 (st_KA x2.toNatClampNeg) (x3 + 1) S h)
set_option maxHeartbeats 4000000 in
set_option maxRecDepth 100000 in
theorem fr_X5_ownerOf_4 (n : Nat) {v : Int32} {S' : z_Stt} : ∀ (m : Nat) (x1 : Int32) (x2 : Int32) (x3 : Int32) (S : z_Stt) (h : f_X5_ownerOf_4 n m x1 x2 x3 S = some (v, S')), agM S S' := by
  intro m
  induction m with
  | zero => intro x1 x2 x3 S h; simp [f_X5_ownerOf_4] at h
  | succ m ih =>
    intro x1 x2 x3 S h
    have a := agM.rfl S
    rw [f_X5_ownerOf_4] at h
    rcases Classical.em (8 ≤ x3) with c1 | c1
    · have h := g_t c1 h
      obtain ⟨rfl, rfl⟩ := g_some h
      exact a
    · have h := g_f c1 h
      rcases Classical.em (x2 < 0) with c2 | c2
      · have h := g_t c2 h
        obtain ⟨rfl, rfl⟩ := g_some h
        exact a
      · have h := g_f c2 h
        rcases Classical.em (8 ≤ x2) with c3 | c3
        · have h := g_t c3 h
          obtain ⟨rfl, rfl⟩ := g_some h
          exact a
        · have h := g_f c3 h
          rcases Classical.em (x1 < 0) with c4 | c4
          · have h := g_t c4 h
            exact a.trans (fr_X5_ownerOf_43 n (f_X5_ownerOf_4 n m) ih x1 x2 x3 S h)
          · have h := g_f c4 h
            rcases Classical.em (4 ≤ x1) with c5 | c5
            · have h := g_t c5 h
              exact a.trans (fr_X5_ownerOf_43 n (f_X5_ownerOf_4 n m) ih x1 x2 x3 S h)
            · have h := g_f c5 h
              obtain ⟨c6, h⟩ := g_if h
              rcases Classical.em (st_OB ((4 * x2) + x1).toNatClampNeg = 0) with c7 | c7
              · have h := g_t c7 h
                exact a.trans (fr_X5_ownerOf_43 n (f_X5_ownerOf_4 n m) ih x1 x2 x3 S h)
              · have h := g_f c7 h
                obtain ⟨rfl, rfl⟩ := g_some h
                exact a
set_option maxHeartbeats 4000000 in
set_option maxRecDepth 100000 in
theorem fr_X5_ownerOf {n : Nat} (a0 : Int32) (a1 : Int32) (S : z_Stt) {v : Int32} {S' : z_Stt} (h : f_X5_ownerOf n a0 a1 S = some (v, S')) : agM S S' := by
  have a := agM.rfl S
  unfold f_X5_ownerOf at h
  exact a.trans (fr_X5_ownerOf_4 n n a1 a0 0 S h)
set_option maxHeartbeats 4000000 in
set_option maxRecDepth 100000 in
theorem fr_X5_note_19 {v : Unit} {S' : z_Stt} (S : z_Stt) (h : f_X5_note_19 S = some (v, S')) : agM S S' := by
  have a := agM.rfl S
  unfold f_X5_note_19 at h
  obtain ⟨S1, e2, h⟩ := g_let_ex h
  have a := a.lsI e2 (by omega)
  obtain ⟨rfl, rfl⟩ := g_some h
  exact a
set_option maxHeartbeats 4000000 in
set_option maxRecDepth 100000 in
theorem fr_X5_note (a0 : Int32) (S : z_Stt) {v : Unit} {S' : z_Stt} (h : f_X5_note a0 S = some (v, S')) : agM S S' := by
  have a := agM.rfl S
  unfold f_X5_note at h
  rcases Classical.em (24 ≤ S.1 3203) with c1 | c1
  · have h := g_t c1 h
    exact a.trans (fr_X5_note_19 S h)
  · have h := g_f c1 h
    obtain ⟨c2, h⟩ := g_if h
    obtain ⟨S3, e4, h⟩ := g_let_ex h
    have a := a.lsA e4 (by omega)
    exact a.trans (fr_X5_note_19 S3 h)
def HF_X5_does (G : GT_X5_does) : Prop := (∀ (a0 : Int32) (a1 : Int32) (a2 : Int32) (a3 : Int32) (S : z_Stt) (v : Int32) (S' : z_Stt), G.1 a0 a1 a2 a3 S = some (v, S') → agM S S') ∧ (∀ (a0 : Int32) (a1 : Int32) (a2 : Int32) (a3 : Int32) (S : z_Stt) (v : Int32) (S' : z_Stt), G.2 a0 a1 a2 a3 S = some (v, S') → agM S S')
set_option maxHeartbeats 4000000 in
set_option maxRecDepth 100000 in
theorem fr_X5_does {n : Nat} {G : GT_X5_does} (hG : HF_X5_does G) (a0 : Int32) (a1 : Int32) (a2 : Int32) (a3 : Int32) (S : z_Stt) {v : Int32} {S' : z_Stt} (h : f_X5_does n G a0 a1 a2 a3 S = some (v, S')) : agM S S' := by
  have a := agM.rfl S
  unfold f_X5_does at h
  obtain ⟨v1, S2, e3, h⟩ := g_bd_ex h
  have a := a.trans (fr_X5_ownerOf a0 a1 _ e3)
  rcases Classical.em (v1 < 0) with c4 | c4
  · have h := g_t c4 h
    obtain ⟨rfl, rfl⟩ := g_some h
    exact a
  · have h := g_f c4 h
    rcases Classical.em (a3 ≤ 32) with c5 | c5
    · have h := g_t c5 h
      obtain ⟨c6, h⟩ := g_if h
      obtain ⟨v7, S8, e9, h⟩ := g_bd_ex h
      have a := a.trans (fr_X5_note (st_OB ((4 * v1) + a1).toNatClampNeg) _ e9)
      obtain ⟨c10, h⟩ := g_if h
      obtain ⟨v11, S12, e13, h⟩ := g_bd_ex h
      have a := a.trans (hG.2 (st_OB ((4 * v1) + a1).toNatClampNeg) (st_KA v1.toNatClampNeg) a2 (a3 + 1) _ _ _ e13)
      obtain ⟨rfl, rfl⟩ := g_some h
      exact a
    · have h := g_f c5 h
      obtain ⟨rfl, rfl⟩ := g_some h
      exact a
set_option maxHeartbeats 4000000 in
set_option maxRecDepth 100000 in
theorem fr_X5_runs {n : Nat} {G : GT_X5_does} (hG : HF_X5_does G) (a0 : Int32) (a1 : Int32) (a2 : Int32) (a3 : Int32) (S : z_Stt) {v : Int32} {S' : z_Stt} (h : f_X5_runs n G a0 a1 a2 a3 S = some (v, S')) : agM S S' := by
  have a := agM.rfl S
  unfold f_X5_runs at h
  by_cases c1 : a0 = 1
  · have h := g_t c1 h
    obtain ⟨rfl, rfl⟩ := g_some h
    exact a
  have h := g_f c1 h
  by_cases c2 : a0 = 2
  · have h := g_t c2 h
    obtain ⟨v3, S4, e5, h⟩ := g_bd_ex h
    have a := a.trans (hG.1 (S.1 3205) 1 a2 a3 _ _ _ e5)
    obtain ⟨v6, S7, e8, h⟩ := g_bd_ex h
    have a := a.trans (hG.1 (S4.1 3205) 2 1 a3 _ _ _ e8)
    obtain ⟨rfl, rfl⟩ := g_some h
    exact a
  have h := g_f c2 h
  by_cases c9 : a0 = 10
  · have h := g_t c9 h
    obtain ⟨v10, S11, e12, h⟩ := g_bd_ex h
    have a := a.trans (hG.1 (S.1 3205) 0 a2 a3 _ _ _ e12)
    obtain ⟨rfl, rfl⟩ := g_some h
    exact a
  have h := g_f c9 h
  by_cases c13 : a0 = 11
  · have h := g_t c13 h
    obtain ⟨rfl, rfl⟩ := g_some h
    exact a
  have h := g_f c13 h
  by_cases c14 : a0 = 20
  · have h := g_t c14 h
    obtain ⟨v15, S16, e17, h⟩ := g_bd_ex h
    have a := a.trans (hG.1 a1 0 a2 a3 _ _ _ e17)
    obtain ⟨rfl, rfl⟩ := g_some h
    exact a
  have h := g_f c14 h
  by_cases c18 : a0 = 30
  · have h := g_t c18 h
    obtain ⟨v19, S20, e21, h⟩ := g_bd_ex h
    have a := a.trans (hG.1 a1 1 a2 a3 _ _ _ e21)
    obtain ⟨rfl, rfl⟩ := g_some h
    exact a
  have h := g_f c18 h
  by_cases c22 : a0 = 40
  · have h := g_t c22 h
    obtain ⟨v23, S24, e25, h⟩ := g_bd_ex h
    have a := a.trans (hG.1 a1 2 a2 a3 _ _ _ e25)
    obtain ⟨rfl, rfl⟩ := g_some h
    exact a
  have h := g_f c22 h
  by_cases c26 : a0 = 41
  · have h := g_t c26 h
    obtain ⟨v27, S28, e29, h⟩ := g_bd_ex h
    have a := a.trans (hG.1 a1 1 (a2 + 1) a3 _ _ _ e29)
    obtain ⟨rfl, rfl⟩ := g_some h
    exact a
  have h := g_f c26 h
  by_cases c30 : a0 = 50
  · have h := g_t c30 h
    obtain ⟨v31, S32, e33, h⟩ := g_bd_ex h
    have a := a.trans (hG.1 a1 2 a2 a3 _ _ _ e33)
    obtain ⟨v34, S35, e36, h⟩ := g_bd_ex h
    have a := a.trans (hG.1 (S32.1 3205) 0 2 a3 _ _ _ e36)
    obtain ⟨rfl, rfl⟩ := g_some h
    exact a
  have h := g_f c30 h
  by_cases c37 : a0 = 60
  · have h := g_t c37 h
    obtain ⟨v38, S39, e40, h⟩ := g_bd_ex h
    have a := a.trans (hG.1 a1 3 a2 a3 _ _ _ e40)
    obtain ⟨rfl, rfl⟩ := g_some h
    exact a
  have h := g_f c37 h
  by_cases c41 : a0 = 70
  · have h := g_t c41 h
    obtain ⟨v42, S43, e44, h⟩ := g_bd_ex h
    have a := a.trans (hG.1 a1 0 a2 a3 _ _ _ e44)
    obtain ⟨rfl, rfl⟩ := g_some h
    exact a
  have h := g_f c41 h
  by_cases c45 : a0 = 80
  · have h := g_t c45 h
    obtain ⟨v46, S47, e48, h⟩ := g_bd_ex h
    have a := a.trans (hG.1 a1 1 a2 a3 _ _ _ e48)
    obtain ⟨v49, S50, e51, h⟩ := g_bd_ex h
    have a := a.trans (hG.1 (S47.1 3205) 2 2 a3 _ _ _ e51)
    obtain ⟨rfl, rfl⟩ := g_some h
    exact a
  have h := g_f c45 h
  by_cases c52 : a0 = 81
  · have h := g_t c52 h
    obtain ⟨v53, S54, e55, h⟩ := g_bd_ex h
    have a := a.trans (hG.1 a1 3 a2 a3 _ _ _ e55)
    obtain ⟨rfl, rfl⟩ := g_some h
    exact a
  have h := g_f c52 h
  obtain ⟨rfl, rfl⟩ := g_some h
  exact a
set_option maxHeartbeats 4000000 in
set_option maxRecDepth 100000 in
theorem hf_X5_does {n : Nat} : ∀ dp : Nat, HF_X5_does (g_X5_does n dp) := by
  intro dp
  induction dp with
  | zero => exact ⟨(fun _ _ _ _ _ _ _ h => nomatch h), (fun _ _ _ _ _ _ _ h => nomatch h)⟩
  | succ dp ih => exact ⟨(fun a0 a1 a2 a3 S v S' h => fr_X5_does (n := n) ih a0 a1 a2 a3 S h), (fun a0 a1 a2 a3 S v S' h => fr_X5_runs (n := n) ih a0 a1 a2 a3 S h)⟩
theorem frg_X5_does {n : Nat} (a0 : Int32) (a1 : Int32) (a2 : Int32) (a3 : Int32) (S : z_Stt) {v : Int32} {S' : z_Stt} (h : (g_X5_does n 64).1 a0 a1 a2 a3 S = some (v, S')) : agM S S' := (hf_X5_does 64).1 a0 a1 a2 a3 S _ _ h
theorem frg_X5_runs {n : Nat} (a0 : Int32) (a1 : Int32) (a2 : Int32) (a3 : Int32) (S : z_Stt) {v : Int32} {S' : z_Stt} (h : (g_X5_does n 64).2 a0 a1 a2 a3 S = some (v, S')) : agM S S' := (hf_X5_does 64).2 a0 a1 a2 a3 S _ _ h
set_option maxHeartbeats 4000000 in
set_option maxRecDepth 100000 in
theorem fr_X5_begin {n : Nat} (a0 : Int32) (a1 : Int32) (a2 : Int32) (S : z_Stt) {v : Int32} {S' : z_Stt} (h : f_X5_begin n a0 a1 a2 S = some (v, S')) : agM S S' := by
  have a := agM.rfl S
  unfold f_X5_begin at h
  rcases Classical.em (a0 < 0) with c1 | c1
  · have h := g_t c1 h
    obtain ⟨rfl, rfl⟩ := g_some h
    exact a
  · have h := g_f c1 h
    rcases Classical.em (a0 < S.1 3201) with c2 | c2
    · have h := g_t c2 h
      obtain ⟨S3, e4, h⟩ := g_let_ex h
      have a := a.lsI e4 (by omega)
      obtain ⟨c5, h⟩ := g_if h
      obtain ⟨S6, e7, h⟩ := g_let_ex h
      have a := a.lsI e7 (by omega)
      obtain ⟨v8, S9, e10, h⟩ := g_bd_ex h
      have a := a.trans (frg_X5_does (S6.1 3205) a1 a2 0 _ e10)
      obtain ⟨rfl, rfl⟩ := g_some h
      exact a
    · have h := g_f c2 h
      obtain ⟨rfl, rfl⟩ := g_some h
      exact a
set_option maxHeartbeats 4000000 in
set_option maxRecDepth 100000 in
theorem fr_X7_begin_80 (n : Nat) {v : Unit} {S' : z_Stt} (x2 : Int32) (S : z_Stt) (h : f_X7_begin_80 n x2 S = some (v, S')) : agM S S' := by
  have a := agM.rfl S
  unfold f_X7_begin_80 at h
  obtain ⟨c1, h⟩ := g_if h
  obtain ⟨S2, e3, h⟩ := g_let_ex h
  have a := a.lsA e3 (by omega)
  obtain ⟨S4, e5, h⟩ := g_let_ex h
  have a := a.lsI e5 (by omega)
  obtain ⟨rfl, rfl⟩ := g_some h
  exact a
set_option maxHeartbeats 4000000 in
set_option maxRecDepth 100000 in
theorem fr_X7_begin_74 (n : Nat) {v : Unit} {S' : z_Stt} (k15 : Int32 → Int32 → Int32 → Int32 → z_Stt → Option (Unit × z_Stt)) (hk15 : ∀ (x1 : Int32) (x2 : Int32) (x3 : Int32) (x4 : Int32) (S : z_Stt), k15 x1 x2 x3 x4 S = some (v, S') → agM S S') (x1 : Int32) (x2 : Int32) (x3 : Int32) (x4 : Int32) (S : z_Stt) (h : f_X7_begin_74 n k15 x1 x2 x3 x4 S = some (v, S')) : agM S S' := by
  have a := agM.rfl S
  unfold f_X7_begin_74 at h
  exact a.trans (hk15 x1 x2 x3 (x4 + 1) S h)
set_option maxHeartbeats 4000000 in
set_option maxRecDepth 100000 in
theorem fr_X7_begin_15 (n : Nat) {v : Unit} {S' : z_Stt} : ∀ (m : Nat) (x1 : Int32) (x2 : Int32) (x3 : Int32) (x4 : Int32) (S : z_Stt) (h : f_X7_begin_15 n m x1 x2 x3 x4 S = some (v, S')), agM S S' := by
  intro m
  induction m with
  | zero => intro x1 x2 x3 x4 S h; simp [f_X7_begin_15] at h
  | succ m ih =>
    intro x1 x2 x3 x4 S h
    have a := agM.rfl S
    rw [f_X7_begin_15] at h
    rcases Classical.em (6 ≤ x4) with c1 | c1
    · have h := g_t c1 h
      exact a.trans (fr_X7_begin_80 n x2 S h)
    · have h := g_f c1 h
      rcases Classical.em (6 ≤ S.1 2802) with c2 | c2
      · have h := g_t c2 h
        exact a.trans (fr_X7_begin_80 n x2 S h)
      · have h := g_f c2 h
        rcases g_nem ((x3 >>> (x4 &&& 31)) &&& 1 = 1) with c3 | c3
        · have h := g_f c3 h
          exact a.trans (fr_X7_begin_74 n (f_X7_begin_15 n m) ih x1 x2 x3 x4 S h)
        · have h := g_t c3 h
          rcases Classical.em (x4 = x1) with c4 | c4
          · have h := g_t c4 h
            exact a.trans (fr_X7_begin_74 n (f_X7_begin_15 n m) ih x1 x2 x3 x4 S h)
          · have h := g_f c4 h
            rcases Classical.em (x4 = x2) with c5 | c5
            · have h := g_t c5 h
              exact a.trans (fr_X7_begin_74 n (f_X7_begin_15 n m) ih x1 x2 x3 x4 S h)
            · have h := g_f c5 h
              obtain ⟨c6, h⟩ := g_if h
              obtain ⟨S7, e8, h⟩ := g_let_ex h
              have a := a.lsA e8 (by omega)
              obtain ⟨S9, e10, h⟩ := g_let_ex h
              have a := a.lsI e10 (by omega)
              exact a.trans (fr_X7_begin_74 n (f_X7_begin_15 n m) ih x1 x2 x3 x4 S9 h)
set_option maxHeartbeats 4000000 in
set_option maxRecDepth 100000 in
theorem fr_X7_begin {n : Nat} (a0 : Int32) (a1 : Int32) (a2 : Int32) (S : z_Stt) {v : Unit} {S' : z_Stt} (h : f_X7_begin n a0 a1 a2 S = some (v, S')) : agM S S' := by
  have a := agM.rfl S
  unfold f_X7_begin at h
  obtain ⟨c1, h⟩ := g_if h
  obtain ⟨S2, e3, h⟩ := g_let_ex h
  have a := a.lsA e3 (by omega)
  obtain ⟨S4, e5, h⟩ := g_let_ex h
  have a := a.lsI e5 (by omega)
  exact a.trans (fr_X7_begin_15 n n a0 a1 a2 0 S4 h)
set_option maxHeartbeats 4000000 in
set_option maxRecDepth 100000 in
theorem fr_X7_yardsOf_4 (n : Nat) {v : Int32} {S' : z_Stt} : ∀ (m : Nat) (x2 : Int32) (x3 : Int32) (S : z_Stt) (h : f_X7_yardsOf_4 n m x2 x3 S = some (v, S')), agM S S' := by
  intro m
  induction m with
  | zero => intro x2 x3 S h; simp [f_X7_yardsOf_4] at h
  | succ m ih =>
    intro x2 x3 S h
    have a := agM.rfl S
    rw [f_X7_yardsOf_4] at h
    rcases Classical.em (S.1 2802 ≤ x3) with c1 | c1
    · have h := g_t c1 h
      obtain ⟨rfl, rfl⟩ := g_some h
      exact a
    · have h := g_f c1 h
      rcases Classical.em (7 ≤ x3) with c2 | c2
      · have h := g_t c2 h
        obtain ⟨rfl, rfl⟩ := g_some h
        exact a
      · have h := g_f c2 h
        obtain ⟨c3, h⟩ := g_if h
        obtain ⟨c4, h⟩ := g_if h
        obtain ⟨v5, S6, e7, h⟩ := g_bd_ex h
        have a := a.trans (fr_X9_yards (S.2.2.1 29 (x3 - 1).toNatClampNeg) (S.2.2.1 29 x3.toNatClampNeg) _ e7)
        exact a.trans (ih (x2 + v5) (x3 + 1) S6 h)
set_option maxHeartbeats 4000000 in
set_option maxRecDepth 100000 in
theorem fr_X7_yardsOf {n : Nat} (S : z_Stt) {v : Int32} {S' : z_Stt} (h : f_X7_yardsOf n S = some (v, S')) : agM S S' := by
  have a := agM.rfl S
  unfold f_X7_yardsOf at h
  exact a.trans (fr_X7_yardsOf_4 n n 0 1 S h)
set_option maxHeartbeats 4000000 in
set_option maxRecDepth 100000 in
theorem fr_X7_keepOrder_2 (n : Nat) {v : Unit} {S' : z_Stt} : ∀ (m : Nat) (x1 : Int32) (S : z_Stt) (h : f_X7_keepOrder_2 n m x1 S = some (v, S')), agM S S' := by
  intro m
  induction m with
  | zero => intro x1 S h; simp [f_X7_keepOrder_2] at h
  | succ m ih =>
    intro x1 S h
    have a := agM.rfl S
    rw [f_X7_keepOrder_2] at h
    rcases Classical.em (7 ≤ x1) with c1 | c1
    · have h := g_t c1 h
      obtain ⟨rfl, rfl⟩ := g_some h
      exact a
    · have h := g_f c1 h
      obtain ⟨c2, h⟩ := g_if h
      obtain ⟨c3, h⟩ := g_if h
      obtain ⟨S4, e5, h⟩ := g_let_ex h
      have a := a.lsA e5 (by omega)
      exact a.trans (ih (x1 + 1) S4 h)
set_option maxHeartbeats 4000000 in
set_option maxRecDepth 100000 in
theorem fr_X7_keepOrder {n : Nat} (S : z_Stt) {v : Unit} {S' : z_Stt} (h : f_X7_keepOrder n S = some (v, S')) : agM S S' := by
  have a := agM.rfl S
  unfold f_X7_keepOrder at h
  exact a.trans (fr_X7_keepOrder_2 n n 0 S h)
set_option maxHeartbeats 4000000 in
set_option maxRecDepth 100000 in
theorem fr_X7_swap (a0 : Int32) (a1 : Int32) (S : z_Stt) {v : Unit} {S' : z_Stt} (h : f_X7_swap a0 a1 S = some (v, S')) : agM S S' := by
  have a := agM.rfl S
  unfold f_X7_swap at h
  obtain ⟨c1, h⟩ := g_if h
  obtain ⟨c2, h⟩ := g_if h
  obtain ⟨c3, h⟩ := g_if h
  obtain ⟨S4, e5, h⟩ := g_let_ex h
  have a := a.lsA e5 (by omega)
  obtain ⟨c6, h⟩ := g_if h
  obtain ⟨S7, e8, h⟩ := g_let_ex h
  have a := a.lsA e8 (by omega)
  obtain ⟨rfl, rfl⟩ := g_some h
  exact a
set_option maxHeartbeats 4000000 in
set_option maxRecDepth 100000 in
theorem fr_X7_nextOrder_85 (n : Nat) {v : Bool} {S' : z_Stt} : ∀ (m : Nat) (x1 : Int32) (x2 : Int32) (x4 : Int32) (S : z_Stt) (h : f_X7_nextOrder_85 n m x1 x2 x4 S = some (v, S')), agM S S' := by
  intro m
  induction m with
  | zero => intro x1 x2 x4 S h; simp [f_X7_nextOrder_85] at h
  | succ m ih =>
    intro x1 x2 x4 S h
    have a := agM.rfl S
    rw [f_X7_nextOrder_85] at h
    rcases Classical.em (x1 - x4 ≤ x2 + x4) with c1 | c1
    · have h := g_t c1 h
      obtain ⟨rfl, rfl⟩ := g_some h
      exact a
    · have h := g_f c1 h
      obtain ⟨v2, S3, e4, h⟩ := g_bd_ex h
      have a := a.trans (fr_X7_swap (x2 + x4) (x1 - x4) _ e4)
      exact a.trans (ih x1 x2 (x4 + 1) S3 h)
set_option maxHeartbeats 4000000 in
set_option maxRecDepth 100000 in
theorem fr_X7_nextOrder_74 (n : Nat) {v : Bool} {S' : z_Stt} (x1 : Int32) (x2 : Int32) (x3 : Int32) (S : z_Stt) (h : f_X7_nextOrder_74 n x1 x2 x3 S = some (v, S')) : agM S S' := by
  have a := agM.rfl S
  unfold f_X7_nextOrder_74 at h
  obtain ⟨v1, S2, e3, h⟩ := g_bd_ex h
  have a := a.trans (fr_X7_swap (x2 - 1) x3 _ e3)
  exact a.trans (fr_X7_nextOrder_85 n n x1 x2 0 S2 h)
set_option maxHeartbeats 4000000 in
set_option maxRecDepth 100000 in
theorem fr_X7_nextOrder_46 (n : Nat) {v : Bool} {S' : z_Stt} : ∀ (m : Nat) (x1 : Int32) (x2 : Int32) (x3 : Int32) (S : z_Stt) (h : f_X7_nextOrder_46 n m x1 x2 x3 S = some (v, S')), agM S S' := by
  intro m
  induction m with
  | zero => intro x1 x2 x3 S h; simp [f_X7_nextOrder_46] at h
  | succ m ih =>
    intro x1 x2 x3 S h
    have a := agM.rfl S
    rw [f_X7_nextOrder_46] at h
    rcases Classical.em (x3 ≤ x2) with c1 | c1
    · have h := g_t c1 h
      exact a.trans (fr_X7_nextOrder_74 n x1 x2 x3 S h)
    · have h := g_f c1 h
      obtain ⟨c2, h⟩ := g_if h
      obtain ⟨c3, h⟩ := g_if h
      rcases Classical.em (S.2.2.1 29 (x2 - 1).toNatClampNeg ≤ S.2.2.1 29 x3.toNatClampNeg) with c4 | c4
      · have h := g_t c4 h
        exact a.trans (fr_X7_nextOrder_74 n x1 x2 x3 S h)
      · have h := g_f c4 h
        exact a.trans (ih x1 x2 (x3 + (-1)) S h)
set_option maxHeartbeats 4000000 in
set_option maxRecDepth 100000 in
theorem fr_X7_nextOrder_37 (n : Nat) {v : Bool} {S' : z_Stt} (x1 : Int32) (x2 : Int32) (S : z_Stt) (h : f_X7_nextOrder_37 n x1 x2 S = some (v, S')) : agM S S' := by
  have a := agM.rfl S
  unfold f_X7_nextOrder_37 at h
  rcases Classical.em (1 < x2) with c1 | c1
  · have h := g_t c1 h
    exact a.trans (fr_X7_nextOrder_46 n n x1 x2 x1 S h)
  · have h := g_f c1 h
    obtain ⟨rfl, rfl⟩ := g_some h
    exact a
set_option maxHeartbeats 4000000 in
set_option maxRecDepth 100000 in
theorem fr_X7_nextOrder_9 (n : Nat) {v : Bool} {S' : z_Stt} : ∀ (m : Nat) (x1 : Int32) (x2 : Int32) (S : z_Stt) (h : f_X7_nextOrder_9 n m x1 x2 S = some (v, S')), agM S S' := by
  intro m
  induction m with
  | zero => intro x1 x2 S h; simp [f_X7_nextOrder_9] at h
  | succ m ih =>
    intro x1 x2 S h
    have a := agM.rfl S
    rw [f_X7_nextOrder_9] at h
    rcases Classical.em (x2 ≤ 1) with c1 | c1
    · have h := g_t c1 h
      exact a.trans (fr_X7_nextOrder_37 n x1 x2 S h)
    · have h := g_f c1 h
      obtain ⟨c2, h⟩ := g_if h
      obtain ⟨c3, h⟩ := g_if h
      rcases Classical.em (S.2.2.1 29 (x2 - 1).toNatClampNeg ≤ S.2.2.1 29 x2.toNatClampNeg) with c4 | c4
      · have h := g_t c4 h
        exact a.trans (fr_X7_nextOrder_37 n x1 x2 S h)
      · have h := g_f c4 h
        exact a.trans (ih x1 (x2 + (-1)) S h)
set_option maxHeartbeats 4000000 in
set_option maxRecDepth 100000 in
theorem fr_X7_nextOrder {n : Nat} (S : z_Stt) {v : Bool} {S' : z_Stt} (h : f_X7_nextOrder n S = some (v, S')) : agM S S' := by
  have a := agM.rfl S
  unfold f_X7_nextOrder at h
  exact a.trans (fr_X7_nextOrder_9 n n ((S.1 2802) - 2) ((S.1 2802) - 2) S h)
set_option maxHeartbeats 4000000 in
set_option maxRecDepth 100000 in
theorem fr_X7_find_64 (n : Nat) {v : Unit} {S' : z_Stt} (k24 : Int32 → z_Stt → Option (Unit × z_Stt)) (hk24 : ∀ (x5 : Int32) (S : z_Stt), k24 x5 S = some (v, S') → agM S S') (x5 : Int32) (S : z_Stt) (h : f_X7_find_64 n k24 x5 S = some (v, S')) : agM S S' := by
  have a := agM.rfl S
  unfold f_X7_find_64 at h
  exact a.trans (hk24 (x5 + 1) S h)
set_option maxHeartbeats 4000000 in
set_option maxRecDepth 100000 in
theorem fr_X7_find_24 (n : Nat) {v : Unit} {S' : z_Stt} : ∀ (m : Nat) (x5 : Int32) (S : z_Stt) (h : f_X7_find_24 n m x5 S = some (v, S')), agM S S' := by
  intro m
  induction m with
  | zero => intro x5 S h; simp [f_X7_find_24] at h
  | succ m ih =>
    intro x5 S h
    have a := agM.rfl S
    rw [f_X7_find_24] at h
    rcases Classical.em (120 ≤ x5) with c1 | c1
    · have h := g_t c1 h
      obtain ⟨rfl, rfl⟩ := g_some h
      exact a
    · have h := g_f c1 h
      obtain ⟨v2, S3, e4, h⟩ := g_bd_ex h
      have a := a.trans (fr_X7_nextOrder  _ e4)
      rcases g_bf v2 with c5 | c5
      · have h := g_f (Bool.eq_false_iff.mp c5) h
        obtain ⟨rfl, rfl⟩ := g_some h
        exact a
      · have h := g_t c5 h
        obtain ⟨v6, S7, e8, h⟩ := g_bd_ex h
        have a := a.trans (fr_X7_yardsOf  _ e8)
        rcases Classical.em (S7.1 2803 ≤ v6) with c9 | c9
        · have h := g_t c9 h
          exact a.trans (fr_X7_find_64 n (f_X7_find_24 n m) ih x5 S7 h)
        · have h := g_f c9 h
          obtain ⟨S10, e11, h⟩ := g_let_ex h
          have a := a.lsI e11 (by omega)
          obtain ⟨v12, S13, e14, h⟩ := g_bd_ex h
          have a := a.trans (fr_X7_keepOrder  _ e14)
          exact a.trans (fr_X7_find_64 n (f_X7_find_24 n m) ih x5 S13 h)
set_option maxHeartbeats 4000000 in
set_option maxRecDepth 100000 in
theorem fr_X7_find {n : Nat} (a1 : Int32) (a2 : Int32) (a3 : Int32) (S : z_Stt) {v : Unit} {S' : z_Stt} (h : f_X7_find n a1 a2 a3 S = some (v, S')) : agM S S' := by
  have a := agM.rfl S
  unfold f_X7_find at h
  obtain ⟨v1, S2, e3, h⟩ := g_bd_ex h
  have a := a.trans (fr_X7_begin a1 a2 a3 _ e3)
  obtain ⟨v4, S5, e6, h⟩ := g_bd_ex h
  have a := a.trans (fr_X7_yardsOf  _ e6)
  obtain ⟨S7, e8, h⟩ := g_let_ex h
  have a := a.lsI e8 (by omega)
  obtain ⟨v9, S10, e11, h⟩ := g_bd_ex h
  have a := a.trans (fr_X7_keepOrder  _ e11)
  exact a.trans (fr_X7_find_24 n n 1 S10 h)
set_option maxHeartbeats 4000000 in
set_option maxRecDepth 100000 in
theorem fr_X6_append_29 {v : Int32} {S' : z_Stt} (S : z_Stt) (h : f_X6_append_29 S = some (v, S')) : agM S S' := by
  have a := agM.rfl S
  unfold f_X6_append_29 at h
  obtain ⟨rfl, rfl⟩ := g_some h
  exact a
set_option maxHeartbeats 4000000 in
set_option maxRecDepth 100000 in
theorem fr_X6_append (a0 : Int32) (S : z_Stt) {v : Int32} {S' : z_Stt} (h : f_X6_append a0 S = some (v, S')) : agM S S' := by
  have a := agM.rfl S
  unfold f_X6_append at h
  rcases Classical.em (120 ≤ S.1 1301) with c1 | c1
  · have h := g_t c1 h
    exact a.trans (fr_X6_append_29 S h)
  · have h := g_f c1 h
    obtain ⟨c2, h⟩ := g_if h
    obtain ⟨c3, h⟩ := g_if h
    obtain ⟨S4, e5, h⟩ := g_let_ex h
    have a := a.lsA e5 (by omega)
    obtain ⟨S6, e7, h⟩ := g_let_ex h
    have a := a.lsI e7 (by omega)
    exact a.trans (fr_X6_append_29 S6 h)
set_option maxHeartbeats 4000000 in
set_option maxRecDepth 100000 in
theorem fr_X6_letter (S : z_Stt) {v : Int32} {S' : z_Stt} (h : f_X6_letter S = some (v, S')) : agM S S' := by
  have a := agM.rfl S
  unfold f_X6_letter at h
  rcases Classical.em (0 ≤ S.1 1306) with c1 | c1
  · have h := g_t c1 h
    obtain ⟨rfl, rfl⟩ := g_some h
    exact a
  · have h := g_f c1 h
    rcases Classical.em (S.1 1305 < 0) with c2 | c2
    · have h := g_t c2 h
      obtain ⟨rfl, rfl⟩ := g_some h
      exact a
    · have h := g_f c2 h
      rcases Classical.em (S.1 1303 ≤ S.1 1305) with c3 | c3
      · have h := g_t c3 h
        obtain ⟨rfl, rfl⟩ := g_some h
        exact a
      · have h := g_f c3 h
        rcases Classical.em (120 ≤ S.1 1305) with c4 | c4
        · have h := g_t c4 h
          obtain ⟨rfl, rfl⟩ := g_some h
          exact a
        · have h := g_f c4 h
          obtain ⟨c5, h⟩ := g_if h
          obtain ⟨c6, h⟩ := g_if h
          obtain ⟨rfl, rfl⟩ := g_some h
          exact a
set_option maxHeartbeats 4000000 in
set_option maxRecDepth 100000 in
theorem fr_X6_takes (a0 : Int32) (S : z_Stt) {v : Bool} {S' : z_Stt} (h : f_X6_takes a0 S = some (v, S')) : agM S S' := by
  have a := agM.rfl S
  unfold f_X6_takes at h
  obtain ⟨v1, S2, e3, h⟩ := g_bd_ex h
  have a := a.trans (fr_X6_letter  _ e3)
  rcases Classical.em (v1 = a0) with c4 | c4
  · have h := g_t c4 h
    obtain ⟨S5, e6, h⟩ := g_let_ex h
    have a := a.lsI e6 (by omega)
    obtain ⟨rfl, rfl⟩ := g_some h
    exact a
  · have h := g_f c4 h
    obtain ⟨rfl, rfl⟩ := g_some h
    exact a
set_option maxHeartbeats 4000000 in
set_option maxRecDepth 100000 in
theorem fr_X6_truth (a0 : Int32) (S : z_Stt) {v : Int32} {S' : z_Stt} (h : f_X6_truth a0 S = some (v, S')) : agM S S' := by
  have a := agM.rfl S
  unfold f_X6_truth at h
  rcases Classical.em (a0 = 0) with c1 | c1
  · have h := g_t c1 h
    obtain ⟨rfl, rfl⟩ := g_some h
    exact a
  · have h := g_f c1 h
    obtain ⟨rfl, rfl⟩ := g_some h
    exact a
set_option maxHeartbeats 4000000 in
set_option maxRecDepth 100000 in
theorem fr_X6_number_4 (n : Nat) {v : Int32} {S' : z_Stt} : ∀ (m : Nat) (x1 : Int32) (x2 : Int32) (S : z_Stt) (h : f_X6_number_4 n m x1 x2 S = some (v, S')), agM S S' := by
  intro m
  induction m with
  | zero => intro x1 x2 S h; simp [f_X6_number_4] at h
  | succ m ih =>
    intro x1 x2 S h
    have a := agM.rfl S
    rw [f_X6_number_4] at h
    rcases Classical.em (4 ≤ x2) with c1 | c1
    · have h := g_t c1 h
      obtain ⟨rfl, rfl⟩ := g_some h
      exact a
    · have h := g_f c1 h
      obtain ⟨v2, S3, e4, h⟩ := g_bd_ex h
      have a := a.trans (fr_X6_letter  _ e4)
      rcases Classical.em (v2 < 48) with c5 | c5
      · have h := g_t c5 h
        obtain ⟨rfl, rfl⟩ := g_some h
        exact a
      · have h := g_f c5 h
        obtain ⟨v6, S7, e8, h⟩ := g_bd_ex h
        have a := a.trans (fr_X6_letter  _ e8)
        rcases Classical.em (57 < v6) with c9 | c9
        · have h := g_t c9 h
          obtain ⟨rfl, rfl⟩ := g_some h
          exact a
        · have h := g_f c9 h
          obtain ⟨v10, S11, e12, h⟩ := g_bd_ex h
          have a := a.trans (fr_X6_letter  _ e12)
          obtain ⟨S13, e14, h⟩ := g_let_ex h
          have a := a.lsI e14 (by omega)
          exact a.trans (ih (((10 * x1) + v10) - 48) (x2 + 1) S13 h)
set_option maxHeartbeats 4000000 in
set_option maxRecDepth 100000 in
theorem fr_X6_number {n : Nat} (S : z_Stt) {v : Int32} {S' : z_Stt} (h : f_X6_number n S = some (v, S')) : agM S S' := by
  have a := agM.rfl S
  unfold f_X6_number at h
  exact a.trans (fr_X6_number_4 n n 0 0 S h)
set_option maxHeartbeats 4000000 in
set_option maxRecDepth 100000 in
theorem fr_X6_nameOf (a0 : Int32) (S : z_Stt) {v : Int32} {S' : z_Stt} (h : f_X6_nameOf a0 S = some (v, S')) : agM S S' := by
  have a := agM.rfl S
  unfold f_X6_nameOf at h
  by_cases c1 : a0 = 104
  · have h := g_t c1 h
    obtain ⟨rfl, rfl⟩ := g_some h
    exact a
  have h := g_f c1 h
  by_cases c2 : a0 = 110
  · have h := g_t c2 h
    obtain ⟨rfl, rfl⟩ := g_some h
    exact a
  have h := g_f c2 h
  by_cases c3 : a0 = 111
  · have h := g_t c3 h
    obtain ⟨rfl, rfl⟩ := g_some h
    exact a
  have h := g_f c3 h
  by_cases c4 : a0 = 112
  · have h := g_t c4 h
    obtain ⟨rfl, rfl⟩ := g_some h
    exact a
  have h := g_f c4 h
  by_cases c5 : a0 = 118
  · have h := g_t c5 h
    obtain ⟨rfl, rfl⟩ := g_some h
    exact a
  have h := g_f c5 h
  by_cases c6 : a0 = 121
  · have h := g_t c6 h
    obtain ⟨rfl, rfl⟩ := g_some h
    exact a
  have h := g_f c6 h
  obtain ⟨rfl, rfl⟩ := g_some h
  exact a
set_option maxHeartbeats 4000000 in
set_option maxRecDepth 100000 in
theorem fr_X6_fails (S : z_Stt) {v : Int32} {S' : z_Stt} (h : f_X6_fails S = some (v, S')) : agM S S' := by
  have a := agM.rfl S
  unfold f_X6_fails at h
  rcases Classical.em (0 ≤ S.1 1306) with c1 | c1
  · have h := g_t c1 h
    obtain ⟨rfl, rfl⟩ := g_some h
    exact a
  · have h := g_f c1 h
    obtain ⟨S2, e3, h⟩ := g_let_ex h
    have a := a.lsI e3 (by omega)
    obtain ⟨rfl, rfl⟩ := g_some h
    exact a
def HF_X6_either (G : GT_X6_either) : Prop := (∀ (a0 : Int32) (S : z_Stt) (v : Int32) (S' : z_Stt), G.1 a0 S = some (v, S') → agM S S') ∧ (∀ (a0 : Int32) (S : z_Stt) (v : Int32) (S' : z_Stt), G.2.1 a0 S = some (v, S') → agM S S') ∧ (∀ (a0 : Int32) (S : z_Stt) (v : Int32) (S' : z_Stt), G.2.2.1 a0 S = some (v, S') → agM S S') ∧ (∀ (a0 : Int32) (S : z_Stt) (v : Int32) (S' : z_Stt), G.2.2.2.1 a0 S = some (v, S') → agM S S') ∧ (∀ (a0 : Int32) (S : z_Stt) (v : Int32) (S' : z_Stt), G.2.2.2.2.1 a0 S = some (v, S') → agM S S') ∧ (∀ (a0 : Int32) (S : z_Stt) (v : Int32) (S' : z_Stt), G.2.2.2.2.2 a0 S = some (v, S') → agM S S')
set_option maxHeartbeats 4000000 in
set_option maxRecDepth 100000 in
theorem fr_X6_either_44 (n : Nat) (G : GT_X6_either) (hG : HF_X6_either G) {v : Int32} {S' : z_Stt} (k8 : Int32 → Int32 → Int32 → z_Stt → Option (Int32 × z_Stt)) (hk8 : ∀ (x1 : Int32) (x2 : Int32) (x3 : Int32) (S : z_Stt), k8 x1 x2 x3 S = some (v, S') → agM S S') (x1 : Int32) (x3 : Int32) (y0 : Int32) (S : z_Stt) (h : f_X6_either_44 n G k8 x1 x3 y0 S = some (v, S')) : agM S S' := by
  have a := agM.rfl S
  unfold f_X6_either_44 at h
  obtain ⟨v1, S2, e3, h⟩ := g_bd_ex h
  have a := a.trans (fr_X6_truth y0 _ e3)
  exact a.trans (hk8 x1 v1 (x3 + 1) S2 h)
set_option maxHeartbeats 4000000 in
set_option maxRecDepth 100000 in
theorem fr_X6_either_39 (n : Nat) (G : GT_X6_either) (hG : HF_X6_either G) {v : Int32} {S' : z_Stt} (k8 : Int32 → Int32 → Int32 → z_Stt → Option (Int32 × z_Stt)) (hk8 : ∀ (x1 : Int32) (x2 : Int32) (x3 : Int32) (S : z_Stt), k8 x1 x2 x3 S = some (v, S') → agM S S') (x1 : Int32) (x3 : Int32) (S : z_Stt) (h : f_X6_either_39 n G k8 x1 x3 S = some (v, S')) : agM S S' := by
  have a := agM.rfl S
  unfold f_X6_either_39 at h
  exact a.trans (fr_X6_either_44 n G hG k8 hk8 x1 x3 1 S h)
set_option maxHeartbeats 4000000 in
set_option maxRecDepth 100000 in
theorem fr_X6_either_8 (n : Nat) (G : GT_X6_either) (hG : HF_X6_either G) {v : Int32} {S' : z_Stt} : ∀ (m : Nat) (x1 : Int32) (x2 : Int32) (x3 : Int32) (S : z_Stt) (h : f_X6_either_8 n G m x1 x2 x3 S = some (v, S')), agM S S' := by
  intro m
  induction m with
  | zero => intro x1 x2 x3 S h; simp [f_X6_either_8] at h
  | succ m ih =>
    intro x1 x2 x3 S h
    have a := agM.rfl S
    rw [f_X6_either_8] at h
    rcases Classical.em (120 ≤ x3) with c1 | c1
    · have h := g_t c1 h
      obtain ⟨rfl, rfl⟩ := g_some h
      exact a
    · have h := g_f c1 h
      obtain ⟨v2, S3, e4, h⟩ := g_bd_ex h
      have a := a.trans (fr_X6_takes 124 _ e4)
      rcases g_bf v2 with c5 | c5
      · have h := g_f (Bool.eq_false_iff.mp c5) h
        obtain ⟨rfl, rfl⟩ := g_some h
        exact a
      · have h := g_t c5 h
        obtain ⟨v6, S7, e8, h⟩ := g_bd_ex h
        have a := a.trans (hG.2.1 x1 _ _ _ e8)
        rcases g_nem (x2 = 0) with c9 | c9
        · have h := g_f c9 h
          exact a.trans (fr_X6_either_39 n G hG (f_X6_either_8 n G m) ih x1 x3 S7 h)
        · have h := g_t c9 h
          rcases Classical.em (v6 = 0) with c10 | c10
          · have h := g_t c10 h
            exact a.trans (fr_X6_either_44 n G hG (f_X6_either_8 n G m) ih x1 x3 0 S7 h)
          · have h := g_f c10 h
            exact a.trans (fr_X6_either_39 n G hG (f_X6_either_8 n G m) ih x1 x3 S7 h)
set_option maxHeartbeats 4000000 in
set_option maxRecDepth 100000 in
theorem fr_X6_either {n : Nat} {G : GT_X6_either} (hG : HF_X6_either G) (a0 : Int32) (S : z_Stt) {v : Int32} {S' : z_Stt} (h : f_X6_either n G a0 S = some (v, S')) : agM S S' := by
  have a := agM.rfl S
  unfold f_X6_either at h
  obtain ⟨v1, S2, e3, h⟩ := g_bd_ex h
  have a := a.trans (hG.2.1 a0 _ _ _ e3)
  exact a.trans (fr_X6_either_8 n G hG n a0 v1 0 S2 h)
set_option maxHeartbeats 4000000 in
set_option maxRecDepth 100000 in
theorem fr_X6_both_44 (n : Nat) (G : GT_X6_either) (hG : HF_X6_either G) {v : Int32} {S' : z_Stt} (k8 : Int32 → Int32 → Int32 → z_Stt → Option (Int32 × z_Stt)) (hk8 : ∀ (x1 : Int32) (x2 : Int32) (x3 : Int32) (S : z_Stt), k8 x1 x2 x3 S = some (v, S') → agM S S') (x1 : Int32) (x3 : Int32) (y0 : Int32) (S : z_Stt) (h : f_X6_both_44 n G k8 x1 x3 y0 S = some (v, S')) : agM S S' := by
  have a := agM.rfl S
  unfold f_X6_both_44 at h
  obtain ⟨v1, S2, e3, h⟩ := g_bd_ex h
  have a := a.trans (fr_X6_truth y0 _ e3)
  exact a.trans (hk8 x1 v1 (x3 + 1) S2 h)
set_option maxHeartbeats 4000000 in
set_option maxRecDepth 100000 in
theorem fr_X6_both_43 (n : Nat) (G : GT_X6_either) (hG : HF_X6_either G) {v : Int32} {S' : z_Stt} (k8 : Int32 → Int32 → Int32 → z_Stt → Option (Int32 × z_Stt)) (hk8 : ∀ (x1 : Int32) (x2 : Int32) (x3 : Int32) (S : z_Stt), k8 x1 x2 x3 S = some (v, S') → agM S S') (x1 : Int32) (x3 : Int32) (S : z_Stt) (h : f_X6_both_43 n G k8 x1 x3 S = some (v, S')) : agM S S' := by
  have a := agM.rfl S
  unfold f_X6_both_43 at h
  exact a.trans (fr_X6_both_44 n G hG k8 hk8 x1 x3 0 S h)
set_option maxHeartbeats 4000000 in
set_option maxRecDepth 100000 in
theorem fr_X6_both_8 (n : Nat) (G : GT_X6_either) (hG : HF_X6_either G) {v : Int32} {S' : z_Stt} : ∀ (m : Nat) (x1 : Int32) (x2 : Int32) (x3 : Int32) (S : z_Stt) (h : f_X6_both_8 n G m x1 x2 x3 S = some (v, S')), agM S S' := by
  intro m
  induction m with
  | zero => intro x1 x2 x3 S h; simp [f_X6_both_8] at h
  | succ m ih =>
    intro x1 x2 x3 S h
    have a := agM.rfl S
    rw [f_X6_both_8] at h
    rcases Classical.em (120 ≤ x3) with c1 | c1
    · have h := g_t c1 h
      obtain ⟨rfl, rfl⟩ := g_some h
      exact a
    · have h := g_f c1 h
      obtain ⟨v2, S3, e4, h⟩ := g_bd_ex h
      have a := a.trans (fr_X6_takes 38 _ e4)
      rcases g_bf v2 with c5 | c5
      · have h := g_f (Bool.eq_false_iff.mp c5) h
        obtain ⟨rfl, rfl⟩ := g_some h
        exact a
      · have h := g_t c5 h
        obtain ⟨v6, S7, e8, h⟩ := g_bd_ex h
        have a := a.trans (hG.2.2.1 x1 _ _ _ e8)
        rcases Classical.em (x2 = 0) with c9 | c9
        · have h := g_t c9 h
          exact a.trans (fr_X6_both_43 n G hG (f_X6_both_8 n G m) ih x1 x3 S7 h)
        · have h := g_f c9 h
          rcases Classical.em (v6 = 0) with c10 | c10
          · have h := g_t c10 h
            exact a.trans (fr_X6_both_43 n G hG (f_X6_both_8 n G m) ih x1 x3 S7 h)
          · have h := g_f c10 h
            exact a.trans (fr_X6_both_44 n G hG (f_X6_both_8 n G m) ih x1 x3 1 S7 h)
set_option maxHeartbeats 4000000 in
set_option maxRecDepth 100000 in
theorem fr_X6_both {n : Nat} {G : GT_X6_either} (hG : HF_X6_either G) (a0 : Int32) (S : z_Stt) {v : Int32} {S' : z_Stt} (h : f_X6_both n G a0 S = some (v, S')) : agM S S' := by
  have a := agM.rfl S
  unfold f_X6_both at h
  obtain ⟨v1, S2, e3, h⟩ := g_bd_ex h
  have a := a.trans (hG.2.2.1 a0 _ _ _ e3)
  exact a.trans (fr_X6_both_8 n G hG n a0 v1 0 S2 h)
set_option maxHeartbeats 4000000 in
set_option maxRecDepth 100000 in
theorem fr_X6_comparison_83 (n : Nat) (G : GT_X6_either) (hG : HF_X6_either G) {v : Int32} {S' : z_Stt} (y0 : Int32) (S : z_Stt) (h : f_X6_comparison_83 n G y0 S = some (v, S')) : agM S S' := by
  have a := agM.rfl S
  unfold f_X6_comparison_83 at h
  obtain ⟨v1, S2, e3, h⟩ := g_bd_ex h
  have a := a.trans (fr_X6_truth y0 _ e3)
  obtain ⟨rfl, rfl⟩ := g_some h
  exact a
set_option maxHeartbeats 4000000 in
set_option maxRecDepth 100000 in
theorem fr_X6_comparison_56 (n : Nat) (G : GT_X6_either) (hG : HF_X6_either G) {v : Int32} {S' : z_Stt} (y0 : Int32) (S : z_Stt) (h : f_X6_comparison_56 n G y0 S = some (v, S')) : agM S S' := by
  have a := agM.rfl S
  unfold f_X6_comparison_56 at h
  obtain ⟨v1, S2, e3, h⟩ := g_bd_ex h
  have a := a.trans (fr_X6_truth y0 _ e3)
  obtain ⟨rfl, rfl⟩ := g_some h
  exact a
set_option maxHeartbeats 4000000 in
set_option maxRecDepth 100000 in
theorem fr_X6_comparison_29 (n : Nat) (G : GT_X6_either) (hG : HF_X6_either G) {v : Int32} {S' : z_Stt} (y0 : Int32) (S : z_Stt) (h : f_X6_comparison_29 n G y0 S = some (v, S')) : agM S S' := by
  have a := agM.rfl S
  unfold f_X6_comparison_29 at h
  obtain ⟨v1, S2, e3, h⟩ := g_bd_ex h
  have a := a.trans (fr_X6_truth y0 _ e3)
  obtain ⟨rfl, rfl⟩ := g_some h
  exact a
set_option maxHeartbeats 4000000 in
set_option maxRecDepth 100000 in
theorem fr_X6_comparison {n : Nat} {G : GT_X6_either} (hG : HF_X6_either G) (a0 : Int32) (S : z_Stt) {v : Int32} {S' : z_Stt} (h : f_X6_comparison n G a0 S = some (v, S')) : agM S S' := by
  have a := agM.rfl S
  unfold f_X6_comparison at h
  obtain ⟨v1, S2, e3, h⟩ := g_bd_ex h
  have a := a.trans (hG.2.2.2.1 a0 _ _ _ e3)
  obtain ⟨v4, S5, e6, h⟩ := g_bd_ex h
  have a := a.trans (fr_X6_takes 60 _ e6)
  rcases g_bf v4 with c7 | c7
  · have h := g_f (Bool.eq_false_iff.mp c7) h
    obtain ⟨v8, S9, e10, h⟩ := g_bd_ex h
    have a := a.trans (fr_X6_takes 61 _ e10)
    rcases g_bf v8 with c11 | c11
    · have h := g_f (Bool.eq_false_iff.mp c11) h
      obtain ⟨v12, S13, e14, h⟩ := g_bd_ex h
      have a := a.trans (fr_X6_takes 62 _ e14)
      rcases g_bf v12 with c15 | c15
      · have h := g_f (Bool.eq_false_iff.mp c15) h
        obtain ⟨rfl, rfl⟩ := g_some h
        exact a
      · have h := g_t c15 h
        obtain ⟨v16, S17, e18, h⟩ := g_bd_ex h
        have a := a.trans (hG.2.2.2.1 a0 _ _ _ e18)
        rcases Classical.em (v1 ≤ v16) with c19 | c19
        · have h := g_t c19 h
          exact a.trans (fr_X6_comparison_83 n G hG 0 S17 h)
        · have h := g_f c19 h
          exact a.trans (fr_X6_comparison_83 n G hG 1 S17 h)
    · have h := g_t c11 h
      obtain ⟨v20, S21, e22, h⟩ := g_bd_ex h
      have a := a.trans (hG.2.2.2.1 a0 _ _ _ e22)
      rcases g_nem (v1 = v20) with c23 | c23
      · have h := g_f c23 h
        exact a.trans (fr_X6_comparison_56 n G hG 0 S21 h)
      · have h := g_t c23 h
        exact a.trans (fr_X6_comparison_56 n G hG 1 S21 h)
  · have h := g_t c7 h
    obtain ⟨v24, S25, e26, h⟩ := g_bd_ex h
    have a := a.trans (hG.2.2.2.1 a0 _ _ _ e26)
    rcases Classical.em (v24 ≤ v1) with c27 | c27
    · have h := g_t c27 h
      exact a.trans (fr_X6_comparison_29 n G hG 0 S25 h)
    · have h := g_f c27 h
      exact a.trans (fr_X6_comparison_29 n G hG 1 S25 h)
set_option maxHeartbeats 4000000 in
set_option maxRecDepth 100000 in
theorem fr_X6_sum_56 (n : Nat) (G : GT_X6_either) (hG : HF_X6_either G) {v : Int32} {S' : z_Stt} (k8 : Int32 → Int32 → Int32 → z_Stt → Option (Int32 × z_Stt)) (hk8 : ∀ (x1 : Int32) (x2 : Int32) (x3 : Int32) (S : z_Stt), k8 x1 x2 x3 S = some (v, S') → agM S S') (x1 : Int32) (x2 : Int32) (x3 : Int32) (S : z_Stt) (h : f_X6_sum_56 n G k8 x1 x2 x3 S = some (v, S')) : agM S S' := by
  have a := agM.rfl S
  unfold f_X6_sum_56 at h
  exact a.trans (hk8 x1 x2 (x3 + 1) S h)
set_option maxHeartbeats 4000000 in
set_option maxRecDepth 100000 in
theorem fr_X6_sum_8 (n : Nat) (G : GT_X6_either) (hG : HF_X6_either G) {v : Int32} {S' : z_Stt} : ∀ (m : Nat) (x1 : Int32) (x2 : Int32) (x3 : Int32) (S : z_Stt) (h : f_X6_sum_8 n G m x1 x2 x3 S = some (v, S')), agM S S' := by
  intro m
  induction m with
  | zero => intro x1 x2 x3 S h; simp [f_X6_sum_8] at h
  | succ m ih =>
    intro x1 x2 x3 S h
    have a := agM.rfl S
    rw [f_X6_sum_8] at h
    rcases Classical.em (120 ≤ x3) with c1 | c1
    · have h := g_t c1 h
      obtain ⟨rfl, rfl⟩ := g_some h
      exact a
    · have h := g_f c1 h
      obtain ⟨v2, S3, e4, h⟩ := g_bd_ex h
      have a := a.trans (fr_X6_takes 43 _ e4)
      rcases g_bf v2 with c5 | c5
      · have h := g_f (Bool.eq_false_iff.mp c5) h
        obtain ⟨v6, S7, e8, h⟩ := g_bd_ex h
        have a := a.trans (fr_X6_takes 45 _ e8)
        rcases g_bf v6 with c9 | c9
        · have h := g_f (Bool.eq_false_iff.mp c9) h
          obtain ⟨rfl, rfl⟩ := g_some h
          exact a
        · have h := g_t c9 h
          obtain ⟨v10, S11, e12, h⟩ := g_bd_ex h
          have a := a.trans (hG.2.2.2.2.1 x1 _ _ _ e12)
          exact a.trans (fr_X6_sum_56 n G hG (f_X6_sum_8 n G m) ih x1 (x2 - v10) x3 S11 h)
      · have h := g_t c5 h
        obtain ⟨v13, S14, e15, h⟩ := g_bd_ex h
        have a := a.trans (hG.2.2.2.2.1 x1 _ _ _ e15)
        exact a.trans (fr_X6_sum_56 n G hG (f_X6_sum_8 n G m) ih x1 (x2 + v13) x3 S14 h)
set_option maxHeartbeats 4000000 in
set_option maxRecDepth 100000 in
theorem fr_X6_sum {n : Nat} {G : GT_X6_either} (hG : HF_X6_either G) (a0 : Int32) (S : z_Stt) {v : Int32} {S' : z_Stt} (h : f_X6_sum n G a0 S = some (v, S')) : agM S S' := by
  have a := agM.rfl S
  unfold f_X6_sum at h
  obtain ⟨v1, S2, e3, h⟩ := g_bd_ex h
  have a := a.trans (hG.2.2.2.2.1 a0 _ _ _ e3)
  exact a.trans (fr_X6_sum_8 n G hG n a0 v1 0 S2 h)
set_option maxHeartbeats 4000000 in
set_option maxRecDepth 100000 in
theorem fr_X6_product_102 (n : Nat) (G : GT_X6_either) (hG : HF_X6_either G) {v : Int32} {S' : z_Stt} (k8 : Int32 → Int32 → Int32 → z_Stt → Option (Int32 × z_Stt)) (hk8 : ∀ (x1 : Int32) (x2 : Int32) (x3 : Int32) (S : z_Stt), k8 x1 x2 x3 S = some (v, S') → agM S S') (x1 : Int32) (x2 : Int32) (x3 : Int32) (S : z_Stt) (h : f_X6_product_102 n G k8 x1 x2 x3 S = some (v, S')) : agM S S' := by
  have a := agM.rfl S
  unfold f_X6_product_102 at h
  exact a.trans (hk8 x1 x2 (x3 + 1) S h)
set_option maxHeartbeats 4000000 in
set_option maxRecDepth 100000 in
theorem fr_X6_product_96 (n : Nat) (G : GT_X6_either) (hG : HF_X6_either G) {v : Int32} {S' : z_Stt} (k8 : Int32 → Int32 → Int32 → z_Stt → Option (Int32 × z_Stt)) (hk8 : ∀ (x1 : Int32) (x2 : Int32) (x3 : Int32) (S : z_Stt), k8 x1 x2 x3 S = some (v, S') → agM S S') (x1 : Int32) (x3 : Int32) (y0 : Int32) (S : z_Stt) (h : f_X6_product_96 n G k8 x1 x3 y0 S = some (v, S')) : agM S S' := by
  have a := agM.rfl S
  unfold f_X6_product_96 at h
  exact a.trans (fr_X6_product_102 n G hG k8 hk8 x1 y0 x3 S h)
set_option maxHeartbeats 4000000 in
set_option maxRecDepth 100000 in
theorem fr_X6_product_63 (n : Nat) (G : GT_X6_either) (hG : HF_X6_either G) {v : Int32} {S' : z_Stt} (k8 : Int32 → Int32 → Int32 → z_Stt → Option (Int32 × z_Stt)) (hk8 : ∀ (x1 : Int32) (x2 : Int32) (x3 : Int32) (S : z_Stt), k8 x1 x2 x3 S = some (v, S') → agM S S') (x1 : Int32) (x3 : Int32) (y0 : Int32) (S : z_Stt) (h : f_X6_product_63 n G k8 x1 x3 y0 S = some (v, S')) : agM S S' := by
  have a := agM.rfl S
  unfold f_X6_product_63 at h
  exact a.trans (fr_X6_product_102 n G hG k8 hk8 x1 y0 x3 S h)
set_option maxHeartbeats 4000000 in
set_option maxRecDepth 100000 in
theorem fr_X6_product_8 (n : Nat) (G : GT_X6_either) (hG : HF_X6_either G) {v : Int32} {S' : z_Stt} : ∀ (m : Nat) (x1 : Int32) (x2 : Int32) (x3 : Int32) (S : z_Stt) (h : f_X6_product_8 n G m x1 x2 x3 S = some (v, S')), agM S S' := by
  intro m
  induction m with
  | zero => intro x1 x2 x3 S h; simp [f_X6_product_8] at h
  | succ m ih =>
    intro x1 x2 x3 S h
    have a := agM.rfl S
    rw [f_X6_product_8] at h
    rcases Classical.em (120 ≤ x3) with c1 | c1
    · have h := g_t c1 h
      obtain ⟨rfl, rfl⟩ := g_some h
      exact a
    · have h := g_f c1 h
      obtain ⟨v2, S3, e4, h⟩ := g_bd_ex h
      have a := a.trans (fr_X6_takes 42 _ e4)
      rcases g_bf v2 with c5 | c5
      · have h := g_f (Bool.eq_false_iff.mp c5) h
        obtain ⟨v6, S7, e8, h⟩ := g_bd_ex h
        have a := a.trans (fr_X6_takes 47 _ e8)
        rcases g_bf v6 with c9 | c9
        · have h := g_f (Bool.eq_false_iff.mp c9) h
          obtain ⟨v10, S11, e12, h⟩ := g_bd_ex h
          have a := a.trans (fr_X6_takes 37 _ e12)
          rcases g_bf v10 with c13 | c13
          · have h := g_f (Bool.eq_false_iff.mp c13) h
            obtain ⟨rfl, rfl⟩ := g_some h
            exact a
          · have h := g_t c13 h
            obtain ⟨v14, S15, e16, h⟩ := g_bd_ex h
            have a := a.trans (hG.2.2.2.2.2 x1 _ _ _ e16)
            rcases g_nem (v14 = 0) with c17 | c17
            · have h := g_f c17 h
              obtain ⟨c18, h⟩ := g_if h
              exact a.trans (fr_X6_product_96 n G hG (f_X6_product_8 n G m) ih x1 x3 (x2 % v14) S15 h)
            · have h := g_t c17 h
              exact a.trans (fr_X6_product_96 n G hG (f_X6_product_8 n G m) ih x1 x3 0 S15 h)
        · have h := g_t c9 h
          obtain ⟨v19, S20, e21, h⟩ := g_bd_ex h
          have a := a.trans (hG.2.2.2.2.2 x1 _ _ _ e21)
          rcases g_nem (v19 = 0) with c22 | c22
          · have h := g_f c22 h
            obtain ⟨c23, h⟩ := g_if h
            exact a.trans (fr_X6_product_63 n G hG (f_X6_product_8 n G m) ih x1 x3 (x2 / v19) S20 h)
          · have h := g_t c22 h
            exact a.trans (fr_X6_product_63 n G hG (f_X6_product_8 n G m) ih x1 x3 0 S20 h)
      · have h := g_t c5 h
        obtain ⟨v24, S25, e26, h⟩ := g_bd_ex h
        have a := a.trans (hG.2.2.2.2.2 x1 _ _ _ e26)
        exact a.trans (fr_X6_product_102 n G hG (f_X6_product_8 n G m) ih x1 (x2 * v24) x3 S25 h)
set_option maxHeartbeats 4000000 in
set_option maxRecDepth 100000 in
theorem fr_X6_product {n : Nat} {G : GT_X6_either} (hG : HF_X6_either G) (a0 : Int32) (S : z_Stt) {v : Int32} {S' : z_Stt} (h : f_X6_product n G a0 S = some (v, S')) : agM S S' := by
  have a := agM.rfl S
  unfold f_X6_product at h
  obtain ⟨v1, S2, e3, h⟩ := g_bd_ex h
  have a := a.trans (hG.2.2.2.2.2 a0 _ _ _ e3)
  exact a.trans (fr_X6_product_8 n G hG n a0 v1 0 S2 h)
set_option maxHeartbeats 4000000 in
set_option maxRecDepth 100000 in
theorem fr_X6_operand_83 (n : Nat) (G : GT_X6_either) (hG : HF_X6_either G) {v : Int32} {S' : z_Stt} (y0 : Int32) (S : z_Stt) (h : f_X6_operand_83 n G y0 S = some (v, S')) : agM S S' := by
  have a := agM.rfl S
  unfold f_X6_operand_83 at h
  obtain ⟨v1, S2, e3, h⟩ := g_bd_ex h
  have a := a.trans (fr_X6_truth y0 _ e3)
  obtain ⟨rfl, rfl⟩ := g_some h
  exact a
set_option maxHeartbeats 4000000 in
set_option maxRecDepth 100000 in
theorem fr_X6_operand_22 (n : Nat) (G : GT_X6_either) (hG : HF_X6_either G) {v : Int32} {S' : z_Stt} (x1 : Int32) (x2 : Int32) (S : z_Stt) (h : f_X6_operand_22 n G x1 x2 S = some (v, S')) : agM S S' := by
  have a := agM.rfl S
  unfold f_X6_operand_22 at h
  obtain ⟨v1, S2, e3, h⟩ := g_bd_ex h
  have a := a.trans (fr_X6_nameOf x2 _ e3)
  rcases Classical.em (v1 < 0) with c4 | c4
  · have h := g_t c4 h
    rcases Classical.em (x1 < 6) with c5 | c5
    · have h := g_t c5 h
      obtain ⟨v6, S7, e8, h⟩ := g_bd_ex h
      have a := a.trans (fr_X6_takes 33 _ e8)
      rcases g_bf v6 with c9 | c9
      · have h := g_f (Bool.eq_false_iff.mp c9) h
        obtain ⟨v10, S11, e12, h⟩ := g_bd_ex h
        have a := a.trans (fr_X6_takes 45 _ e12)
        rcases g_bf v10 with c13 | c13
        · have h := g_f (Bool.eq_false_iff.mp c13) h
          obtain ⟨v14, S15, e16, h⟩ := g_bd_ex h
          have a := a.trans (fr_X6_takes 40 _ e16)
          rcases g_bt v14 with c17 | c17
          · have h := g_t c17 h
            obtain ⟨v18, S19, e20, h⟩ := g_bd_ex h
            have a := a.trans (hG.1 (x1 + 1) _ _ _ e20)
            obtain ⟨v21, S22, e23, h⟩ := g_bd_ex h
            have a := a.trans (fr_X6_takes 41 _ e23)
            rcases g_bf v21 with c24 | c24
            · have h := g_f (Bool.eq_false_iff.mp c24) h
              obtain ⟨v25, S26, e27, h⟩ := g_bd_ex h
              have a := a.trans (fr_X6_fails  _ e27)
              obtain ⟨rfl, rfl⟩ := g_some h
              exact a
            · have h := g_t c24 h
              obtain ⟨rfl, rfl⟩ := g_some h
              exact a
          · have h := g_f (Bool.eq_false_iff.mp c17) h
            obtain ⟨v28, S29, e30, h⟩ := g_bd_ex h
            have a := a.trans (fr_X6_fails  _ e30)
            obtain ⟨rfl, rfl⟩ := g_some h
            exact a
        · have h := g_t c13 h
          obtain ⟨v31, S32, e33, h⟩ := g_bd_ex h
          have a := a.trans (hG.2.2.2.2.2 (x1 + 1) _ _ _ e33)
          obtain ⟨rfl, rfl⟩ := g_some h
          exact a
      · have h := g_t c9 h
        obtain ⟨v34, S35, e36, h⟩ := g_bd_ex h
        have a := a.trans (hG.2.2.2.2.2 (x1 + 1) _ _ _ e36)
        rcases g_nem (v34 = 0) with c37 | c37
        · have h := g_f c37 h
          exact a.trans (fr_X6_operand_83 n G hG 0 S35 h)
        · have h := g_t c37 h
          exact a.trans (fr_X6_operand_83 n G hG 1 S35 h)
    · have h := g_f c5 h
      obtain ⟨v38, S39, e40, h⟩ := g_bd_ex h
      have a := a.trans (fr_X6_fails  _ e40)
      obtain ⟨rfl, rfl⟩ := g_some h
      exact a
  · have h := g_f c4 h
    obtain ⟨S41, e42, h⟩ := g_let_ex h
    have a := a.lsI e42 (by omega)
    obtain ⟨c43, h⟩ := g_if h
    obtain ⟨rfl, rfl⟩ := g_some h
    exact a
set_option maxHeartbeats 4000000 in
set_option maxRecDepth 100000 in
theorem fr_X6_operand {n : Nat} {G : GT_X6_either} (hG : HF_X6_either G) (a0 : Int32) (S : z_Stt) {v : Int32} {S' : z_Stt} (h : f_X6_operand n G a0 S = some (v, S')) : agM S S' := by
  have a := agM.rfl S
  unfold f_X6_operand at h
  obtain ⟨v1, S2, e3, h⟩ := g_bd_ex h
  have a := a.trans (fr_X6_letter  _ e3)
  rcases Classical.em (v1 < 48) with c4 | c4
  · have h := g_t c4 h
    exact a.trans (fr_X6_operand_22 n G hG a0 v1 S2 h)
  · have h := g_f c4 h
    rcases Classical.em (57 < v1) with c5 | c5
    · have h := g_t c5 h
      exact a.trans (fr_X6_operand_22 n G hG a0 v1 S2 h)
    · have h := g_f c5 h
      obtain ⟨v6, S7, e8, h⟩ := g_bd_ex h
      have a := a.trans (fr_X6_number  _ e8)
      obtain ⟨rfl, rfl⟩ := g_some h
      exact a
set_option maxHeartbeats 4000000 in
set_option maxRecDepth 100000 in
theorem hf_X6_either {n : Nat} : ∀ dp : Nat, HF_X6_either (g_X6_either n dp) := by
  intro dp
  induction dp with
  | zero => exact ⟨(fun _ _ _ _ h => nomatch h), (fun _ _ _ _ h => nomatch h), (fun _ _ _ _ h => nomatch h), (fun _ _ _ _ h => nomatch h), (fun _ _ _ _ h => nomatch h), (fun _ _ _ _ h => nomatch h)⟩
  | succ dp ih => exact ⟨(fun a0 S v S' h => fr_X6_either (n := n) ih a0 S h), (fun a0 S v S' h => fr_X6_both (n := n) ih a0 S h), (fun a0 S v S' h => fr_X6_comparison (n := n) ih a0 S h), (fun a0 S v S' h => fr_X6_sum (n := n) ih a0 S h), (fun a0 S v S' h => fr_X6_product (n := n) ih a0 S h), (fun a0 S v S' h => fr_X6_operand (n := n) ih a0 S h)⟩
theorem frg_X6_either {n : Nat} (a0 : Int32) (S : z_Stt) {v : Int32} {S' : z_Stt} (h : (g_X6_either n 64).1 a0 S = some (v, S')) : agM S S' := (hf_X6_either 64).1 a0 S _ _ h
theorem frg_X6_both {n : Nat} (a0 : Int32) (S : z_Stt) {v : Int32} {S' : z_Stt} (h : (g_X6_either n 64).2.1 a0 S = some (v, S')) : agM S S' := (hf_X6_either 64).2.1 a0 S _ _ h
theorem frg_X6_comparison {n : Nat} (a0 : Int32) (S : z_Stt) {v : Int32} {S' : z_Stt} (h : (g_X6_either n 64).2.2.1 a0 S = some (v, S')) : agM S S' := (hf_X6_either 64).2.2.1 a0 S _ _ h
theorem frg_X6_sum {n : Nat} (a0 : Int32) (S : z_Stt) {v : Int32} {S' : z_Stt} (h : (g_X6_either n 64).2.2.2.1 a0 S = some (v, S')) : agM S S' := (hf_X6_either 64).2.2.2.1 a0 S _ _ h
theorem frg_X6_product {n : Nat} (a0 : Int32) (S : z_Stt) {v : Int32} {S' : z_Stt} (h : (g_X6_either n 64).2.2.2.2.1 a0 S = some (v, S')) : agM S S' := (hf_X6_either 64).2.2.2.2.1 a0 S _ _ h
theorem frg_X6_operand {n : Nat} (a0 : Int32) (S : z_Stt) {v : Int32} {S' : z_Stt} (h : (g_X6_either n 64).2.2.2.2.2 a0 S = some (v, S')) : agM S S' := (hf_X6_either 64).2.2.2.2.2 a0 S _ _ h
set_option maxHeartbeats 4000000 in
set_option maxRecDepth 100000 in
theorem fr_X6_lines_92 (n : Nat) {v : Int32} {S' : z_Stt} (x2 : Int32) (S : z_Stt) (h : f_X6_lines_92 n x2 S = some (v, S')) : agM S S' := by
  have a := agM.rfl S
  unfold f_X6_lines_92 at h
  rcases Classical.em (S.1 1303 ≤ S.1 1305) with c1 | c1
  · have h := g_t c1 h
    obtain ⟨rfl, rfl⟩ := g_some h
    exact a
  · have h := g_f c1 h
    obtain ⟨v2, S3, e4, h⟩ := g_bd_ex h
    have a := a.trans (fr_X6_fails  _ e4)
    obtain ⟨rfl, rfl⟩ := g_some h
    exact a
set_option maxHeartbeats 4000000 in
set_option maxRecDepth 100000 in
theorem fr_X6_lines_86 (n : Nat) {v : Int32} {S' : z_Stt} (k16 : Int32 → Int32 → Int32 → z_Stt → Option (Int32 × z_Stt)) (hk16 : ∀ (x1 : Int32) (x2 : Int32) (x3 : Int32) (S : z_Stt), k16 x1 x2 x3 S = some (v, S') → agM S S') (x1 : Int32) (x2 : Int32) (x3 : Int32) (S : z_Stt) (h : f_X6_lines_86 n k16 x1 x2 x3 S = some (v, S')) : agM S S' := by
  have a := agM.rfl S
  unfold f_X6_lines_86 at h
  exact a.trans (hk16 x1 x2 (x3 + 1) S h)
set_option maxHeartbeats 4000000 in
set_option maxRecDepth 100000 in
theorem fr_X6_lines_81 (n : Nat) {v : Int32} {S' : z_Stt} (k16 : Int32 → Int32 → Int32 → z_Stt → Option (Int32 × z_Stt)) (hk16 : ∀ (x1 : Int32) (x2 : Int32) (x3 : Int32) (S : z_Stt), k16 x1 x2 x3 S = some (v, S') → agM S S') (x3 : Int32) (x6 : Int32) (S : z_Stt) (h : f_X6_lines_81 n k16 x3 x6 S = some (v, S')) : agM S S' := by
  have a := agM.rfl S
  unfold f_X6_lines_81 at h
  exact a.trans (fr_X6_lines_86 n k16 hk16 1 x6 x3 S h)
set_option maxHeartbeats 4000000 in
set_option maxRecDepth 100000 in
theorem fr_X6_lines_65 (n : Nat) {v : Int32} {S' : z_Stt} (k16 : Int32 → Int32 → Int32 → z_Stt → Option (Int32 × z_Stt)) (hk16 : ∀ (x1 : Int32) (x2 : Int32) (x3 : Int32) (S : z_Stt), k16 x1 x2 x3 S = some (v, S') → agM S S') (x1 : Int32) (x2 : Int32) (x3 : Int32) (x4 : Int32) (x5 : Int32) (y0 : Int32) (S : z_Stt) (h : f_X6_lines_65 n k16 x1 x2 x3 x4 x5 y0 S = some (v, S')) : agM S S' := by
  have a := agM.rfl S
  unfold f_X6_lines_65 at h
  rcases g_nem (x1 = 0) with c1 | c1
  · have h := g_f c1 h
    exact a.trans (fr_X6_lines_86 n k16 hk16 x1 x2 x3 S h)
  · have h := g_t c1 h
    rcases Classical.em (x5 = 0) with c2 | c2
    · have h := g_t c2 h
      exact a.trans (fr_X6_lines_81 n k16 hk16 x3 y0 S h)
    · have h := g_f c2 h
      rcases Classical.em (x4 = 0) with c3 | c3
      · have h := g_t c3 h
        exact a.trans (fr_X6_lines_86 n k16 hk16 x1 x2 x3 S h)
      · have h := g_f c3 h
        exact a.trans (fr_X6_lines_81 n k16 hk16 x3 y0 S h)
set_option maxHeartbeats 4000000 in
set_option maxRecDepth 100000 in
theorem fr_X6_lines_35 (n : Nat) {v : Int32} {S' : z_Stt} (k16 : Int32 → Int32 → Int32 → z_Stt → Option (Int32 × z_Stt)) (hk16 : ∀ (x1 : Int32) (x2 : Int32) (x3 : Int32) (S : z_Stt), k16 x1 x2 x3 S = some (v, S') → agM S S') (x1 : Int32) (x2 : Int32) (x3 : Int32) (S : z_Stt) (h : f_X6_lines_35 n k16 x1 x2 x3 S = some (v, S')) : agM S S' := by
  have a := agM.rfl S
  unfold f_X6_lines_35 at h
  obtain ⟨v1, S2, e3, h⟩ := g_bd_ex h
  have a := a.trans (frg_X6_either 0 _ e3)
  obtain ⟨v4, S5, e6, h⟩ := g_bd_ex h
  have a := a.trans (fr_X6_takes 63 _ e6)
  rcases g_bf v4 with c7 | c7
  · have h := g_f (Bool.eq_false_iff.mp c7) h
    exact a.trans (fr_X6_lines_65 n k16 hk16 x1 x2 x3 v1 (bI v4) v1 S5 h)
  · have h := g_t c7 h
    obtain ⟨v8, S9, e10, h⟩ := g_bd_ex h
    have a := a.trans (frg_X6_either 0 _ e10)
    exact a.trans (fr_X6_lines_65 n k16 hk16 x1 x2 x3 v1 (bI v4) v8 S9 h)
set_option maxHeartbeats 4000000 in
set_option maxRecDepth 100000 in
theorem fr_X6_lines_16 (n : Nat) {v : Int32} {S' : z_Stt} : ∀ (m : Nat) (x1 : Int32) (x2 : Int32) (x3 : Int32) (S : z_Stt) (h : f_X6_lines_16 n m x1 x2 x3 S = some (v, S')), agM S S' := by
  intro m
  induction m with
  | zero => intro x1 x2 x3 S h; simp [f_X6_lines_16] at h
  | succ m ih =>
    intro x1 x2 x3 S h
    have a := agM.rfl S
    rw [f_X6_lines_16] at h
    rcases Classical.em (120 ≤ x3) with c1 | c1
    · have h := g_t c1 h
      exact a.trans (fr_X6_lines_92 n x2 S h)
    · have h := g_f c1 h
      rcases Classical.em (x3 = 0) with c2 | c2
      · have h := g_t c2 h
        exact a.trans (fr_X6_lines_35 n (f_X6_lines_16 n m) ih x1 x2 x3 S h)
      · have h := g_f c2 h
        obtain ⟨v3, S4, e5, h⟩ := g_bd_ex h
        have a := a.trans (fr_X6_takes 59 _ e5)
        rcases g_bf v3 with c6 | c6
        · have h := g_f (Bool.eq_false_iff.mp c6) h
          exact a.trans (fr_X6_lines_92 n x2 S4 h)
        · have h := g_t c6 h
          exact a.trans (fr_X6_lines_35 n (f_X6_lines_16 n m) ih x1 x2 x3 S4 h)
set_option maxHeartbeats 4000000 in
set_option maxRecDepth 100000 in
theorem fr_X6_lines {n : Nat} (S : z_Stt) {v : Int32} {S' : z_Stt} (h : f_X6_lines n S = some (v, S')) : agM S S' := by
  have a := agM.rfl S
  unfold f_X6_lines at h
  obtain ⟨S1, e2, h⟩ := g_let_ex h
  have a := a.lsI e2 (by omega)
  obtain ⟨S3, e4, h⟩ := g_let_ex h
  have a := a.lsI e4 (by omega)
  exact a.trans (fr_X6_lines_16 n n 0 0 0 S3 h)
set_option maxHeartbeats 4000000 in
set_option maxRecDepth 100000 in
theorem fr_X6_enact_66 (n : Nat) {v : Int32} {S' : z_Stt} (S : z_Stt) (h : f_X6_enact_66 n S = some (v, S')) : agM S S' := by
  have a := agM.rfl S
  unfold f_X6_enact_66 at h
  obtain ⟨rfl, rfl⟩ := g_some h
  exact a
set_option maxHeartbeats 4000000 in
set_option maxRecDepth 100000 in
theorem fr_X6_enact {n : Nat} (S : z_Stt) {v : Int32} {S' : z_Stt} (h : f_X6_enact n S = some (v, S')) : agM S S' := by
  have a := agM.rfl S
  unfold f_X6_enact at h
  obtain ⟨S1, e2, h⟩ := g_let_ex h
  have a := a.lsR e2
  obtain ⟨S3, e4, h⟩ := g_let_ex h
  have a := a.lsI e4 (by omega)
  obtain ⟨S5, e6, h⟩ := g_let_ex h
  have a := a.lsR e6
  obtain ⟨S7, e8, h⟩ := g_let_ex h
  have a := a.lsI e8 (by omega)
  obtain ⟨v9, S10, e11, h⟩ := g_bd_ex h
  have a := a.trans (fr_X6_lines  _ e11)
  rcases Classical.em (S10.1 1306 < 0) with c12 | c12
  · have h := g_t c12 h
    exact a.trans (fr_X6_enact_66 n S10 h)
  · have h := g_f c12 h
    obtain ⟨S13, e14, h⟩ := g_let_ex h
    have a := a.lsR e14
    obtain ⟨S15, e16, h⟩ := g_let_ex h
    have a := a.lsR e16
    obtain ⟨S17, e18, h⟩ := g_let_ex h
    have a := a.lsI e18 (by omega)
    exact a.trans (fr_X6_enact_66 n S17 h)
set_option maxHeartbeats 4000000 in
set_option maxRecDepth 100000 in
theorem fr_X6_says {n : Nat} (a0 : Int32) (a1 : Int32) (a2 : Int32) (a3 : Int32) (a4 : Int32) (a5 : Int32) (S : z_Stt) {v : Bool} {S' : z_Stt} (h : f_X6_says n a0 a1 a2 a3 a4 a5 S = some (v, S')) : agM S S' := by
  have a := agM.rfl S
  unfold f_X6_says at h
  rcases g_nem (S.1 1303 = 0) with c1 | c1
  · have h := g_f c1 h
    obtain ⟨c2, h⟩ := g_if h
    obtain ⟨S3, e4, h⟩ := g_let_ex h
    have a := a.lsA e4 (by omega)
    obtain ⟨c5, h⟩ := g_if h
    obtain ⟨S6, e7, h⟩ := g_let_ex h
    have a := a.lsA e7 (by omega)
    obtain ⟨c8, h⟩ := g_if h
    obtain ⟨S9, e10, h⟩ := g_let_ex h
    have a := a.lsA e10 (by omega)
    obtain ⟨c11, h⟩ := g_if h
    obtain ⟨S12, e13, h⟩ := g_let_ex h
    have a := a.lsA e13 (by omega)
    obtain ⟨c14, h⟩ := g_if h
    obtain ⟨S15, e16, h⟩ := g_let_ex h
    have a := a.lsA e16 (by omega)
    obtain ⟨c17, h⟩ := g_if h
    obtain ⟨S18, e19, h⟩ := g_let_ex h
    have a := a.lsA e19 (by omega)
    obtain ⟨v20, S21, e22, h⟩ := g_bd_ex h
    have a := a.trans (fr_X6_lines  _ e22)
    rcases Classical.em (v20 = 0) with c23 | c23
    · have h := g_t c23 h
      obtain ⟨rfl, rfl⟩ := g_some h
      exact a
    · have h := g_f c23 h
      obtain ⟨rfl, rfl⟩ := g_some h
      exact a
  · have h := g_t c1 h
    rcases Classical.em (a0 * a1 ≤ (288 * a2) * a3) with c24 | c24
    · have h := g_t c24 h
      obtain ⟨rfl, rfl⟩ := g_some h
      exact a
    · have h := g_f c24 h
      obtain ⟨rfl, rfl⟩ := g_some h
      exact a
set_option maxHeartbeats 4000000 in
set_option maxRecDepth 100000 in
theorem fr_X10_within (a0 : Int32) (a1 : Int32) (S : z_Stt) {v : Bool} {S' : z_Stt} (h : f_X10_within a0 a1 S = some (v, S')) : agM S S' := by
  have a := agM.rfl S
  unfold f_X10_within at h
  rcases Classical.em (a0 < 0) with c1 | c1
  · have h := g_t c1 h
    obtain ⟨rfl, rfl⟩ := g_some h
    exact a
  · have h := g_f c1 h
    rcases Classical.em (a1 < a0) with c2 | c2
    · have h := g_t c2 h
      obtain ⟨rfl, rfl⟩ := g_some h
      exact a
    · have h := g_f c2 h
      obtain ⟨rfl, rfl⟩ := g_some h
      exact a
set_option maxHeartbeats 4000000 in
set_option maxRecDepth 100000 in
theorem fr_X10_thing (a0 : Int32) (a1 : Int32) (S : z_Stt) {v : Int32} {S' : z_Stt} (h : f_X10_thing a0 a1 S = some (v, S')) : agM S S' := by
  have a := agM.rfl S
  unfold f_X10_thing at h
  obtain ⟨c1, h⟩ := g_if h
  obtain ⟨v2, S3, e4, h⟩ := g_bd_ex h
  have a := a.trans (fr_X10_within a0 (st_MOST (0 : Int32).toNatClampNeg) _ e4)
  rcases g_bf v2 with c5 | c5
  · have h := g_f (Bool.eq_false_iff.mp c5) h
    obtain ⟨rfl, rfl⟩ := g_some h
    exact a
  · have h := g_t c5 h
    obtain ⟨c6, h⟩ := g_if h
    obtain ⟨v7, S8, e9, h⟩ := g_bd_ex h
    have a := a.trans (fr_X10_within a1 (st_MOST (3 : Int32).toNatClampNeg) _ e9)
    rcases g_bt v7 with c10 | c10
    · have h := g_t c10 h
      rcases Classical.em (S8.1 101 < 6) with c11 | c11
      · have h := g_t c11 h
        obtain ⟨v12, S13, e14, h⟩ := g_bd_ex h
        have a := a.trans (fr_X9_come a0 10 3 a1 _ e14)
        obtain ⟨rfl, rfl⟩ := g_some h
        exact a
      · have h := g_f c11 h
        obtain ⟨rfl, rfl⟩ := g_some h
        exact a
    · have h := g_f (Bool.eq_false_iff.mp c10) h
      obtain ⟨rfl, rfl⟩ := g_some h
      exact a
set_option maxHeartbeats 4000000 in
set_option maxRecDepth 100000 in
theorem fr_X10_isShelf (a0 : Int32) (S : z_Stt) {v : Bool} {S' : z_Stt} (h : f_X10_isShelf a0 S = some (v, S')) : agM S S' := by
  have a := agM.rfl S
  unfold f_X10_isShelf at h
  obtain ⟨v1, S2, e3, h⟩ := g_bd_ex h
  have a := a.trans (fr_X10_within a0 5 _ e3)
  obtain ⟨rfl, rfl⟩ := g_some h
  exact a
set_option maxHeartbeats 4000000 in
set_option maxRecDepth 100000 in
theorem fr_X10_comesFrom (a0 : Nat) (a1 : Int64) (S : z_Stt) {v : Bool} {S' : z_Stt} (ua0 : a0 + 1 < 48) (h : f_X10_comesFrom a0 a1 S = some (v, S')) : agM S S' := by
  have a := agM.rfl S
  unfold f_X10_comesFrom at h
  rcases Classical.em (6 ≤ S.1 101) with c1 | c1
  · have h := g_t c1 h
    obtain ⟨rfl, rfl⟩ := g_some h
    exact a
  · have h := g_f c1 h
    rcases Classical.em (lg_cmp a1 0 < 0) with c2 | c2
    · have h := g_t c2 h
      obtain ⟨rfl, rfl⟩ := g_some h
      exact a
    · have h := g_f c2 h
      rcases Classical.em (lg_cmp (a1 + 2) (Int32.toInt64 (S.1 (100 * a0 + 3))) < 0) with c3 | c3
      · have h := g_t c3 h
        obtain ⟨v4, S5, e6, h⟩ := g_bd_ex h
        have a := a.trans (fr_X8_at a0 (Int64.toInt32 a1) _ ua0 e6)
        obtain ⟨v7, S8, e9, h⟩ := g_bd_ex h
        have a := a.trans (fr_X8_at a0 ((Int64.toInt32 a1) + 1) _ ua0 e9)
        obtain ⟨v10, S11, e12, h⟩ := g_bd_ex h
        have a := a.trans (fr_X8_at a0 ((Int64.toInt32 a1) + 2) _ ua0 e12)
        obtain ⟨v13, S14, e15, h⟩ := g_bd_ex h
        have a := a.trans (fr_X10_within (Int64.toInt32 v4) 127 _ e15)
        rcases g_bf v13 with c16 | c16
        · have h := g_f (Bool.eq_false_iff.mp c16) h
          obtain ⟨rfl, rfl⟩ := g_some h
          exact a
        · have h := g_t c16 h
          obtain ⟨v17, S18, e19, h⟩ := g_bd_ex h
          have a := a.trans (fr_X10_within (Int64.toInt32 v7) 12 _ e19)
          rcases g_bf v17 with c20 | c20
          · have h := g_f (Bool.eq_false_iff.mp c20) h
            obtain ⟨rfl, rfl⟩ := g_some h
            exact a
          · have h := g_t c20 h
            obtain ⟨v21, S22, e23, h⟩ := g_bd_ex h
            have a := a.trans (fr_X10_within (Int64.toInt32 v10) 12 _ e23)
            rcases g_bt v21 with c24 | c24
            · have h := g_t c24 h
              obtain ⟨v25, S26, e27, h⟩ := g_bd_ex h
              have a := a.trans (fr_X9_come (Int64.toInt32 v4) (Int64.toInt32 v7) (Int64.toInt32 v10) 100 _ e27)
              obtain ⟨rfl, rfl⟩ := g_some h
              exact a
            · have h := g_f (Bool.eq_false_iff.mp c24) h
              obtain ⟨rfl, rfl⟩ := g_some h
              exact a
      · have h := g_f c3 h
        obtain ⟨rfl, rfl⟩ := g_some h
        exact a
set_option maxHeartbeats 4000000 in
set_option maxRecDepth 100000 in
theorem fr_X10_things_53 (n : Nat) {v : Int32} {S' : z_Stt} : ∀ (m : Nat) (x2 : Int32) (x3 : Int32) (x4 : Nat) (x5 : Int32) (S : z_Stt) (ux4 : x4 + 1 < 48) (h : f_X10_things_53 n m x2 x3 x4 x5 S = some (v, S')), agM S S' := by
  intro m
  induction m with
  | zero => intro x2 x3 x4 x5 S ux4 h; simp [f_X10_things_53] at h
  | succ m ih =>
    intro x2 x3 x4 x5 S ux4 h
    have a := agM.rfl S
    rw [f_X10_things_53] at h
    rcases Classical.em (x3 ≤ x5) with c1 | c1
    · have h := g_t c1 h
      obtain ⟨rfl, rfl⟩ := g_some h
      exact a
    · have h := g_f c1 h
      obtain ⟨v2, S3, e4, h⟩ := g_bd_ex h
      have a := a.trans (fr_X10_comesFrom x4 ((Int32.toInt64 x2) + (3 * (Int32.toInt64 x5))) _ ux4 e4)
      rcases g_bf v2 with c5 | c5
      · have h := g_f (Bool.eq_false_iff.mp c5) h
        obtain ⟨rfl, rfl⟩ := g_some h
        exact a
      · have h := g_t c5 h
        exact a.trans (ih x2 x3 x4 (x5 + 1) S3 ux4 h)
set_option maxHeartbeats 4000000 in
set_option maxRecDepth 100000 in
theorem fr_X10_things {n : Nat} (a0 : Int32) (a1 : Int32) (a2 : Int32) (S : z_Stt) {v : Int32} {S' : z_Stt} (h : f_X10_things n a0 a1 a2 S = some (v, S')) : agM S S' := by
  have a := agM.rfl S
  unfold f_X10_things at h
  obtain ⟨v1, S2, e3, h⟩ := g_bd_ex h
  have a := a.trans (fr_X10_isShelf a0 _ e3)
  rcases g_bf v1 with c4 | c4
  · have h := g_f (Bool.eq_false_iff.mp c4) h
    obtain ⟨rfl, rfl⟩ := g_some h
    exact a
  · have h := g_t c4 h
    rcases Classical.em (a2 < 1) with c5 | c5
    · have h := g_t c5 h
      obtain ⟨rfl, rfl⟩ := g_some h
      exact a
    · have h := g_f c5 h
      rcases Classical.em (a2 ≤ 6) with c6 | c6
      · have h := g_t c6 h
        obtain ⟨c7, h⟩ := g_if h
        rcases g_nem (S2.1 (100 * (36 + 2 * a0.toNatClampNeg) + 0) = 0) with c8 | c8
        · have h := g_f c8 h
          obtain ⟨v9, S10, e11, h⟩ := g_bd_ex h
          have a := a.trans (fr_X8_isRow (36 + 2 * a0.toNatClampNeg) 0 _ (fw8_of c7) e11)
          rcases g_bt v9 with c12 | c12
          · have h := g_t c12 h
            exact a.trans (fr_X10_things_53 n n a1 a2 (36 + 2 * a0.toNatClampNeg) 0 S10 (fw8_of c7) h)
          · have h := g_f (Bool.eq_false_iff.mp c12) h
            obtain ⟨rfl, rfl⟩ := g_some h
            exact a
        · have h := g_t c8 h
          obtain ⟨rfl, rfl⟩ := g_some h
          exact a
      · have h := g_f c6 h
        obtain ⟨rfl, rfl⟩ := g_some h
        exact a
set_option maxHeartbeats 4000000 in
set_option maxRecDepth 100000 in
theorem fr_X10_mend {n : Nat} (a0 : Int32) (a1 : Int32) (a2 : Int32) (S : z_Stt) {v : Int32} {S' : z_Stt} (h : f_X10_mend n a0 a1 a2 S = some (v, S')) : agM S S' := by
  have a := agM.rfl S
  unfold f_X10_mend at h
  obtain ⟨v1, S2, e3, h⟩ := g_bd_ex h
  have a := a.trans (fr_X9_placeOf a0 a1 _ e3)
  rcases Classical.em (v1 < 0) with c4 | c4
  · have h := g_t c4 h
    obtain ⟨rfl, rfl⟩ := g_some h
    exact a
  · have h := g_f c4 h
    obtain ⟨v5, S6, e7, h⟩ := g_bd_ex h
    have a := a.trans (fr_X9_mostOf a1 _ e7)
    obtain ⟨v8, S9, e10, h⟩ := g_bd_ex h
    have a := a.trans (fr_X10_within a2 v5 _ e10)
    rcases g_bt v8 with c11 | c11
    · have h := g_t c11 h
      obtain ⟨v12, S13, e14, h⟩ := g_bd_ex h
      have a := a.trans (fr_X9_at v1 _ e14)
      rcases Classical.em (v12 = a2) with c15 | c15
      · have h := g_t c15 h
        obtain ⟨rfl, rfl⟩ := g_some h
        exact a
      · have h := g_f c15 h
        obtain ⟨v16, S17, e18, h⟩ := g_bd_ex h
        have a := a.trans (fr_X0_add v1 v12 a2 _ e18)
        obtain ⟨v19, S20, e21, h⟩ := g_bd_ex h
        have a := a.trans (fr_X9_become v1 a2 _ e21)
        obtain ⟨rfl, rfl⟩ := g_some h
        exact a
    · have h := g_f (Bool.eq_false_iff.mp c11) h
      obtain ⟨rfl, rfl⟩ := g_some h
      exact a
set_option maxHeartbeats 4000000 in
set_option maxRecDepth 100000 in
theorem fr_X10_isThing (a0 : Int32) (S : z_Stt) {v : Bool} {S' : z_Stt} (h : f_X10_isThing a0 S = some (v, S')) : agM S S' := by
  have a := agM.rfl S
  unfold f_X10_isThing at h
  rcases Classical.em (a0 < 0) with c1 | c1
  · have h := g_t c1 h
    obtain ⟨rfl, rfl⟩ := g_some h
    exact a
  · have h := g_f c1 h
    rcases Classical.em (S.1 101 ≤ a0) with c2 | c2
    · have h := g_t c2 h
      obtain ⟨rfl, rfl⟩ := g_some h
      exact a
    · have h := g_f c2 h
      obtain ⟨rfl, rfl⟩ := g_some h
      exact a
set_option maxHeartbeats 4000000 in
set_option maxRecDepth 100000 in
theorem fr_X10_of_65 {v : Int32} {S' : z_Stt} (x1 : Int32) (x2 : Int32) (S : z_Stt) (h : f_X10_of_65 x1 x2 S = some (v, S')) : agM S S' := by
  have a := agM.rfl S
  unfold f_X10_of_65 at h
  rcases g_nem (x1 = 0) with c1 | c1
  · have h := g_f c1 h
    obtain ⟨rfl, rfl⟩ := g_some h
    exact a
  · have h := g_t c1 h
    rcases g_nem (x2 = 12) with c2 | c2
    · have h := g_f c2 h
      obtain ⟨rfl, rfl⟩ := g_some h
      exact a
    · have h := g_t c2 h
      obtain ⟨rfl, rfl⟩ := g_some h
      exact a
set_option maxHeartbeats 4000000 in
set_option maxRecDepth 100000 in
theorem fr_X10_of_47 {v : Int32} {S' : z_Stt} (x1 : Int32) (x2 : Int32) (S : z_Stt) (h : f_X10_of_47 x1 x2 S = some (v, S')) : agM S S' := by
  have a := agM.rfl S
  unfold f_X10_of_47 at h
  rcases g_nem (x1 = 0) with c1 | c1
  · have h := g_f c1 h
    exact a.trans (fr_X10_of_65 x1 x2 S h)
  · have h := g_t c1 h
    rcases g_nem (x2 = 11) with c2 | c2
    · have h := g_f c2 h
      exact a.trans (fr_X10_of_65 x1 x2 S h)
    · have h := g_t c2 h
      obtain ⟨rfl, rfl⟩ := g_some h
      exact a
set_option maxHeartbeats 4000000 in
set_option maxRecDepth 100000 in
theorem fr_X10_of (a0 : Int32) (a1 : Int32) (S : z_Stt) {v : Int32} {S' : z_Stt} (h : f_X10_of a0 a1 S = some (v, S')) : agM S S' := by
  have a := agM.rfl S
  unfold f_X10_of at h
  obtain ⟨v1, S2, e3, h⟩ := g_bd_ex h
  have a := a.trans (fr_X9_placeOf a0 a1 _ e3)
  rcases Classical.em (v1 < 0) with c4 | c4
  · have h := g_t c4 h
    rcases g_nem (a1 = 10) with c5 | c5
    · have h := g_f c5 h
      exact a.trans (fr_X10_of_47 a0 a1 S2 h)
    · have h := g_t c5 h
      obtain ⟨v6, S7, e8, h⟩ := g_bd_ex h
      have a := a.trans (fr_X10_isThing a0 _ e8)
      rcases g_bf v6 with c9 | c9
      · have h := g_f (Bool.eq_false_iff.mp c9) h
        exact a.trans (fr_X10_of_47 a0 a1 S7 h)
      · have h := g_t c9 h
        obtain ⟨c10, h⟩ := g_if h
        obtain ⟨rfl, rfl⟩ := g_some h
        exact a
  · have h := g_f c4 h
    obtain ⟨v11, S12, e13, h⟩ := g_bd_ex h
    have a := a.trans (fr_X9_at v1 _ e13)
    obtain ⟨rfl, rfl⟩ := g_some h
    exact a
set_option maxHeartbeats 4000000 in
set_option maxRecDepth 100000 in
theorem fr_X10_feed (a0 : Int32) (S : z_Stt) {v : Int32} {S' : z_Stt} (h : f_X10_feed a0 S = some (v, S')) : agM S S' := by
  have a := agM.rfl S
  unfold f_X10_feed at h
  obtain ⟨v1, S2, e3, h⟩ := g_bd_ex h
  have a := a.trans (fr_X10_within a0 255 _ e3)
  rcases g_bt v1 with c4 | c4
  · have h := g_t c4 h
    rcases Classical.em (S2.1 1301 < 120) with c5 | c5
    · have h := g_t c5 h
      obtain ⟨v6, S7, e8, h⟩ := g_bd_ex h
      have a := a.trans (fr_X6_append a0 _ e8)
      obtain ⟨rfl, rfl⟩ := g_some h
      exact a
    · have h := g_f c5 h
      obtain ⟨rfl, rfl⟩ := g_some h
      exact a
  · have h := g_f (Bool.eq_false_iff.mp c4) h
    obtain ⟨rfl, rfl⟩ := g_some h
    exact a
set_option maxHeartbeats 4000000 in
set_option maxRecDepth 100000 in
theorem fr_X10_law {n : Nat} (S : z_Stt) {v : Int32} {S' : z_Stt} (h : f_X10_law n S = some (v, S')) : agM S S' := by
  have a := agM.rfl S
  unfold f_X10_law at h
  obtain ⟨v1, S2, e3, h⟩ := g_bd_ex h
  have a := a.trans (fr_X6_enact  _ e3)
  rcases Classical.em (0 ≤ v1) with c4 | c4
  · have h := g_t c4 h
    obtain ⟨rfl, rfl⟩ := g_some h
    exact a
  · have h := g_f c4 h
    obtain ⟨rfl, rfl⟩ := g_some h
    exact a
set_option maxHeartbeats 4000000 in
set_option maxRecDepth 100000 in
theorem fr_X10_isMarked (a0 : Int32) (S : z_Stt) {v : Bool} {S' : z_Stt} (h : f_X10_isMarked a0 S = some (v, S')) : agM S S' := by
  have a := agM.rfl S
  unfold f_X10_isMarked at h
  obtain ⟨v1, S2, e3, h⟩ := g_bd_ex h
  have a := a.trans (fr_X9_ofThing 4 a0 _ e3)
  rcases g_nem (v1 = 1) with c4 | c4
  · have h := g_f c4 h
    obtain ⟨rfl, rfl⟩ := g_some h
    exact a
  · have h := g_t c4 h
    obtain ⟨rfl, rfl⟩ := g_some h
    exact a
set_option maxHeartbeats 4000000 in
set_option maxRecDepth 100000 in
theorem fr_X10_traceOf (a0 : Int32) (S : z_Stt) {v : Int32} {S' : z_Stt} (h : f_X10_traceOf a0 S = some (v, S')) : agM S S' := by
  have a := agM.rfl S
  unfold f_X10_traceOf at h
  obtain ⟨v1, S2, e3, h⟩ := g_bd_ex h
  have a := a.trans (fr_X10_isMarked a0 _ e3)
  rcases g_bf v1 with c4 | c4
  · have h := g_f (Bool.eq_false_iff.mp c4) h
    obtain ⟨v5, S6, e7, h⟩ := g_bd_ex h
    have a := a.trans (fr_X9_ofThing 1 a0 _ e7)
    obtain ⟨rfl, rfl⟩ := g_some h
    exact a
  · have h := g_t c4 h
    obtain ⟨rfl, rfl⟩ := g_some h
    exact a
set_option maxHeartbeats 4000000 in
set_option maxRecDepth 100000 in
theorem fr_X10_staleOf_28 {v : Int32} {S' : z_Stt} (x1 : Int32) (S : z_Stt) (h : f_X10_staleOf_28 x1 S = some (v, S')) : agM S S' := by
  have a := agM.rfl S
  unfold f_X10_staleOf_28 at h
  obtain ⟨v1, S2, e3, h⟩ := g_bd_ex h
  have a := a.trans (fr_X9_ofThing 2 x1 _ e3)
  obtain ⟨rfl, rfl⟩ := g_some h
  exact a
set_option maxHeartbeats 4000000 in
set_option maxRecDepth 100000 in
theorem fr_X10_staleOf (a0 : Int32) (S : z_Stt) {v : Int32} {S' : z_Stt} (h : f_X10_staleOf a0 S = some (v, S')) : agM S S' := by
  have a := agM.rfl S
  unfold f_X10_staleOf at h
  obtain ⟨v1, S2, e3, h⟩ := g_bd_ex h
  have a := a.trans (fr_X10_isMarked a0 _ e3)
  rcases g_bf v1 with c4 | c4
  · have h := g_f (Bool.eq_false_iff.mp c4) h
    exact a.trans (fr_X10_staleOf_28 a0 S2 h)
  · have h := g_t c4 h
    obtain ⟨v5, S6, e7, h⟩ := g_bd_ex h
    have a := a.trans (fr_X10_isThing a0 _ e7)
    rcases g_bf v5 with c8 | c8
    · have h := g_f (Bool.eq_false_iff.mp c8) h
      exact a.trans (fr_X10_staleOf_28 a0 S6 h)
    · have h := g_t c8 h
      obtain ⟨c9, h⟩ := g_if h
      obtain ⟨rfl, rfl⟩ := g_some h
      exact a
set_option maxHeartbeats 4000000 in
set_option maxRecDepth 100000 in
theorem fr_X10_findOpen_75 (n : Nat) {v : Bool} {S' : z_Stt} (x3 : Nat) (x4 : Int64) (x6 : Int64) (y0 : Int64) (S : z_Stt) (ux3 : x3 + 1 < 48) (h : f_X10_findOpen_75 n x3 x4 x6 y0 S = some (v, S')) : agM S S' := by
  have a := agM.rfl S
  unfold f_X10_findOpen_75 at h
  obtain ⟨v1, S2, e3, h⟩ := g_bd_ex h
  have a := a.trans (fr_X4_become x3 (x4 * y0) ((x4 * y0) + ((144 - x4) * x6)) _ ux3 e3)
  obtain ⟨rfl, rfl⟩ := g_some h
  exact a
set_option maxHeartbeats 4000000 in
set_option maxRecDepth 100000 in
theorem fr_X10_findOpen_50 (n : Nat) {v : Bool} {S' : z_Stt} (x1 : Int32) (x2 : Int32) (x3 : Nat) (x4 : Int64) (y0 : Int64) (S : z_Stt) (ux3 : x3 + 1 < 48) (h : f_X10_findOpen_50 n x1 x2 x3 x4 y0 S = some (v, S')) : agM S S' := by
  have a := agM.rfl S
  unfold f_X10_findOpen_50 at h
  rcases g_nem (x2 = 1) with c1 | c1
  · have h := g_f c1 h
    obtain ⟨v2, S3, e4, h⟩ := g_bd_ex h
    have a := a.trans (fr_X10_staleOf x1 _ e4)
    exact a.trans (fr_X10_findOpen_75 n x3 x4 y0 (Int32.toInt64 (12 - v2)) S3 ux3 h)
  · have h := g_t c1 h
    obtain ⟨v5, S6, e7, h⟩ := g_bd_ex h
    have a := a.trans (fr_X10_staleOf x1 _ e7)
    exact a.trans (fr_X10_findOpen_75 n x3 x4 y0 (Int32.toInt64 v5) S6 ux3 h)
set_option maxHeartbeats 4000000 in
set_option maxRecDepth 100000 in
theorem fr_X10_findOpen {n : Nat} (a0 : Int32) (a1 : Int32) (a2 : Nat) (S : z_Stt) {v : Bool} {S' : z_Stt} (ua2 : a2 + 1 < 48) (h : f_X10_findOpen n a0 a1 a2 S = some (v, S')) : agM S S' := by
  have a := agM.rfl S
  unfold f_X10_findOpen at h
  obtain ⟨v1, S2, e3, h⟩ := g_bd_ex h
  have a := a.trans (fr_X9_ofThing 0 a0 _ e3)
  rcases g_nem (a1 = 2) with c4 | c4
  · have h := g_f c4 h
    rcases g_nem (a1 = 1) with c5 | c5
    · have h := g_f c5 h
      obtain ⟨v6, S7, e8, h⟩ := g_bd_ex h
      have a := a.trans (fr_X10_traceOf a0 _ e8)
      exact a.trans (fr_X10_findOpen_50 n a0 a1 a2 (Int32.toInt64 v1) (Int32.toInt64 (12 - v6)) S7 ua2 h)
    · have h := g_t c5 h
      obtain ⟨v9, S10, e11, h⟩ := g_bd_ex h
      have a := a.trans (fr_X10_traceOf a0 _ e11)
      exact a.trans (fr_X10_findOpen_50 n a0 a1 a2 (Int32.toInt64 v1) (Int32.toInt64 v9) S10 ua2 h)
  · have h := g_t c4 h
    obtain ⟨v12, S13, e14, h⟩ := g_bd_ex h
    have a := a.trans (fr_X4_become a2 (Int32.toInt64 v1) 144 _ ua2 e14)
    obtain ⟨rfl, rfl⟩ := g_some h
    exact a
set_option maxHeartbeats 4000000 in
set_option maxRecDepth 100000 in
theorem fr_X10_open {n : Nat} (a0 : Int32) (a1 : Int32) (a2 : Int32) (S : z_Stt) {v : Int64} {S' : z_Stt} (h : f_X10_open n a0 a1 a2 S = some (v, S')) : agM S S' := by
  have a := agM.rfl S
  unfold f_X10_open at h
  obtain ⟨v1, S2, e3, h⟩ := g_bd_ex h
  have a := a.trans (fr_X10_isThing a0 _ e3)
  rcases g_bf v1 with c4 | c4
  · have h := g_f (Bool.eq_false_iff.mp c4) h
    obtain ⟨rfl, rfl⟩ := g_some h
    exact a
  · have h := g_t c4 h
    obtain ⟨v5, S6, e7, h⟩ := g_bd_ex h
    have a := a.trans (fr_X10_within a1 2 _ e7)
    rcases g_bf v5 with c8 | c8
    · have h := g_f (Bool.eq_false_iff.mp c8) h
      obtain ⟨rfl, rfl⟩ := g_some h
      exact a
    · have h := g_t c8 h
      obtain ⟨v9, S10, e11, h⟩ := g_bd_ex h
      have a := a.trans (fr_X10_within a2 1 _ e11)
      rcases g_bt v9 with c12 | c12
      · have h := g_t c12 h
        obtain ⟨v13, S14, e15, h⟩ := g_bd_ex h
        have a := a.trans (fr_X10_findOpen a0 a1 17 _ (by omega) e15)
        rcases g_bf v13 with c16 | c16
        · have h := g_f (Bool.eq_false_iff.mp c16) h
          obtain ⟨rfl, rfl⟩ := g_some h
          exact a
        · have h := g_t c16 h
          obtain ⟨v17, S18, e19, h⟩ := g_bd_ex h
          have a := a.trans (fr_X4_part 17 a2 _ (by omega) e19)
          obtain ⟨rfl, rfl⟩ := g_some h
          exact a
      · have h := g_f (Bool.eq_false_iff.mp c12) h
        obtain ⟨rfl, rfl⟩ := g_some h
        exact a
set_option maxHeartbeats 4000000 in
set_option maxRecDepth 100000 in
theorem fr_X10_isThingAndMemory (a0 : Int32) (a1 : Int32) (S : z_Stt) {v : Bool} {S' : z_Stt} (h : f_X10_isThingAndMemory a0 a1 S = some (v, S')) : agM S S' := by
  have a := agM.rfl S
  unfold f_X10_isThingAndMemory at h
  rcases Classical.em (a0 < 0) with c1 | c1
  · have h := g_t c1 h
    obtain ⟨rfl, rfl⟩ := g_some h
    exact a
  · have h := g_f c1 h
    obtain ⟨v2, S3, e4, h⟩ := g_bd_ex h
    have a := a.trans (fr_X10_isThing (a0 / 10) _ e4)
    rcases g_bf v2 with c5 | c5
    · have h := g_f (Bool.eq_false_iff.mp c5) h
      obtain ⟨rfl, rfl⟩ := g_some h
      exact a
    · have h := g_t c5 h
      obtain ⟨v6, S7, e8, h⟩ := g_bd_ex h
      have a := a.trans (fr_X10_within (a0 % 10) a1 _ e8)
      rcases g_bf v6 with c9 | c9
      · have h := g_f (Bool.eq_false_iff.mp c9) h
        obtain ⟨rfl, rfl⟩ := g_some h
        exact a
      · have h := g_t c9 h
        obtain ⟨rfl, rfl⟩ := g_some h
        exact a
set_option maxHeartbeats 4000000 in
set_option maxRecDepth 100000 in
theorem fr_X10_wayBack (a0 : Int32) (S : z_Stt) {v : Int32} {S' : z_Stt} (h : f_X10_wayBack a0 S = some (v, S')) : agM S S' := by
  have a := agM.rfl S
  unfold f_X10_wayBack at h
  obtain ⟨v1, S2, e3, h⟩ := g_bd_ex h
  have a := a.trans (fr_X9_price  _ e3)
  obtain ⟨rfl, rfl⟩ := g_some h
  exact a
set_option maxHeartbeats 4000000 in
set_option maxRecDepth 100000 in
theorem fr_X10_paysBy (a0 : Nat) (a1 : Int32) (a2 : Int32) (S : z_Stt) {v : Bool} {S' : z_Stt} (ua0 : a0 + 1 < 48) (h : f_X10_paysBy a0 a1 a2 S = some (v, S')) : agM S S' := by
  have a := agM.rfl S
  unfold f_X10_paysBy at h
  obtain ⟨v1, S2, e3, h⟩ := g_bd_ex h
  have a := a.trans (fr_X10_wayBack a2 _ e3)
  obtain ⟨v4, S5, e6, h⟩ := g_bd_ex h
  have a := a.trans (fr_X9_ofThing 3 a1 _ e6)
  rcases Classical.em (0 ≤ lg_cmp ((Int32.toInt64 v1) * (S2.2.1 (100 * a0 + 1))) ((S2.2.1 (100 * a0 + 0)) * (Int32.toInt64 v4))) with c7 | c7
  · have h := g_t c7 h
    obtain ⟨rfl, rfl⟩ := g_some h
    exact a
  · have h := g_f c7 h
    obtain ⟨rfl, rfl⟩ := g_some h
    exact a
set_option maxHeartbeats 4000000 in
set_option maxRecDepth 100000 in
theorem fr_X10_pays {n : Nat} (a0 : Int32) (a1 : Int32) (S : z_Stt) {v : Int32} {S' : z_Stt} (h : f_X10_pays n a0 a1 S = some (v, S')) : agM S S' := by
  have a := agM.rfl S
  unfold f_X10_pays at h
  obtain ⟨v1, S2, e3, h⟩ := g_bd_ex h
  have a := a.trans (fr_X10_isThingAndMemory a0 2 _ e3)
  rcases g_bf v1 with c4 | c4
  · have h := g_f (Bool.eq_false_iff.mp c4) h
    obtain ⟨rfl, rfl⟩ := g_some h
    exact a
  · have h := g_t c4 h
    obtain ⟨v5, S6, e7, h⟩ := g_bd_ex h
    have a := a.trans (fr_X10_within a1 99 _ e7)
    rcases g_bt v5 with c8 | c8
    · have h := g_t c8 h
      obtain ⟨v9, S10, e11, h⟩ := g_bd_ex h
      have a := a.trans (fr_X10_findOpen (a0 / 10) (a0 % 10) 17 _ (by omega) e11)
      rcases g_bt v9 with c12 | c12
      · have h := g_t c12 h
        obtain ⟨v13, S14, e15, h⟩ := g_bd_ex h
        have a := a.trans (fr_X10_paysBy 17 (a0 / 10) a1 _ (by omega) e15)
        rcases g_bf v13 with c16 | c16
        · have h := g_f (Bool.eq_false_iff.mp c16) h
          obtain ⟨rfl, rfl⟩ := g_some h
          exact a
        · have h := g_t c16 h
          obtain ⟨rfl, rfl⟩ := g_some h
          exact a
      · have h := g_f (Bool.eq_false_iff.mp c12) h
        obtain ⟨rfl, rfl⟩ := g_some h
        exact a
    · have h := g_f (Bool.eq_false_iff.mp c8) h
      obtain ⟨rfl, rfl⟩ := g_some h
      exact a
set_option maxHeartbeats 4000000 in
set_option maxRecDepth 100000 in
theorem fr_X10_worth {n : Nat} (a0 : Int32) (a1 : Int32) (a2 : Int32) (S : z_Stt) {v : Int64} {S' : z_Stt} (h : f_X10_worth n a0 a1 a2 S = some (v, S')) : agM S S' := by
  have a := agM.rfl S
  unfold f_X10_worth at h
  obtain ⟨v1, S2, e3, h⟩ := g_bd_ex h
  have a := a.trans (fr_X10_isThingAndMemory a0 2 _ e3)
  rcases g_bf v1 with c4 | c4
  · have h := g_f (Bool.eq_false_iff.mp c4) h
    obtain ⟨rfl, rfl⟩ := g_some h
    exact a
  · have h := g_t c4 h
    obtain ⟨v5, S6, e7, h⟩ := g_bd_ex h
    have a := a.trans (fr_X10_within a1 99 _ e7)
    rcases g_bf v5 with c8 | c8
    · have h := g_f (Bool.eq_false_iff.mp c8) h
      obtain ⟨rfl, rfl⟩ := g_some h
      exact a
    · have h := g_t c8 h
      obtain ⟨v9, S10, e11, h⟩ := g_bd_ex h
      have a := a.trans (fr_X10_within a2 1 _ e11)
      rcases g_bt v9 with c12 | c12
      · have h := g_t c12 h
        obtain ⟨v13, S14, e15, h⟩ := g_bd_ex h
        have a := a.trans (fr_X10_findOpen (a0 / 10) (a0 % 10) 17 _ (by omega) e15)
        rcases g_bt v13 with c16 | c16
        · have h := g_t c16 h
          obtain ⟨v17, S18, e19, h⟩ := g_bd_ex h
          have a := a.trans (fr_X9_ofThing 3 (a0 / 10) _ e19)
          obtain ⟨v20, S21, e22, h⟩ := g_bd_ex h
          have a := a.trans (fr_X10_wayBack a1 _ e22)
          obtain ⟨v23, S24, e25, h⟩ := g_bd_ex h
          have a := a.trans (fr_X4_become 17 (((S18.2.1 1700) * (Int32.toInt64 v17)) - ((Int32.toInt64 v20) * (S21.2.1 1701))) (S21.2.1 1701) _ (by omega) e25)
          obtain ⟨v26, S27, e28, h⟩ := g_bd_ex h
          have a := a.trans (fr_X4_part 17 a2 _ (by omega) e28)
          obtain ⟨rfl, rfl⟩ := g_some h
          exact a
        · have h := g_f (Bool.eq_false_iff.mp c16) h
          obtain ⟨rfl, rfl⟩ := g_some h
          exact a
      · have h := g_f (Bool.eq_false_iff.mp c12) h
        obtain ⟨rfl, rfl⟩ := g_some h
        exact a
set_option maxHeartbeats 4000000 in
set_option maxRecDepth 100000 in
theorem fr_X10_howFar_36 (n : Nat) {v : Int32} {S' : z_Stt} : ∀ (m : Nat) (x1 : Int32) (x2 : Int32) (S : z_Stt) (h : f_X10_howFar_36 n m x1 x2 S = some (v, S')), agM S S' := by
  intro m
  induction m with
  | zero => intro x1 x2 S h; simp [f_X10_howFar_36] at h
  | succ m ih =>
    intro x1 x2 S h
    have a := agM.rfl S
    rw [f_X10_howFar_36] at h
    rcases Classical.em (x2 < 0) with c1 | c1
    · have h := g_t c1 h
      obtain ⟨rfl, rfl⟩ := g_some h
      exact a
    · have h := g_f c1 h
      obtain ⟨v2, S3, e4, h⟩ := g_bd_ex h
      have a := a.trans (fr_X10_paysBy 17 (x1 / 10) x2 _ (by omega) e4)
      rcases g_bf v2 with c5 | c5
      · have h := g_f (Bool.eq_false_iff.mp c5) h
        exact a.trans (ih x1 (x2 + (-1)) S3 h)
      · have h := g_t c5 h
        obtain ⟨rfl, rfl⟩ := g_some h
        exact a
set_option maxHeartbeats 4000000 in
set_option maxRecDepth 100000 in
theorem fr_X10_howFar {n : Nat} (a0 : Int32) (S : z_Stt) {v : Int32} {S' : z_Stt} (h : f_X10_howFar n a0 S = some (v, S')) : agM S S' := by
  have a := agM.rfl S
  unfold f_X10_howFar at h
  obtain ⟨v1, S2, e3, h⟩ := g_bd_ex h
  have a := a.trans (fr_X10_isThingAndMemory a0 2 _ e3)
  rcases g_bt v1 with c4 | c4
  · have h := g_t c4 h
    obtain ⟨v5, S6, e7, h⟩ := g_bd_ex h
    have a := a.trans (fr_X10_findOpen (a0 / 10) (a0 % 10) 17 _ (by omega) e7)
    rcases g_bt v5 with c8 | c8
    · have h := g_t c8 h
      exact a.trans (fr_X10_howFar_36 n n a0 99 S6 h)
    · have h := g_f (Bool.eq_false_iff.mp c8) h
      obtain ⟨rfl, rfl⟩ := g_some h
      exact a
  · have h := g_f (Bool.eq_false_iff.mp c4) h
    obtain ⟨rfl, rfl⟩ := g_some h
    exact a
set_option maxHeartbeats 4000000 in
set_option maxRecDepth 100000 in
theorem fr_X10_areThings (a0 : Int32) (S : z_Stt) {v : Bool} {S' : z_Stt} (h : f_X10_areThings a0 S = some (v, S')) : agM S S' := by
  have a := agM.rfl S
  unfold f_X10_areThings at h
  rcases Classical.em (a0 < 0) with c1 | c1
  · have h := g_t c1 h
    obtain ⟨rfl, rfl⟩ := g_some h
    exact a
  · have h := g_f c1 h
    rcases g_nem (a0 >>> ((S.1 101) &&& 31) = 0) with c2 | c2
    · have h := g_f c2 h
      obtain ⟨rfl, rfl⟩ := g_some h
      exact a
    · have h := g_t c2 h
      obtain ⟨rfl, rfl⟩ := g_some h
      exact a
set_option maxHeartbeats 4000000 in
set_option maxRecDepth 100000 in
theorem fr_X10_isDoubt (a0 : Int32) (S : z_Stt) {v : Bool} {S' : z_Stt} (h : f_X10_isDoubt a0 S = some (v, S')) : agM S S' := by
  have a := agM.rfl S
  unfold f_X10_isDoubt at h
  rcases Classical.em (a0 < 0) with c1 | c1
  · have h := g_t c1 h
    obtain ⟨rfl, rfl⟩ := g_some h
    exact a
  · have h := g_f c1 h
    rcases g_nem ((a0 >>> (6 &&& 31)) &&& ((a0 &&& 63) ^^^ (-1)) = 0) with c2 | c2
    · have h := g_f c2 h
      obtain ⟨rfl, rfl⟩ := g_some h
      exact a
    · have h := g_t c2 h
      obtain ⟨v3, S4, e5, h⟩ := g_bd_ex h
      have a := a.trans (fr_X10_areThings (a0 &&& 63) _ e5)
      rcases g_bf v3 with c6 | c6
      · have h := g_f (Bool.eq_false_iff.mp c6) h
        obtain ⟨rfl, rfl⟩ := g_some h
        exact a
      · have h := g_t c6 h
        obtain ⟨v7, S8, e9, h⟩ := g_bd_ex h
        have a := a.trans (fr_J6_bitCount_0f7a4 (a0 &&& 63) _ e9)
        rcases Classical.em (4 < v7) with c10 | c10
        · have h := g_t c10 h
          obtain ⟨rfl, rfl⟩ := g_some h
          exact a
        · have h := g_f c10 h
          obtain ⟨rfl, rfl⟩ := g_some h
          exact a
set_option maxHeartbeats 4000000 in
set_option maxRecDepth 100000 in
theorem fr_X10_findDoubts_85 (n : Nat) {v : Bool} {S' : z_Stt} (k15 : Int32 → Int32 → Int32 → z_Stt → Option (Bool × z_Stt)) (hk15 : ∀ (x1 : Int32) (x2 : Int32) (x3 : Int32) (S : z_Stt), k15 x1 x2 x3 S = some (v, S') → agM S S') (x1 : Int32) (x2 : Int32) (x3 : Int32) (S : z_Stt) (h : f_X10_findDoubts_85 n k15 x1 x2 x3 S = some (v, S')) : agM S S' := by
  have a := agM.rfl S
  unfold f_X10_findDoubts_85 at h
  exact a.trans (hk15 x1 x2 (x3 + 1) S h)
set_option maxHeartbeats 4000000 in
set_option maxRecDepth 100000 in
theorem fr_X10_findDoubts_66 (n : Nat) {v : Bool} {S' : z_Stt} (k15 : Int32 → Int32 → Int32 → z_Stt → Option (Bool × z_Stt)) (hk15 : ∀ (x1 : Int32) (x2 : Int32) (x3 : Int32) (S : z_Stt), k15 x1 x2 x3 S = some (v, S') → agM S S') (x1 : Int32) (x3 : Int32) (y0 : Int32) (S : z_Stt) (h : f_X10_findDoubts_66 n k15 x1 x3 y0 S = some (v, S')) : agM S S' := by
  have a := agM.rfl S
  unfold f_X10_findDoubts_66 at h
  obtain ⟨v1, S2, e3, h⟩ := g_bd_ex h
  have a := a.trans (fr_X9_ofThing 3 x3 _ e3)
  obtain ⟨c4, h⟩ := g_if h
  obtain ⟨S5, e6, h⟩ := g_let_ex h
  have a := a.lsA e6 (by omega)
  exact a.trans (fr_X10_findDoubts_85 n k15 hk15 x1 y0 x3 S5 h)
set_option maxHeartbeats 4000000 in
set_option maxRecDepth 100000 in
theorem fr_X10_findDoubts_65 (n : Nat) {v : Bool} {S' : z_Stt} (k15 : Int32 → Int32 → Int32 → z_Stt → Option (Bool × z_Stt)) (hk15 : ∀ (x1 : Int32) (x2 : Int32) (x3 : Int32) (S : z_Stt), k15 x1 x2 x3 S = some (v, S') → agM S S') (x1 : Int32) (x3 : Int32) (S : z_Stt) (h : f_X10_findDoubts_65 n k15 x1 x3 S = some (v, S')) : agM S S' := by
  have a := agM.rfl S
  unfold f_X10_findDoubts_65 at h
  exact a.trans (fr_X10_findDoubts_66 n k15 hk15 x1 x3 0 S h)
set_option maxHeartbeats 4000000 in
set_option maxRecDepth 100000 in
theorem fr_X10_findDoubts_15 (n : Nat) {v : Bool} {S' : z_Stt} : ∀ (m : Nat) (x1 : Int32) (x2 : Int32) (x3 : Int32) (S : z_Stt) (h : f_X10_findDoubts_15 n m x1 x2 x3 S = some (v, S')), agM S S' := by
  intro m
  induction m with
  | zero => intro x1 x2 x3 S h; simp [f_X10_findDoubts_15] at h
  | succ m ih =>
    intro x1 x2 x3 S h
    have a := agM.rfl S
    rw [f_X10_findDoubts_15] at h
    rcases Classical.em (6 ≤ x3) with c1 | c1
    · have h := g_t c1 h
      obtain ⟨v2, S3, e4, h⟩ := g_bd_ex h
      have a := a.trans (fr_X2_weigh  _ e4)
      obtain ⟨c01, h⟩ := g_if h
      obtain ⟨rfl, rfl⟩ := g_some h
      exact a
    · have h := g_f c1 h
      obtain ⟨v5, S6, e7, h⟩ := g_bd_ex h
      have a := a.trans (fr_X2_has x3 _ e7)
      rcases g_bf v5 with c8 | c8
      · have h := g_f (Bool.eq_false_iff.mp c8) h
        exact a.trans (fr_X10_findDoubts_85 n (f_X10_findDoubts_15 n m) ih x1 x2 x3 S6 h)
      · have h := g_t c8 h
        obtain ⟨c9, h⟩ := g_if h
        obtain ⟨v10, S11, e12, h⟩ := g_bd_ex h
        have a := a.trans (fr_X10_findOpen x3 (((x1 >>> (6 &&& 31)) >>> (x3 &&& 31)) &&& 1) (22 + x3.toNatClampNeg) _ (fw4_of c9) e12)
        rcases g_bf v10 with c13 | c13
        · have h := g_f (Bool.eq_false_iff.mp c13) h
          exact a.trans (fr_X10_findDoubts_65 n (f_X10_findDoubts_15 n m) ih x1 x3 S11 h)
        · have h := g_t c13 h
          rcases Classical.em (x2 = 0) with c14 | c14
          · have h := g_t c14 h
            exact a.trans (fr_X10_findDoubts_65 n (f_X10_findDoubts_15 n m) ih x1 x3 S11 h)
          · have h := g_f c14 h
            exact a.trans (fr_X10_findDoubts_66 n (f_X10_findDoubts_15 n m) ih x1 x3 1 S11 h)
set_option maxHeartbeats 4000000 in
set_option maxRecDepth 100000 in
theorem fr_X10_findDoubts {n : Nat} (a0 : Int32) (S : z_Stt) {v : Bool} {S' : z_Stt} (h : f_X10_findDoubts n a0 S = some (v, S')) : agM S S' := by
  have a := agM.rfl S
  unfold f_X10_findDoubts at h
  obtain ⟨S1, e2, h⟩ := g_let_ex h
  have a := a.lsI e2 (by omega)
  exact a.trans (fr_X10_findDoubts_15 n n a0 1 0 S1 h)
set_option maxHeartbeats 4000000 in
set_option maxRecDepth 100000 in
theorem fr_X10_best {n : Nat} (a0 : Int32) (a1 : Int32) (a2 : Int32) (S : z_Stt) {v : Int64} {S' : z_Stt} (h : f_X10_best n a0 a1 a2 S = some (v, S')) : agM S S' := by
  have a := agM.rfl S
  unfold f_X10_best at h
  obtain ⟨v1, S2, e3, h⟩ := g_bd_ex h
  have a := a.trans (fr_X10_isDoubt a0 _ e3)
  rcases g_bf v1 with c4 | c4
  · have h := g_f (Bool.eq_false_iff.mp c4) h
    obtain ⟨rfl, rfl⟩ := g_some h
    exact a
  · have h := g_t c4 h
    obtain ⟨v5, S6, e7, h⟩ := g_bd_ex h
    have a := a.trans (fr_X10_within a1 99 _ e7)
    rcases g_bf v5 with c8 | c8
    · have h := g_f (Bool.eq_false_iff.mp c8) h
      obtain ⟨rfl, rfl⟩ := g_some h
      exact a
    · have h := g_t c8 h
      obtain ⟨v9, S10, e11, h⟩ := g_bd_ex h
      have a := a.trans (fr_X10_within a2 2 _ e11)
      rcases g_bt v9 with c12 | c12
      · have h := g_t c12 h
        obtain ⟨v13, S14, e15, h⟩ := g_bd_ex h
        have a := a.trans (fr_X10_findDoubts a0 _ e15)
        rcases g_bt v13 with c16 | c16
        · have h := g_t c16 h
          obtain ⟨v17, S18, e19, h⟩ := g_bd_ex h
          have a := a.trans (fr_X10_wayBack a1 _ e19)
          obtain ⟨v20, S21, e22, h⟩ := g_bd_ex h
          have a := a.trans (fr_X9_look  _ e22)
          obtain ⟨v23, S24, e25, h⟩ := g_bd_ex h
          have a := a.trans (fr_X2_bestLooks (Int32.toInt64 v17) v20 _ e25)
          rcases g_nem (a2 = 2) with c26 | c26
          · have h := g_f c26 h
            obtain ⟨v27, S28, e29, h⟩ := g_bd_ex h
            have a := a.trans (fr_X10_wayBack a1 _ e29)
            obtain ⟨v30, S31, e32, h⟩ := g_bd_ex h
            have a := a.trans (fr_X9_look  _ e32)
            obtain ⟨v33, S34, e35, h⟩ := g_bd_ex h
            have a := a.trans (fr_X2_costOf v23 (Int32.toInt64 v27) v30 _ e35)
            obtain ⟨v36, S37, e38, h⟩ := g_bd_ex h
            have a := a.trans (fr_X4_become 17 v33 (S34.2.1 1804) _ (by omega) e38)
            obtain ⟨v39, S40, e41, h⟩ := g_bd_ex h
            have a := a.trans (fr_X4_part 17 a2 _ (by omega) e41)
            obtain ⟨rfl, rfl⟩ := g_some h
            exact a
          · have h := g_t c26 h
            obtain ⟨rfl, rfl⟩ := g_some h
            exact a
        · have h := g_f (Bool.eq_false_iff.mp c16) h
          obtain ⟨rfl, rfl⟩ := g_some h
          exact a
      · have h := g_f (Bool.eq_false_iff.mp c12) h
        obtain ⟨rfl, rfl⟩ := g_some h
        exact a
set_option maxHeartbeats 4000000 in
set_option maxRecDepth 100000 in
theorem fr_X10_gone {n : Nat} (a0 : Int32) (a1 : Int32) (S : z_Stt) {v : Int32} {S' : z_Stt} (h : f_X10_gone n a0 a1 S = some (v, S')) : agM S S' := by
  have a := agM.rfl S
  unfold f_X10_gone at h
  obtain ⟨v1, S2, e3, h⟩ := g_bd_ex h
  have a := a.trans (fr_X10_isDoubt a0 _ e3)
  rcases g_bf v1 with c4 | c4
  · have h := g_f (Bool.eq_false_iff.mp c4) h
    obtain ⟨rfl, rfl⟩ := g_some h
    exact a
  · have h := g_t c4 h
    obtain ⟨v5, S6, e7, h⟩ := g_bd_ex h
    have a := a.trans (fr_X10_within a1 99 _ e7)
    rcases g_bt v5 with c8 | c8
    · have h := g_t c8 h
      obtain ⟨v9, S10, e11, h⟩ := g_bd_ex h
      have a := a.trans (fr_X10_findDoubts a0 _ e11)
      rcases g_bt v9 with c12 | c12
      · have h := g_t c12 h
        obtain ⟨v13, S14, e15, h⟩ := g_bd_ex h
        have a := a.trans (fr_X2_worst  _ e15)
        rcases Classical.em (0 ≤ v13) with c16 | c16
        · have h := g_t c16 h
          obtain ⟨v17, S18, e19, h⟩ := g_bd_ex h
          have a := a.trans (fr_X9_ofThing 3 v13 _ e19)
          obtain ⟨v20, S21, e22, h⟩ := g_bd_ex h
          have a := a.trans (fr_J6_bitCount_0f7a4 (S18.1 1800) _ e22)
          obtain ⟨c23, h⟩ := g_if h
          obtain ⟨v24, S25, e26, h⟩ := g_bd_ex h
          have a := a.trans (fr_X4_of144 (22 + v13.toNatClampNeg) _ (fw4_of c23) e26)
          obtain ⟨v27, S28, e29, h⟩ := g_bd_ex h
          have a := a.trans (fr_X9_price  _ e29)
          obtain ⟨v30, S31, e32, h⟩ := g_bd_ex h
          have a := a.trans (fr_X6_says v24 v17 a1 v27 (S28.1 702) v20 _ e32)
          rcases g_bf v30 with c33 | c33
          · have h := g_f (Bool.eq_false_iff.mp c33) h
            obtain ⟨rfl, rfl⟩ := g_some h
            exact a
          · have h := g_t c33 h
            obtain ⟨rfl, rfl⟩ := g_some h
            exact a
        · have h := g_f c16 h
          obtain ⟨rfl, rfl⟩ := g_some h
          exact a
      · have h := g_f (Bool.eq_false_iff.mp c12) h
        obtain ⟨rfl, rfl⟩ := g_some h
        exact a
    · have h := g_f (Bool.eq_false_iff.mp c8) h
      obtain ⟨rfl, rfl⟩ := g_some h
      exact a
set_option maxHeartbeats 4000000 in
set_option maxRecDepth 100000 in
theorem fr_X10_plan_172 (n : Nat) {v : Int64} {S' : z_Stt} (x3 : Int32) (x6 : Int32) (x7 : Int64) (S : z_Stt) (h : f_X10_plan_172 n x3 x6 x7 S = some (v, S')) : agM S S' := by
  have a := agM.rfl S
  unfold f_X10_plan_172 at h
  rcases g_nem (x3 = 2) with c1 | c1
  · have h := g_f c1 h
    obtain ⟨v2, S3, e4, h⟩ := g_bd_ex h
    have a := a.trans (fr_X4_become 17 x7 (12 * (S.2.1 1804)) _ (by omega) e4)
    obtain ⟨v5, S6, e7, h⟩ := g_bd_ex h
    have a := a.trans (fr_X4_part 17 x3 _ (by omega) e7)
    obtain ⟨rfl, rfl⟩ := g_some h
    exact a
  · have h := g_t c1 h
    obtain ⟨rfl, rfl⟩ := g_some h
    exact a
set_option maxHeartbeats 4000000 in
set_option maxRecDepth 100000 in
theorem fr_X10_plan_125 (n : Nat) {v : Int64} {S' : z_Stt} (x2 : Int32) (x3 : Int32) (x4 : Int64) (x6 : Int32) (x7 : Int64) (S : z_Stt) (h : f_X10_plan_125 n x2 x3 x4 x6 x7 S = some (v, S')) : agM S S' := by
  have a := agM.rfl S
  unfold f_X10_plan_125 at h
  obtain ⟨v1, S2, e3, h⟩ := g_bd_ex h
  have a := a.trans (fr_X9_ring  _ e3)
  obtain ⟨v4, S5, e6, h⟩ := g_bd_ex h
  have a := a.trans (fr_X2_costOfRinging x4 v1 (12 - (S2.1 703)) (x2 % 64) _ e6)
  rcases Classical.em (0 ≤ lg_cmp v4 x7) with c7 | c7
  · have h := g_t c7 h
    exact a.trans (fr_X10_plan_172 n x3 x6 x7 S5 h)
  · have h := g_f c7 h
    exact a.trans (fr_X10_plan_172 n x3 2 v4 S5 h)
set_option maxHeartbeats 4000000 in
set_option maxRecDepth 100000 in
theorem fr_X10_plan {n : Nat} (a0 : Int32) (a1 : Int32) (a2 : Int32) (S : z_Stt) {v : Int64} {S' : z_Stt} (h : f_X10_plan n a0 a1 a2 S = some (v, S')) : agM S S' := by
  have a := agM.rfl S
  unfold f_X10_plan at h
  obtain ⟨v1, S2, e3, h⟩ := g_bd_ex h
  have a := a.trans (fr_X10_isDoubt a0 _ e3)
  rcases g_bf v1 with c4 | c4
  · have h := g_f (Bool.eq_false_iff.mp c4) h
    obtain ⟨rfl, rfl⟩ := g_some h
    exact a
  · have h := g_t c4 h
    rcases Classical.em (a1 < 0) with c5 | c5
    · have h := g_t c5 h
      obtain ⟨rfl, rfl⟩ := g_some h
      exact a
    · have h := g_f c5 h
      obtain ⟨v6, S7, e8, h⟩ := g_bd_ex h
      have a := a.trans (fr_X10_within (a1 / 64) 99 _ e8)
      rcases g_bf v6 with c9 | c9
      · have h := g_f (Bool.eq_false_iff.mp c9) h
        obtain ⟨rfl, rfl⟩ := g_some h
        exact a
      · have h := g_t c9 h
        obtain ⟨v10, S11, e12, h⟩ := g_bd_ex h
        have a := a.trans (fr_X10_areThings (a1 % 64) _ e12)
        rcases g_bf v10 with c13 | c13
        · have h := g_f (Bool.eq_false_iff.mp c13) h
          obtain ⟨rfl, rfl⟩ := g_some h
          exact a
        · have h := g_t c13 h
          obtain ⟨v14, S15, e16, h⟩ := g_bd_ex h
          have a := a.trans (fr_X10_within a2 2 _ e16)
          rcases g_bt v14 with c17 | c17
          · have h := g_t c17 h
            obtain ⟨v18, S19, e20, h⟩ := g_bd_ex h
            have a := a.trans (fr_X10_findDoubts a0 _ e20)
            rcases g_bt v18 with c21 | c21
            · have h := g_t c21 h
              obtain ⟨v22, S23, e24, h⟩ := g_bd_ex h
              have a := a.trans (fr_X10_wayBack (a1 / 64) _ e24)
              rcases Classical.em (0 ≤ lg_cmp ((12 * (S23.2.1 1804)) * (Int32.toInt64 v22)) (12 * (S23.2.1 1805))) with c25 | c25
              · have h := g_t c25 h
                exact a.trans (fr_X10_plan_125 n a1 a2 (Int32.toInt64 v22) 0 (12 * (S23.2.1 1805)) S23 h)
              · have h := g_f c25 h
                exact a.trans (fr_X10_plan_125 n a1 a2 (Int32.toInt64 v22) 1 ((12 * (S23.2.1 1804)) * (Int32.toInt64 v22)) S23 h)
            · have h := g_f (Bool.eq_false_iff.mp c21) h
              obtain ⟨rfl, rfl⟩ := g_some h
              exact a
          · have h := g_f (Bool.eq_false_iff.mp c17) h
            obtain ⟨rfl, rfl⟩ := g_some h
            exact a
set_option maxHeartbeats 4000000 in
set_option maxRecDepth 100000 in
theorem fr_X10_rung (S : z_Stt) {v : Int32} {S' : z_Stt} (h : f_X10_rung S = some (v, S')) : agM S S' := by
  have a := agM.rfl S
  unfold f_X10_rung at h
  obtain ⟨S1, e2, h⟩ := g_let_ex h
  have a := a.lsI e2 (by omega)
  obtain ⟨rfl, rfl⟩ := g_some h
  exact a
set_option maxHeartbeats 4000000 in
set_option maxRecDepth 100000 in
theorem fr_X10_two_183 (n : Nat) {v : Int64} {S' : z_Stt} (x3 : Int32) (S : z_Stt) (h : f_X10_two_183 n x3 S = some (v, S')) : agM S S' := by
  have a := agM.rfl S
  unfold f_X10_two_183 at h
  obtain ⟨v1, S2, e3, h⟩ := g_bd_ex h
  have a := a.trans (fr_X4_part 17 x3 _ (by omega) e3)
  obtain ⟨rfl, rfl⟩ := g_some h
  exact a
set_option maxHeartbeats 4000000 in
set_option maxRecDepth 100000 in
theorem fr_X10_two {n : Nat} (a0 : Int32) (a1 : Int32) (a2 : Int32) (S : z_Stt) {v : Int64} {S' : z_Stt} (h : f_X10_two n a0 a1 a2 S = some (v, S')) : agM S S' := by
  have a := agM.rfl S
  unfold f_X10_two at h
  rcases Classical.em (a0 < 0) with c1 | c1
  · have h := g_t c1 h
    obtain ⟨rfl, rfl⟩ := g_some h
    exact a
  · have h := g_f c1 h
    obtain ⟨v2, S3, e4, h⟩ := g_bd_ex h
    have a := a.trans (fr_X10_within (a0 / 100) 12 _ e4)
    rcases g_bf v2 with c5 | c5
    · have h := g_f (Bool.eq_false_iff.mp c5) h
      obtain ⟨rfl, rfl⟩ := g_some h
      exact a
    · have h := g_t c5 h
      obtain ⟨v6, S7, e8, h⟩ := g_bd_ex h
      have a := a.trans (fr_X10_within (a0 % 100) 12 _ e8)
      rcases g_bf v6 with c9 | c9
      · have h := g_f (Bool.eq_false_iff.mp c9) h
        obtain ⟨rfl, rfl⟩ := g_some h
        exact a
      · have h := g_t c9 h
        obtain ⟨v10, S11, e12, h⟩ := g_bd_ex h
        have a := a.trans (fr_X10_within a1 3 _ e12)
        rcases g_bf v10 with c13 | c13
        · have h := g_f (Bool.eq_false_iff.mp c13) h
          obtain ⟨rfl, rfl⟩ := g_some h
          exact a
        · have h := g_t c13 h
          obtain ⟨v14, S15, e16, h⟩ := g_bd_ex h
          have a := a.trans (fr_X10_within a2 1 _ e16)
          rcases g_bt v14 with c17 | c17
          · have h := g_t c17 h
            by_cases c18 : a1 = 0
            · have h := g_t c18 h
              obtain ⟨v19, S20, e21, h⟩ := g_bd_ex h
              have a := a.trans (fr_X4_become 17 (Int32.toInt64 ((12 - (a0 / 100)) * (12 - (a0 % 100)))) 144 _ (by omega) e21)
              exact a.trans (fr_X10_two_183 n a2 S20 h)
            have h := g_f c18 h
            by_cases c22 : a1 = 1
            · have h := g_t c22 h
              obtain ⟨v23, S24, e25, h⟩ := g_bd_ex h
              have a := a.trans (fr_X4_become 17 (Int32.toInt64 ((144 - ((12 - (a0 / 100)) * (12 - (a0 % 100)))) - ((a0 / 100) * (a0 % 100)))) 144 _ (by omega) e25)
              exact a.trans (fr_X10_two_183 n a2 S24 h)
            have h := g_f c22 h
            by_cases c26 : a1 = 2
            · have h := g_t c26 h
              obtain ⟨v27, S28, e29, h⟩ := g_bd_ex h
              have a := a.trans (fr_X4_become 17 (Int32.toInt64 ((a0 / 100) * (a0 % 100))) 144 _ (by omega) e29)
              exact a.trans (fr_X10_two_183 n a2 S28 h)
            have h := g_f c26 h
            obtain ⟨v30, S31, e32, h⟩ := g_bd_ex h
            have a := a.trans (fr_X4_become 17 (Int32.toInt64 (((12 - (a0 / 100)) * (12 - (a0 % 100))) + ((a0 / 100) * (a0 % 100)))) 144 _ (by omega) e32)
            exact a.trans (fr_X10_two_183 n a2 S31 h)
          · have h := g_f (Bool.eq_false_iff.mp c17) h
            obtain ⟨rfl, rfl⟩ := g_some h
            exact a
set_option maxHeartbeats 4000000 in
set_option maxRecDepth 100000 in
theorem fr_X10_shortest {n : Nat} (a0 : Int32) (a1 : Int32) (a2 : Int32) (S : z_Stt) {v : Int32} {S' : z_Stt} (h : f_X10_shortest n a0 a1 a2 S = some (v, S')) : agM S S' := by
  have a := agM.rfl S
  unfold f_X10_shortest at h
  rcases Classical.em (a0 < 0) with c1 | c1
  · have h := g_t c1 h
    obtain ⟨rfl, rfl⟩ := g_some h
    exact a
  · have h := g_f c1 h
    obtain ⟨v2, S3, e4, h⟩ := g_bd_ex h
    have a := a.trans (fr_X10_within (a0 / 10) 5 _ e4)
    rcases g_bf v2 with c5 | c5
    · have h := g_f (Bool.eq_false_iff.mp c5) h
      obtain ⟨rfl, rfl⟩ := g_some h
      exact a
    · have h := g_t c5 h
      obtain ⟨v6, S7, e8, h⟩ := g_bd_ex h
      have a := a.trans (fr_X10_within (a0 % 10) 5 _ e8)
      rcases g_bt v6 with c9 | c9
      · have h := g_t c9 h
        obtain ⟨v10, S11, e12, h⟩ := g_bd_ex h
        have a := a.trans (fr_X10_within a1 63 _ e12)
        rcases g_bf v10 with c13 | c13
        · have h := g_f (Bool.eq_false_iff.mp c13) h
          obtain ⟨rfl, rfl⟩ := g_some h
          exact a
        · have h := g_t c13 h
          rcases Classical.em ((-1) ≤ a2) with c14 | c14
          · have h := g_t c14 h
            obtain ⟨v15, S16, e17, h⟩ := g_bd_ex h
            have a := a.trans (fr_X7_find (a0 / 10) (a0 % 10) a1 _ e17)
            rcases Classical.em (0 ≤ a2) with c18 | c18
            · have h := g_t c18 h
              rcases Classical.em (S16.1 2802 ≤ a2) with c19 | c19
              · have h := g_t c19 h
                obtain ⟨rfl, rfl⟩ := g_some h
                exact a
              · have h := g_f c19 h
                obtain ⟨c20, h⟩ := g_if h
                obtain ⟨rfl, rfl⟩ := g_some h
                exact a
            · have h := g_f c18 h
              obtain ⟨rfl, rfl⟩ := g_some h
              exact a
          · have h := g_f c14 h
            obtain ⟨rfl, rfl⟩ := g_some h
            exact a
      · have h := g_f (Bool.eq_false_iff.mp c9) h
        obtain ⟨rfl, rfl⟩ := g_some h
        exact a
set_option maxHeartbeats 4000000 in
set_option maxRecDepth 100000 in
theorem fr_X10_areRooms_2 (n : Nat) {v : Bool} {S' : z_Stt} : ∀ (m : Nat) (x0 : Nat) (x1 : Int32) (S : z_Stt) (ux0 : x0 + 1 < 48) (h : f_X10_areRooms_2 n m x0 x1 S = some (v, S')), agM S S' := by
  intro m
  induction m with
  | zero => intro x0 x1 S ux0 h; simp [f_X10_areRooms_2] at h
  | succ m ih =>
    intro x0 x1 S ux0 h
    have a := agM.rfl S
    rw [f_X10_areRooms_2] at h
    rcases Classical.em (S.1 (100 * x0 + 3) ≤ x1) with c1 | c1
    · have h := g_t c1 h
      obtain ⟨rfl, rfl⟩ := g_some h
      exact a
    · have h := g_f c1 h
      obtain ⟨v2, S3, e4, h⟩ := g_bd_ex h
      have a := a.trans (fr_X8_at x0 x1 _ ux0 e4)
      rcases Classical.em (lg_cmp v2 0 < 0) with c5 | c5
      · have h := g_t c5 h
        obtain ⟨rfl, rfl⟩ := g_some h
        exact a
      · have h := g_f c5 h
        obtain ⟨v6, S7, e8, h⟩ := g_bd_ex h
        have a := a.trans (fr_X8_at x0 x1 _ ux0 e8)
        rcases Classical.em (lg_cmp v6 6 < 0) with c9 | c9
        · have h := g_t c9 h
          exact a.trans (ih x0 (x1 + 1) S7 ux0 h)
        · have h := g_f c9 h
          obtain ⟨rfl, rfl⟩ := g_some h
          exact a
set_option maxHeartbeats 4000000 in
set_option maxRecDepth 100000 in
theorem fr_X10_areRooms {n : Nat} (a0 : Nat) (S : z_Stt) {v : Bool} {S' : z_Stt} (ua0 : a0 + 1 < 48) (h : f_X10_areRooms n a0 S = some (v, S')) : agM S S' := by
  have a := agM.rfl S
  unfold f_X10_areRooms at h
  exact a.trans (fr_X10_areRooms_2 n n a0 0 S ua0 h)
set_option maxHeartbeats 4000000 in
set_option maxRecDepth 100000 in
theorem fr_X10_lengthOf_4 (n : Nat) {v : Int32} {S' : z_Stt} : ∀ (m : Nat) (x1 : Nat) (x2 : Int32) (x3 : Int32) (S : z_Stt) (ux1 : x1 + 1 < 48) (h : f_X10_lengthOf_4 n m x1 x2 x3 S = some (v, S')), agM S S' := by
  intro m
  induction m with
  | zero => intro x1 x2 x3 S ux1 h; simp [f_X10_lengthOf_4] at h
  | succ m ih =>
    intro x1 x2 x3 S ux1 h
    have a := agM.rfl S
    rw [f_X10_lengthOf_4] at h
    rcases Classical.em (S.1 (100 * x1 + 3) ≤ x3) with c1 | c1
    · have h := g_t c1 h
      obtain ⟨rfl, rfl⟩ := g_some h
      exact a
    · have h := g_f c1 h
      obtain ⟨v2, S3, e4, h⟩ := g_bd_ex h
      have a := a.trans (fr_X8_at x1 (x3 - 1) _ ux1 e4)
      obtain ⟨v5, S6, e7, h⟩ := g_bd_ex h
      have a := a.trans (fr_X8_at x1 x3 _ ux1 e7)
      obtain ⟨v8, S9, e10, h⟩ := g_bd_ex h
      have a := a.trans (fr_X9_yards (Int64.toInt32 v2) (Int64.toInt32 v5) _ e10)
      exact a.trans (ih x1 (x2 + v8) (x3 + 1) S9 ux1 h)
set_option maxHeartbeats 4000000 in
set_option maxRecDepth 100000 in
theorem fr_X10_lengthOf {n : Nat} (a0 : Nat) (S : z_Stt) {v : Int32} {S' : z_Stt} (ua0 : a0 + 1 < 48) (h : f_X10_lengthOf n a0 S = some (v, S')) : agM S S' := by
  have a := agM.rfl S
  unfold f_X10_lengthOf at h
  exact a.trans (fr_X10_lengthOf_4 n n a0 0 1 S ua0 h)
set_option maxHeartbeats 4000000 in
set_option maxRecDepth 100000 in
theorem fr_X10_roomsOf_4 (n : Nat) {v : Int32} {S' : z_Stt} : ∀ (m : Nat) (x0 : Nat) (x1 : Int32) (x2 : Int32) (S : z_Stt) (ux0 : x0 + 1 < 48) (h : f_X10_roomsOf_4 n m x0 x1 x2 S = some (v, S')), agM S S' := by
  intro m
  induction m with
  | zero => intro x0 x1 x2 S ux0 h; simp [f_X10_roomsOf_4] at h
  | succ m ih =>
    intro x0 x1 x2 S ux0 h
    have a := agM.rfl S
    rw [f_X10_roomsOf_4] at h
    rcases Classical.em (S.1 (100 * x0 + 3) ≤ x2) with c1 | c1
    · have h := g_t c1 h
      obtain ⟨rfl, rfl⟩ := g_some h
      exact a
    · have h := g_f c1 h
      obtain ⟨v2, S3, e4, h⟩ := g_bd_ex h
      have a := a.trans (fr_X8_at x0 x2 _ ux0 e4)
      exact a.trans (ih x0 (x1 ||| (1 <<< ((Int64.toInt32 v2) &&& 31))) (x2 + 1) S3 ux0 h)
set_option maxHeartbeats 4000000 in
set_option maxRecDepth 100000 in
theorem fr_X10_roomsOf {n : Nat} (a0 : Nat) (S : z_Stt) {v : Int32} {S' : z_Stt} (ua0 : a0 + 1 < 48) (h : f_X10_roomsOf n a0 S = some (v, S')) : agM S S' := by
  have a := agM.rfl S
  unfold f_X10_roomsOf at h
  exact a.trans (fr_X10_roomsOf_4 n n a0 0 0 S ua0 h)
set_option maxHeartbeats 4000000 in
set_option maxRecDepth 100000 in
theorem fr_X10_length {n : Nat} (a0 : Int32) (a1 : Int32) (S : z_Stt) {v : Int32} {S' : z_Stt} (h : f_X10_length n a0 a1 S = some (v, S')) : agM S S' := by
  have a := agM.rfl S
  unfold f_X10_length at h
  obtain ⟨v1, S2, e3, h⟩ := g_bd_ex h
  have a := a.trans (fr_X10_isShelf a0 _ e3)
  rcases g_bf v1 with c4 | c4
  · have h := g_f (Bool.eq_false_iff.mp c4) h
    obtain ⟨rfl, rfl⟩ := g_some h
    exact a
  · have h := g_t c4 h
    obtain ⟨v5, S6, e7, h⟩ := g_bd_ex h
    have a := a.trans (fr_X10_within a1 1 _ e7)
    rcases g_bt v5 with c8 | c8
    · have h := g_t c8 h
      obtain ⟨c9, h⟩ := g_if h
      obtain ⟨v10, S11, e12, h⟩ := g_bd_ex h
      have a := a.trans (fr_X8_refusal (36 + 2 * a0.toNatClampNeg) 0 _ (fw8_of c9) e12)
      rcases Classical.em (v10 = 0) with c13 | c13
      · have h := g_t c13 h
        rcases Classical.em (S11.1 (100 * (36 + 2 * a0.toNatClampNeg) + 3) = 0) with c14 | c14
        · have h := g_t c14 h
          obtain ⟨rfl, rfl⟩ := g_some h
          exact a
        · have h := g_f c14 h
          obtain ⟨v15, S16, e17, h⟩ := g_bd_ex h
          have a := a.trans (fr_X10_areRooms (36 + 2 * a0.toNatClampNeg) _ (fw8_of c9) e17)
          rcases g_bt v15 with c18 | c18
          · have h := g_t c18 h
            obtain ⟨v19, S20, e21, h⟩ := g_bd_ex h
            have a := a.trans (fr_X10_lengthOf (36 + 2 * a0.toNatClampNeg) _ (fw8_of c9) e21)
            rcases g_nem (a1 = 0) with c22 | c22
            · have h := g_f c22 h
              obtain ⟨v23, S24, e25, h⟩ := g_bd_ex h
              have a := a.trans (fr_X8_at (36 + 2 * a0.toNatClampNeg) 0 _ (fw8_of c9) e25)
              obtain ⟨v26, S27, e28, h⟩ := g_bd_ex h
              have a := a.trans (fr_X8_at (36 + 2 * a0.toNatClampNeg) ((S24.1 (100 * (36 + 2 * a0.toNatClampNeg) + 3)) - 1) _ (fw8_of c9) e28)
              obtain ⟨v29, S30, e31, h⟩ := g_bd_ex h
              have a := a.trans (fr_X10_roomsOf (36 + 2 * a0.toNatClampNeg) _ (fw8_of c9) e31)
              obtain ⟨v32, S33, e34, h⟩ := g_bd_ex h
              have a := a.trans (fr_X7_find (Int64.toInt32 v23) (Int64.toInt32 v26) v29 _ e34)
              obtain ⟨rfl, rfl⟩ := g_some h
              exact a
            · have h := g_t c22 h
              obtain ⟨rfl, rfl⟩ := g_some h
              exact a
          · have h := g_f (Bool.eq_false_iff.mp c18) h
            obtain ⟨rfl, rfl⟩ := g_some h
            exact a
      · have h := g_f c13 h
        obtain ⟨rfl, rfl⟩ := g_some h
        exact a
    · have h := g_f (Bool.eq_false_iff.mp c8) h
      obtain ⟨rfl, rfl⟩ := g_some h
      exact a
set_option maxHeartbeats 4000000 in
set_option maxRecDepth 100000 in
theorem fr_X10_list {n : Nat} (a0 : Int32) (a1 : Int32) (S : z_Stt) {v : Int64} {S' : z_Stt} (h : f_X10_list n a0 a1 S = some (v, S')) : agM S S' := by
  have a := agM.rfl S
  unfold f_X10_list at h
  rcases Classical.em (a0 < 0) with c1 | c1
  · have h := g_t c1 h
    obtain ⟨rfl, rfl⟩ := g_some h
    exact a
  · have h := g_f c1 h
    obtain ⟨v2, S3, e4, h⟩ := g_bd_ex h
    have a := a.trans (fr_X10_isThing (a0 / 100) _ e4)
    rcases g_bf v2 with c5 | c5
    · have h := g_f (Bool.eq_false_iff.mp c5) h
      obtain ⟨rfl, rfl⟩ := g_some h
      exact a
    · have h := g_t c5 h
      obtain ⟨v6, S7, e8, h⟩ := g_bd_ex h
      have a := a.trans (fr_X10_within (a0 % 100) 12 _ e8)
      rcases g_bf v6 with c9 | c9
      · have h := g_f (Bool.eq_false_iff.mp c9) h
        obtain ⟨rfl, rfl⟩ := g_some h
        exact a
      · have h := g_t c9 h
        obtain ⟨v10, S11, e12, h⟩ := g_bd_ex h
        have a := a.trans (fr_X10_within a1 1 _ e12)
        rcases g_bt v10 with c13 | c13
        · have h := g_t c13 h
          obtain ⟨v14, S15, e16, h⟩ := g_bd_ex h
          have a := a.trans (fr_X9_ofThing 0 (a0 / 100) _ e16)
          obtain ⟨v17, S18, e19, h⟩ := g_bd_ex h
          have a := a.trans (fr_X4_become 17 ((Int32.toInt64 v14) * (Int32.toInt64 (a0 % 100))) (((Int32.toInt64 v14) * (Int32.toInt64 (a0 % 100))) + ((144 - (Int32.toInt64 v14)) * 12)) _ (by omega) e19)
          rcases g_bf v17 with c20 | c20
          · have h := g_f (Bool.eq_false_iff.mp c20) h
            obtain ⟨rfl, rfl⟩ := g_some h
            exact a
          · have h := g_t c20 h
            obtain ⟨v21, S22, e23, h⟩ := g_bd_ex h
            have a := a.trans (fr_X4_part 17 a1 _ (by omega) e23)
            obtain ⟨rfl, rfl⟩ := g_some h
            exact a
        · have h := g_f (Bool.eq_false_iff.mp c13) h
          obtain ⟨rfl, rfl⟩ := g_some h
          exact a
set_option maxHeartbeats 4000000 in
set_option maxRecDepth 100000 in
theorem fr_X10_ever_54 (n : Nat) {v : Int64} {S' : z_Stt} : ∀ (m : Nat) (x2 : Int32) (x3 : Int32) (x4 : Int64) (x6 : Int64) (x8 : Int64) (x10 : Int32) (S : z_Stt) (h : f_X10_ever_54 n m x2 x3 x4 x6 x8 x10 S = some (v, S')), agM S S' := by
  intro m
  induction m with
  | zero => intro x2 x3 x4 x6 x8 x10 S h; simp [f_X10_ever_54] at h
  | succ m ih =>
    intro x2 x3 x4 x6 x8 x10 S h
    have a := agM.rfl S
    rw [f_X10_ever_54] at h
    rcases Classical.em (x2 ≤ x10) with c1 | c1
    · have h := g_t c1 h
      obtain ⟨v2, S3, e4, h⟩ := g_bd_ex h
      have a := a.trans (fr_X4_become 17 (x6 - x8) x6 _ (by omega) e4)
      obtain ⟨v5, S6, e7, h⟩ := g_bd_ex h
      have a := a.trans (fr_X4_part 17 x3 _ (by omega) e7)
      obtain ⟨rfl, rfl⟩ := g_some h
      exact a
    · have h := g_f c1 h
      exact a.trans (ih x2 x3 x4 (x6 * 144) (x8 * x4) (x10 + 1) S h)
set_option maxHeartbeats 4000000 in
set_option maxRecDepth 100000 in
theorem fr_X10_ever {n : Nat} (a0 : Int32) (a1 : Int32) (a2 : Int32) (S : z_Stt) {v : Int64} {S' : z_Stt} (h : f_X10_ever n a0 a1 a2 S = some (v, S')) : agM S S' := by
  have a := agM.rfl S
  unfold f_X10_ever at h
  obtain ⟨v1, S2, e3, h⟩ := g_bd_ex h
  have a := a.trans (fr_X10_isThing a0 _ e3)
  rcases g_bf v1 with c4 | c4
  · have h := g_f (Bool.eq_false_iff.mp c4) h
    obtain ⟨rfl, rfl⟩ := g_some h
    exact a
  · have h := g_t c4 h
    obtain ⟨v5, S6, e7, h⟩ := g_bd_ex h
    have a := a.trans (fr_X10_within a1 7 _ e7)
    rcases g_bf v5 with c8 | c8
    · have h := g_f (Bool.eq_false_iff.mp c8) h
      obtain ⟨rfl, rfl⟩ := g_some h
      exact a
    · have h := g_t c8 h
      obtain ⟨v9, S10, e11, h⟩ := g_bd_ex h
      have a := a.trans (fr_X10_within a2 1 _ e11)
      rcases g_bt v9 with c12 | c12
      · have h := g_t c12 h
        obtain ⟨v13, S14, e15, h⟩ := g_bd_ex h
        have a := a.trans (fr_X9_ofThing 0 a0 _ e15)
        exact a.trans (fr_X10_ever_54 n n a1 a2 (Int32.toInt64 (144 - v13)) 1 1 0 S14 h)
      · have h := g_f (Bool.eq_false_iff.mp c12) h
        obtain ⟨rfl, rfl⟩ := g_some h
        exact a
set_option maxHeartbeats 4000000 in
set_option maxRecDepth 100000 in
theorem fr_X10_camera {n : Nat} (a0 : Int32) (a1 : Int32) (a2 : Int32) (S : z_Stt) {v : Int64} {S' : z_Stt} (h : f_X10_camera n a0 a1 a2 S = some (v, S')) : agM S S' := by
  have a := agM.rfl S
  unfold f_X10_camera at h
  obtain ⟨v1, S2, e3, h⟩ := g_bd_ex h
  have a := a.trans (fr_X10_isDoubt a0 _ e3)
  rcases g_bf v1 with c4 | c4
  · have h := g_f (Bool.eq_false_iff.mp c4) h
    obtain ⟨rfl, rfl⟩ := g_some h
    exact a
  · have h := g_t c4 h
    obtain ⟨v5, S6, e7, h⟩ := g_bd_ex h
    have a := a.trans (fr_X10_within a1 99 _ e7)
    rcases g_bf v5 with c8 | c8
    · have h := g_f (Bool.eq_false_iff.mp c8) h
      obtain ⟨rfl, rfl⟩ := g_some h
      exact a
    · have h := g_t c8 h
      obtain ⟨v9, S10, e11, h⟩ := g_bd_ex h
      have a := a.trans (fr_X10_within a2 2 _ e11)
      rcases g_bt v9 with c12 | c12
      · have h := g_t c12 h
        obtain ⟨v13, S14, e15, h⟩ := g_bd_ex h
        have a := a.trans (fr_X10_findDoubts a0 _ e15)
        rcases g_bt v13 with c16 | c16
        · have h := g_t c16 h
          obtain ⟨v17, S18, e19, h⟩ := g_bd_ex h
          have a := a.trans (fr_X10_wayBack a1 _ e19)
          obtain ⟨v20, S21, e22, h⟩ := g_bd_ex h
          have a := a.trans (fr_X2_bestSeen (Int32.toInt64 v17) _ e22)
          rcases Classical.em (0 ≤ v20) with c23 | c23
          · have h := g_t c23 h
            rcases g_nem (a2 = 2) with c24 | c24
            · have h := g_f c24 h
              obtain ⟨v25, S26, e27, h⟩ := g_bd_ex h
              have a := a.trans (fr_X10_wayBack a1 _ e27)
              obtain ⟨v28, S29, e30, h⟩ := g_bd_ex h
              have a := a.trans (fr_X2_savedBy v20 (Int32.toInt64 v25) _ e30)
              obtain ⟨v31, S32, e33, h⟩ := g_bd_ex h
              have a := a.trans (fr_X4_become 17 v28 (S29.2.1 1804) _ (by omega) e33)
              obtain ⟨v34, S35, e36, h⟩ := g_bd_ex h
              have a := a.trans (fr_X4_part 17 a2 _ (by omega) e36)
              obtain ⟨rfl, rfl⟩ := g_some h
              exact a
            · have h := g_t c24 h
              obtain ⟨rfl, rfl⟩ := g_some h
              exact a
          · have h := g_f c23 h
            obtain ⟨rfl, rfl⟩ := g_some h
            exact a
        · have h := g_f (Bool.eq_false_iff.mp c16) h
          obtain ⟨rfl, rfl⟩ := g_some h
          exact a
      · have h := g_f (Bool.eq_false_iff.mp c12) h
        obtain ⟨rfl, rfl⟩ := g_some h
        exact a
set_option maxHeartbeats 4000000 in
set_option maxRecDepth 100000 in
theorem fr_X10_isWay (a0 : Int32) (S : z_Stt) {v : Bool} {S' : z_Stt} (h : f_X10_isWay a0 S = some (v, S')) : agM S S' := by
  have a := agM.rfl S
  unfold f_X10_isWay at h
  obtain ⟨v1, S2, e3, h⟩ := g_bd_ex h
  have a := a.trans (fr_X10_within a0 4 _ e3)
  obtain ⟨rfl, rfl⟩ := g_some h
  exact a
set_option maxHeartbeats 4000000 in
set_option maxRecDepth 100000 in
theorem fr_X10_decides {n : Nat} (a0 : Int32) (a1 : Int32) (a2 : Int32) (a3 : Int32) (S : z_Stt) {v : Bool} {S' : z_Stt} (h : f_X10_decides n a0 a1 a2 a3 S = some (v, S')) : agM S S' := by
  have a := agM.rfl S
  unfold f_X10_decides at h
  by_cases c1 : a0 = 1
  · have h := g_t c1 h
    obtain ⟨rfl, rfl⟩ := g_some h
    exact a
  have h := g_f c1 h
  by_cases c2 : a0 = 2
  · have h := g_t c2 h
    rcases g_nem (a2 = 0) with c3 | c3
    · have h := g_f c3 h
      obtain ⟨rfl, rfl⟩ := g_some h
      exact a
    · have h := g_t c3 h
      obtain ⟨rfl, rfl⟩ := g_some h
      exact a
  have h := g_f c2 h
  by_cases c4 : a0 = 3
  · have h := g_t c4 h
    obtain ⟨v5, S6, e7, h⟩ := g_bd_ex h
    have a := a.trans (fr_X10_findOpen a1 a2 17 _ (by omega) e7)
    obtain ⟨v8, S9, e10, h⟩ := g_bd_ex h
    have a := a.trans (fr_X10_paysBy 17 a1 a3 _ (by omega) e10)
    obtain ⟨rfl, rfl⟩ := g_some h
    exact a
  have h := g_f c4 h
  by_cases c11 : a0 = 4
  · have h := g_t c11 h
    obtain ⟨v12, S13, e14, h⟩ := g_bd_ex h
    have a := a.trans (fr_X10_findOpen a1 a2 17 _ (by omega) e14)
    obtain ⟨v15, S16, e17, h⟩ := g_bd_ex h
    have a := a.trans (fr_X4_of144 17 _ (by omega) e17)
    obtain ⟨v18, S19, e20, h⟩ := g_bd_ex h
    have a := a.trans (fr_X9_ofThing 3 a1 _ e20)
    obtain ⟨v21, S22, e23, h⟩ := g_bd_ex h
    have a := a.trans (fr_X9_price  _ e23)
    obtain ⟨v24, S25, e26, h⟩ := g_bd_ex h
    have a := a.trans (fr_X6_says v15 v18 a3 v21 (S22.1 702) 1 _ e26)
    obtain ⟨rfl, rfl⟩ := g_some h
    exact a
  have h := g_f c11 h
  obtain ⟨rfl, rfl⟩ := g_some h
  exact a
set_option maxHeartbeats 4000000 in
set_option maxRecDepth 100000 in
theorem fr_X10_costOf (a0 : Int32) (a1 : Int32) (a2 : Int32) (a3 : Int32) (S : z_Stt) {v : Int32} {S' : z_Stt} (h : f_X10_costOf a0 a1 a2 a3 S = some (v, S')) : agM S S' := by
  have a := agM.rfl S
  unfold f_X10_costOf at h
  rcases Classical.em (a2 = 0) with c1 | c1
  · have h := g_t c1 h
    rcases Classical.em (a3 = 0) with c2 | c2
    · have h := g_t c2 h
      obtain ⟨rfl, rfl⟩ := g_some h
      exact a
    · have h := g_f c2 h
      obtain ⟨v3, S4, e5, h⟩ := g_bd_ex h
      have a := a.trans (fr_X9_ofThing 3 a0 _ e5)
      obtain ⟨rfl, rfl⟩ := g_some h
      exact a
  · have h := g_f c1 h
    obtain ⟨v6, S7, e8, h⟩ := g_bd_ex h
    have a := a.trans (fr_X10_wayBack a1 _ e8)
    obtain ⟨rfl, rfl⟩ := g_some h
    exact a
set_option maxHeartbeats 4000000 in
set_option maxRecDepth 100000 in
theorem fr_X10_drawn_213 (n : Nat) {v : Int32} {S' : z_Stt} (k123 : Int32 → Int32 → Int32 → Int32 → Int32 → Int32 → Int32 → Int32 → Int32 → Int32 → z_Stt → Option (Int32 × z_Stt)) (hk123 : ∀ (x2 : Int32) (x4 : Int32) (x5 : Int32) (x6 : Int32) (x7 : Int32) (x8 : Int32) (x9 : Int32) (x10 : Int32) (x11 : Int32) (x12 : Int32) (S : z_Stt), k123 x2 x4 x5 x6 x7 x8 x9 x10 x11 x12 S = some (v, S') → agM S S') (x2 : Int32) (x4 : Int32) (x5 : Int32) (x6 : Int32) (x7 : Int32) (x8 : Int32) (x9 : Int32) (x10 : Int32) (x12 : Int32) (y0 : Int32) (y1 : Int32) (S : z_Stt) (h : f_X10_drawn_213 n k123 x2 x4 x5 x6 x7 x8 x9 x10 x12 y0 y1 S = some (v, S')) : agM S S' := by
  have a := agM.rfl S
  unfold f_X10_drawn_213 at h
  exact a.trans (hk123 x2 x4 x5 x6 x7 x8 x9 x10 (y1 + y0) (x12 + 1) S h)
set_option maxHeartbeats 4000000 in
set_option maxRecDepth 100000 in
theorem fr_X10_drawn_212 (n : Nat) {v : Int32} {S' : z_Stt} (k123 : Int32 → Int32 → Int32 → Int32 → Int32 → Int32 → Int32 → Int32 → Int32 → Int32 → z_Stt → Option (Int32 × z_Stt)) (hk123 : ∀ (x2 : Int32) (x4 : Int32) (x5 : Int32) (x6 : Int32) (x7 : Int32) (x8 : Int32) (x9 : Int32) (x10 : Int32) (x11 : Int32) (x12 : Int32) (S : z_Stt), k123 x2 x4 x5 x6 x7 x8 x9 x10 x11 x12 S = some (v, S') → agM S S') (x2 : Int32) (x4 : Int32) (x5 : Int32) (x6 : Int32) (x7 : Int32) (x8 : Int32) (x9 : Int32) (x10 : Int32) (x12 : Int32) (y0 : Int32) (S : z_Stt) (h : f_X10_drawn_212 n k123 x2 x4 x5 x6 x7 x8 x9 x10 x12 y0 S = some (v, S')) : agM S S' := by
  have a := agM.rfl S
  unfold f_X10_drawn_212 at h
  exact a.trans (fr_X10_drawn_213 n k123 hk123 x2 x4 x5 x6 x7 x8 x9 x10 x12 0 y0 S h)
set_option maxHeartbeats 4000000 in
set_option maxRecDepth 100000 in
theorem fr_X10_drawn_167 (n : Nat) {v : Int32} {S' : z_Stt} (k123 : Int32 → Int32 → Int32 → Int32 → Int32 → Int32 → Int32 → Int32 → Int32 → Int32 → z_Stt → Option (Int32 × z_Stt)) (hk123 : ∀ (x2 : Int32) (x4 : Int32) (x5 : Int32) (x6 : Int32) (x7 : Int32) (x8 : Int32) (x9 : Int32) (x10 : Int32) (x11 : Int32) (x12 : Int32) (S : z_Stt), k123 x2 x4 x5 x6 x7 x8 x9 x10 x11 x12 S = some (v, S') → agM S S') (x2 : Int32) (x4 : Int32) (x5 : Int32) (x6 : Int32) (x7 : Int32) (x8 : Int32) (x9 : Int32) (x10 : Int32) (x11 : Int32) (x12 : Int32) (y0 : Int32) (S : z_Stt) (h : f_X10_drawn_167 n k123 x2 x4 x5 x6 x7 x8 x9 x10 x11 x12 y0 S = some (v, S')) : agM S S' := by
  have a := agM.rfl S
  unfold f_X10_drawn_167 at h
  obtain ⟨v1, S2, e3, h⟩ := g_bd_ex h
  have a := a.trans (fr_X10_costOf x5 x6 y0 (S.1 3101) _ e3)
  rcases Classical.em (y0 = 0) with c4 | c4
  · have h := g_t c4 h
    exact a.trans (fr_X10_drawn_212 n k123 hk123 x2 x4 x5 x6 x7 x8 x9 (x10 + v1) x12 x11 S2 h)
  · have h := g_f c4 h
    rcases g_nem (S2.1 3101 = 0) with c5 | c5
    · have h := g_f c5 h
      exact a.trans (fr_X10_drawn_212 n k123 hk123 x2 x4 x5 x6 x7 x8 x9 (x10 + v1) x12 x11 S2 h)
    · have h := g_t c5 h
      exact a.trans (fr_X10_drawn_213 n k123 hk123 x2 x4 x5 x6 x7 x8 x9 (x10 + v1) x12 1 x11 S2 h)
set_option maxHeartbeats 4000000 in
set_option maxRecDepth 100000 in
theorem fr_X10_drawn_123 (n : Nat) {v : Int32} {S' : z_Stt} : ∀ (m : Nat) (x2 : Int32) (x4 : Int32) (x5 : Int32) (x6 : Int32) (x7 : Int32) (x8 : Int32) (x9 : Int32) (x10 : Int32) (x11 : Int32) (x12 : Int32) (S : z_Stt) (h : f_X10_drawn_123 n m x2 x4 x5 x6 x7 x8 x9 x10 x11 x12 S = some (v, S')), agM S S' := by
  intro m
  induction m with
  | zero => intro x2 x4 x5 x6 x7 x8 x9 x10 x11 x12 S h; simp [f_X10_drawn_123] at h
  | succ m ih =>
    intro x2 x4 x5 x6 x7 x8 x9 x10 x11 x12 S h
    have a := agM.rfl S
    rw [f_X10_drawn_123] at h
    rcases Classical.em (x2 ≤ x12) with c1 | c1
    · have h := g_t c1 h
      rcases g_nem (x4 = 0) with c2 | c2
      · have h := g_f c2 h
        obtain ⟨rfl, rfl⟩ := g_some h
        exact a
      · have h := g_t c2 h
        obtain ⟨rfl, rfl⟩ := g_some h
        exact a
    · have h := g_f c1 h
      obtain ⟨v3, S4, e5, h⟩ := g_bd_ex h
      have a := a.trans (fr_X10_traceOf x5 _ e5)
      obtain ⟨v6, S7, e8, h⟩ := g_bd_ex h
      have a := a.trans (fr_X10_staleOf x5 _ e8)
      obtain ⟨v9, S10, e11, h⟩ := g_bd_ex h
      have a := a.trans (fr_X3_drawMorning x7 v3 v6 _ e11)
      rcases Classical.em (S10.1 3102 = 0) with c12 | c12
      · have h := g_t c12 h
        exact a.trans (fr_X10_drawn_167 n (f_X10_drawn_123 n m) ih x2 x4 x5 x6 x7 x8 x9 x10 x11 x12 x9 S10 h)
      · have h := g_f c12 h
        exact a.trans (fr_X10_drawn_167 n (f_X10_drawn_123 n m) ih x2 x4 x5 x6 x7 x8 x9 x10 x11 x12 x8 S10 h)
set_option maxHeartbeats 4000000 in
set_option maxRecDepth 100000 in
theorem fr_X10_drawn {n : Nat} (a0 : Int32) (a1 : Int32) (a2 : Int32) (a3 : Int32) (S : z_Stt) {v : Int32} {S' : z_Stt} (h : f_X10_drawn n a0 a1 a2 a3 S = some (v, S')) : agM S S' := by
  have a := agM.rfl S
  unfold f_X10_drawn at h
  rcases Classical.em (a1 < 1) with c1 | c1
  · have h := g_t c1 h
    obtain ⟨rfl, rfl⟩ := g_some h
    exact a
  · have h := g_f c1 h
    rcases Classical.em (60 < a1) with c2 | c2
    · have h := g_t c2 h
      obtain ⟨rfl, rfl⟩ := g_some h
      exact a
    · have h := g_f c2 h
      rcases Classical.em (a2 < 0) with c3 | c3
      · have h := g_t c3 h
        obtain ⟨rfl, rfl⟩ := g_some h
        exact a
      · have h := g_f c3 h
        obtain ⟨v4, S5, e6, h⟩ := g_bd_ex h
        have a := a.trans (fr_X10_isThing (a2 / 1000) _ e6)
        rcases g_bf v4 with c7 | c7
        · have h := g_f (Bool.eq_false_iff.mp c7) h
          obtain ⟨rfl, rfl⟩ := g_some h
          exact a
        · have h := g_t c7 h
          obtain ⟨v8, S9, e10, h⟩ := g_bd_ex h
          have a := a.trans (fr_X10_isWay (a2 % 10) _ e10)
          rcases g_bf v8 with c11 | c11
          · have h := g_f (Bool.eq_false_iff.mp c11) h
            obtain ⟨rfl, rfl⟩ := g_some h
            exact a
          · have h := g_t c11 h
            obtain ⟨v12, S13, e14, h⟩ := g_bd_ex h
            have a := a.trans (fr_X10_within a3 1 _ e14)
            rcases g_bt v12 with c15 | c15
            · have h := g_t c15 h
              obtain ⟨v16, S17, e18, h⟩ := g_bd_ex h
              have a := a.trans (fr_X9_ofThing 0 (a2 / 1000) _ e18)
              obtain ⟨v19, S20, e21, h⟩ := g_bd_ex h
              have a := a.trans (fr_X10_decides (a2 % 10) (a2 / 1000) 1 ((a2 / 10) % 100) _ e21)
              obtain ⟨v22, S23, e24, h⟩ := g_bd_ex h
              have a := a.trans (fr_X10_decides (a2 % 10) (a2 / 1000) 0 ((a2 / 10) % 100) _ e24)
              obtain ⟨S25, e26, h⟩ := g_let_ex h
              have a := a.lsI e26 (by omega)
              exact a.trans (fr_X10_drawn_123 n n a1 a3 (a2 / 1000) ((a2 / 10) % 100) v16 (bI v19) (bI v22) 0 0 0 S25 h)
            · have h := g_f (Bool.eq_false_iff.mp c15) h
              obtain ⟨rfl, rfl⟩ := g_some h
              exact a
set_option maxHeartbeats 4000000 in
set_option maxRecDepth 100000 in
theorem fr_X10_gravelRefusal_61 (n : Nat) {v : Int32} {S' : z_Stt} (k26 : Nat → Int32 → z_Stt → Option (Int32 × z_Stt)) (hk26 : ∀ (x0 : Nat) (x2 : Int32) (S : z_Stt) (ux0 : x0 + 1 < 48), k26 x0 x2 S = some (v, S') → agM S S') (x0 : Nat) (x2 : Int32) (y0 : Int32) (y1 : Int64) (S : z_Stt) (ux0 : x0 + 1 < 48) (h : f_X10_gravelRefusal_61 n k26 x0 x2 y0 y1 S = some (v, S')) : agM S S' := by
  have a := agM.rfl S
  unfold f_X10_gravelRefusal_61 at h
  rcases Classical.em (lg_cmp y1 (Int32.toInt64 y0) ≤ 0) with c1 | c1
  · have h := g_t c1 h
    exact a.trans (hk26 x0 (x2 + 1) S ux0 h)
  · have h := g_f c1 h
    obtain ⟨rfl, rfl⟩ := g_some h
    exact a
set_option maxHeartbeats 4000000 in
set_option maxRecDepth 100000 in
theorem fr_X10_gravelRefusal_26 (n : Nat) {v : Int32} {S' : z_Stt} : ∀ (m : Nat) (x0 : Nat) (x2 : Int32) (S : z_Stt) (ux0 : x0 + 1 < 48) (h : f_X10_gravelRefusal_26 n m x0 x2 S = some (v, S')), agM S S' := by
  intro m
  induction m with
  | zero => intro x0 x2 S ux0 h; simp [f_X10_gravelRefusal_26] at h
  | succ m ih =>
    intro x0 x2 S ux0 h
    have a := agM.rfl S
    rw [f_X10_gravelRefusal_26] at h
    rcases Classical.em (S.1 (100 * x0 + 3) ≤ x2) with c1 | c1
    · have h := g_t c1 h
      obtain ⟨rfl, rfl⟩ := g_some h
      exact a
    · have h := g_f c1 h
      obtain ⟨v2, S3, e4, h⟩ := g_bd_ex h
      have a := a.trans (fr_X8_at x0 x2 _ ux0 e4)
      rcases Classical.em (lg_cmp v2 0 < 0) with c5 | c5
      · have h := g_t c5 h
        obtain ⟨rfl, rfl⟩ := g_some h
        exact a
      · have h := g_f c5 h
        obtain ⟨v6, S7, e8, h⟩ := g_bd_ex h
        have a := a.trans (fr_X8_at x0 x2 _ ux0 e8)
        rcases g_nem (x2 % 2 = 0) with c9 | c9
        · have h := g_f c9 h
          exact a.trans (fr_X10_gravelRefusal_61 n (f_X10_gravelRefusal_26 n m) ih x0 x2 99 v6 S7 ux0 h)
        · have h := g_t c9 h
          exact a.trans (fr_X10_gravelRefusal_61 n (f_X10_gravelRefusal_26 n m) ih x0 x2 1 v6 S7 ux0 h)
set_option maxHeartbeats 4000000 in
set_option maxRecDepth 100000 in
theorem fr_X10_gravelRefusal {n : Nat} (a0 : Nat) (S : z_Stt) {v : Int32} {S' : z_Stt} (ua0 : a0 + 1 < 48) (h : f_X10_gravelRefusal n a0 S = some (v, S')) : agM S S' := by
  have a := agM.rfl S
  unfold f_X10_gravelRefusal at h
  obtain ⟨v1, S2, e3, h⟩ := g_bd_ex h
  have a := a.trans (fr_X8_refusal a0 0 _ ua0 e3)
  rcases Classical.em (v1 = 0) with c4 | c4
  · have h := g_t c4 h
    rcases Classical.em ((S2.1 (100 * a0 + 3)) % 2 = 0) with c5 | c5
    · have h := g_t c5 h
      exact a.trans (fr_X10_gravelRefusal_26 n n a0 0 S2 ua0 h)
    · have h := g_f c5 h
      obtain ⟨rfl, rfl⟩ := g_some h
      exact a
  · have h := g_f c4 h
    obtain ⟨rfl, rfl⟩ := g_some h
    exact a
set_option maxHeartbeats 4000000 in
set_option maxRecDepth 100000 in
theorem fr_X10_firstOtherwise_56 (n : Nat) {v : Int32} {S' : z_Stt} (k3 : Nat → Int32 → Int32 → Int32 → z_Stt → Option (Int32 × z_Stt)) (hk3 : ∀ (x1 : Nat) (x2 : Int32) (x3 : Int32) (x4 : Int32) (S : z_Stt) (ux1 : x1 + 1 < 48), k3 x1 x2 x3 x4 S = some (v, S') → agM S S') (x1 : Nat) (x2 : Int32) (x3 : Int32) (x4 : Int32) (y0 : Int32) (y1 : Int32) (S : z_Stt) (ux1 : x1 + 1 < 48) (h : f_X10_firstOtherwise_56 n k3 x1 x2 x3 x4 y0 y1 S = some (v, S')) : agM S S' := by
  have a := agM.rfl S
  unfold f_X10_firstOtherwise_56 at h
  rcases Classical.em (y1 = y0) with c1 | c1
  · have h := g_t c1 h
    exact a.trans (hk3 x1 x2 x3 (x4 + 2) S ux1 h)
  · have h := g_f c1 h
    obtain ⟨rfl, rfl⟩ := g_some h
    exact a
set_option maxHeartbeats 4000000 in
set_option maxRecDepth 100000 in
theorem fr_X10_firstOtherwise_3 (n : Nat) {v : Int32} {S' : z_Stt} : ∀ (m : Nat) (x1 : Nat) (x2 : Int32) (x3 : Int32) (x4 : Int32) (S : z_Stt) (ux1 : x1 + 1 < 48) (h : f_X10_firstOtherwise_3 n m x1 x2 x3 x4 S = some (v, S')), agM S S' := by
  intro m
  induction m with
  | zero => intro x1 x2 x3 x4 S ux1 h; simp [f_X10_firstOtherwise_3] at h
  | succ m ih =>
    intro x1 x2 x3 x4 S ux1 h
    have a := agM.rfl S
    rw [f_X10_firstOtherwise_3] at h
    rcases Classical.em (S.1 (100 * x1 + 3) ≤ x4 + 1) with c1 | c1
    · have h := g_t c1 h
      obtain ⟨rfl, rfl⟩ := g_some h
      exact a
    · have h := g_f c1 h
      obtain ⟨v2, S3, e4, h⟩ := g_bd_ex h
      have a := a.trans (fr_X8_at x1 (x4 + 1) _ ux1 e4)
      obtain ⟨v5, S6, e7, h⟩ := g_bd_ex h
      have a := a.trans (fr_X10_decides x3 (x2 / 10) (x2 % 10) (Int64.toInt32 v2) _ e7)
      obtain ⟨v8, S9, e10, h⟩ := g_bd_ex h
      have a := a.trans (fr_X8_at x1 x4 _ ux1 e10)
      rcases g_nem (lg_cmp v8 1 = 0) with c11 | c11
      · have h := g_f c11 h
        exact a.trans (fr_X10_firstOtherwise_56 n (f_X10_firstOtherwise_3 n m) ih x1 x2 x3 x4 0 (bI v5) S9 ux1 h)
      · have h := g_t c11 h
        exact a.trans (fr_X10_firstOtherwise_56 n (f_X10_firstOtherwise_3 n m) ih x1 x2 x3 x4 1 (bI v5) S9 ux1 h)
set_option maxHeartbeats 4000000 in
set_option maxRecDepth 100000 in
theorem fr_X10_firstOtherwise {n : Nat} (a0 : Nat) (a1 : Int32) (a2 : Int32) (S : z_Stt) {v : Int32} {S' : z_Stt} (ua0 : a0 + 1 < 48) (h : f_X10_firstOtherwise n a0 a1 a2 S = some (v, S')) : agM S S' := by
  have a := agM.rfl S
  unfold f_X10_firstOtherwise at h
  exact a.trans (fr_X10_firstOtherwise_3 n n a0 a1 a2 0 S ua0 h)
set_option maxHeartbeats 4000000 in
set_option maxRecDepth 100000 in
theorem fr_X10_fits_71 (n : Nat) {v : Int32} {S' : z_Stt} (k40 : Int32 → Int32 → Int32 → Int32 → z_Stt → Option (Int32 × z_Stt)) (hk40 : ∀ (x1 : Int32) (x2 : Int32) (x4 : Int32) (x5 : Int32) (S : z_Stt), k40 x1 x2 x4 x5 S = some (v, S') → agM S S') (x1 : Int32) (x2 : Int32) (x4 : Int32) (x5 : Int32) (S : z_Stt) (h : f_X10_fits_71 n k40 x1 x2 x4 x5 S = some (v, S')) : agM S S' := by
  have a := agM.rfl S
  unfold f_X10_fits_71 at h
  exact a.trans (hk40 x1 x2 x4 (x5 + 1) S h)
set_option maxHeartbeats 4000000 in
set_option maxRecDepth 100000 in
theorem fr_X10_fits_40 (n : Nat) {v : Int32} {S' : z_Stt} : ∀ (m : Nat) (x1 : Int32) (x2 : Int32) (x4 : Int32) (x5 : Int32) (S : z_Stt) (h : f_X10_fits_40 n m x1 x2 x4 x5 S = some (v, S')), agM S S' := by
  intro m
  induction m with
  | zero => intro x1 x2 x4 x5 S h; simp [f_X10_fits_40] at h
  | succ m ih =>
    intro x1 x2 x4 x5 S h
    have a := agM.rfl S
    rw [f_X10_fits_40] at h
    rcases Classical.em (4 < x5) with c1 | c1
    · have h := g_t c1 h
      obtain ⟨rfl, rfl⟩ := g_some h
      exact a
    · have h := g_f c1 h
      obtain ⟨c2, h⟩ := g_if h
      obtain ⟨v3, S4, e5, h⟩ := g_bd_ex h
      have a := a.trans (fr_X10_firstOtherwise (36 + 2 * x1.toNatClampNeg) x2 x5 _ (fw8_of c2) e5)
      rcases Classical.em (0 ≤ v3) with c6 | c6
      · have h := g_t c6 h
        exact a.trans (fr_X10_fits_71 n (f_X10_fits_40 n m) ih x1 x2 x4 x5 S4 h)
      · have h := g_f c6 h
        exact a.trans (fr_X10_fits_71 n (f_X10_fits_40 n m) ih x1 x2 (x4 ||| (1 <<< (x5 &&& 31))) x5 S4 h)
set_option maxHeartbeats 4000000 in
set_option maxRecDepth 100000 in
theorem fr_X10_fits {n : Nat} (a0 : Int32) (a1 : Int32) (S : z_Stt) {v : Int32} {S' : z_Stt} (h : f_X10_fits n a0 a1 S = some (v, S')) : agM S S' := by
  have a := agM.rfl S
  unfold f_X10_fits at h
  obtain ⟨v1, S2, e3, h⟩ := g_bd_ex h
  have a := a.trans (fr_X10_isShelf a0 _ e3)
  rcases g_bf v1 with c4 | c4
  · have h := g_f (Bool.eq_false_iff.mp c4) h
    obtain ⟨rfl, rfl⟩ := g_some h
    exact a
  · have h := g_t c4 h
    obtain ⟨v5, S6, e7, h⟩ := g_bd_ex h
    have a := a.trans (fr_X10_isThingAndMemory a1 1 _ e7)
    rcases g_bt v5 with c8 | c8
    · have h := g_t c8 h
      obtain ⟨c9, h⟩ := g_if h
      obtain ⟨v10, S11, e12, h⟩ := g_bd_ex h
      have a := a.trans (fr_X10_gravelRefusal (36 + 2 * a0.toNatClampNeg) _ (fw8_of c9) e12)
      rcases Classical.em (v10 = 0) with c13 | c13
      · have h := g_t c13 h
        exact a.trans (fr_X10_fits_40 n n a0 a1 0 0 S11 h)
      · have h := g_f c13 h
        obtain ⟨rfl, rfl⟩ := g_some h
        exact a
    · have h := g_f (Bool.eq_false_iff.mp c8) h
      obtain ⟨rfl, rfl⟩ := g_some h
      exact a
set_option maxHeartbeats 4000000 in
set_option maxRecDepth 100000 in
theorem fr_X10_when {n : Nat} (a0 : Int32) (a1 : Int32) (a2 : Int32) (S : z_Stt) {v : Int32} {S' : z_Stt} (h : f_X10_when n a0 a1 a2 S = some (v, S')) : agM S S' := by
  have a := agM.rfl S
  unfold f_X10_when at h
  obtain ⟨v1, S2, e3, h⟩ := g_bd_ex h
  have a := a.trans (fr_X10_isShelf a0 _ e3)
  rcases g_bf v1 with c4 | c4
  · have h := g_f (Bool.eq_false_iff.mp c4) h
    obtain ⟨rfl, rfl⟩ := g_some h
    exact a
  · have h := g_t c4 h
    obtain ⟨v5, S6, e7, h⟩ := g_bd_ex h
    have a := a.trans (fr_X10_isThingAndMemory a1 1 _ e7)
    rcases g_bf v5 with c8 | c8
    · have h := g_f (Bool.eq_false_iff.mp c8) h
      obtain ⟨rfl, rfl⟩ := g_some h
      exact a
    · have h := g_t c8 h
      obtain ⟨v9, S10, e11, h⟩ := g_bd_ex h
      have a := a.trans (fr_X10_isWay a2 _ e11)
      rcases g_bt v9 with c12 | c12
      · have h := g_t c12 h
        obtain ⟨c13, h⟩ := g_if h
        obtain ⟨v14, S15, e16, h⟩ := g_bd_ex h
        have a := a.trans (fr_X10_gravelRefusal (36 + 2 * a0.toNatClampNeg) _ (fw8_of c13) e16)
        rcases Classical.em (v14 = 0) with c17 | c17
        · have h := g_t c17 h
          obtain ⟨c18, h⟩ := g_if h
          obtain ⟨v19, S20, e21, h⟩ := g_bd_ex h
          have a := a.trans (fr_X10_firstOtherwise (36 + 2 * a0.toNatClampNeg) a1 a2 _ (fw8_of c18) e21)
          rcases Classical.em (0 ≤ v19) with c22 | c22
          · have h := g_t c22 h
            obtain ⟨rfl, rfl⟩ := g_some h
            exact a
          · have h := g_f c22 h
            obtain ⟨rfl, rfl⟩ := g_some h
            exact a
        · have h := g_f c17 h
          obtain ⟨rfl, rfl⟩ := g_some h
          exact a
      · have h := g_f (Bool.eq_false_iff.mp c12) h
        obtain ⟨rfl, rfl⟩ := g_some h
        exact a
set_option maxHeartbeats 4000000 in
set_option maxRecDepth 100000 in
theorem fr_X10_isSo {n : Nat} (a0 : Int64) (a1 : Int64) (a2 : Int64) (S : z_Stt) {v : Bool} {S' : z_Stt} (h : f_X10_isSo n a0 a1 a2 S = some (v, S')) : agM S S' := by
  have a := agM.rfl S
  unfold f_X10_isSo at h
  obtain ⟨v1, S2, e3, h⟩ := g_bd_ex h
  have a := a.trans (fr_X10_isThing (Int64.toInt32 a0) _ e3)
  rcases g_bf v1 with c4 | c4
  · have h := g_f (Bool.eq_false_iff.mp c4) h
    obtain ⟨rfl, rfl⟩ := g_some h
    exact a
  · have h := g_t c4 h
    rcases Classical.em (lg_cmp a1 0 < 0) with c5 | c5
    · have h := g_t c5 h
      obtain ⟨rfl, rfl⟩ := g_some h
      exact a
    · have h := g_f c5 h
      rcases Classical.em (lg_cmp a1 1 ≤ 0) with c6 | c6
      · have h := g_t c6 h
        obtain ⟨v7, S8, e9, h⟩ := g_bd_ex h
        have a := a.trans (fr_X10_findOpen (Int64.toInt32 a0) (Int64.toInt32 a1) 17 _ (by omega) e9)
        rcases g_bf v7 with c10 | c10
        · have h := g_f (Bool.eq_false_iff.mp c10) h
          obtain ⟨rfl, rfl⟩ := g_some h
          exact a
        · have h := g_t c10 h
          obtain ⟨v11, S12, e13, h⟩ := g_bd_ex h
          have a := a.trans (fr_X4_of144 17 _ (by omega) e13)
          rcases g_nem (lg_cmp (Int32.toInt64 v11) a2 = 0) with c14 | c14
          · have h := g_f c14 h
            obtain ⟨rfl, rfl⟩ := g_some h
            exact a
          · have h := g_t c14 h
            obtain ⟨rfl, rfl⟩ := g_some h
            exact a
      · have h := g_f c6 h
        obtain ⟨rfl, rfl⟩ := g_some h
        exact a
set_option maxHeartbeats 4000000 in
set_option maxRecDepth 100000 in
theorem fr_X10_judge_80 (n : Nat) {v : Int32} {S' : z_Stt} (x4 : Int32) (S : z_Stt) (h : f_X10_judge_80 n x4 S = some (v, S')) : agM S S' := by
  have a := agM.rfl S
  unfold f_X10_judge_80 at h
  obtain ⟨rfl, rfl⟩ := g_some h
  exact a
set_option maxHeartbeats 4000000 in
set_option maxRecDepth 100000 in
theorem fr_X10_judge_31 (n : Nat) {v : Int32} {S' : z_Stt} : ∀ (m : Nat) (x2 : Nat) (x4 : Int32) (S : z_Stt) (ux2 : x2 + 1 < 48) (h : f_X10_judge_31 n m x2 x4 S = some (v, S')), agM S S' := by
  intro m
  induction m with
  | zero => intro x2 x4 S ux2 h; simp [f_X10_judge_31] at h
  | succ m ih =>
    intro x2 x4 S ux2 h
    have a := agM.rfl S
    rw [f_X10_judge_31] at h
    rcases Classical.em (S.1 (100 * x2 + 3) ≤ x4) with c1 | c1
    · have h := g_t c1 h
      obtain ⟨rfl, rfl⟩ := g_some h
      exact a
    · have h := g_f c1 h
      rcases Classical.em (S.1 (100 * x2 + 3) ≤ x4 + 2) with c2 | c2
      · have h := g_t c2 h
        exact a.trans (fr_X10_judge_80 n x4 S h)
      · have h := g_f c2 h
        obtain ⟨v3, S4, e5, h⟩ := g_bd_ex h
        have a := a.trans (fr_X8_at x2 x4 _ ux2 e5)
        obtain ⟨v6, S7, e8, h⟩ := g_bd_ex h
        have a := a.trans (fr_X8_at x2 (x4 + 1) _ ux2 e8)
        obtain ⟨v9, S10, e11, h⟩ := g_bd_ex h
        have a := a.trans (fr_X8_at x2 (x4 + 2) _ ux2 e11)
        obtain ⟨v12, S13, e14, h⟩ := g_bd_ex h
        have a := a.trans (fr_X10_isSo v3 v6 v9 _ e14)
        rcases g_bt v12 with c15 | c15
        · have h := g_t c15 h
          exact a.trans (ih x2 (x4 + 3) S13 ux2 h)
        · have h := g_f (Bool.eq_false_iff.mp c15) h
          exact a.trans (fr_X10_judge_80 n x4 S13 h)
set_option maxHeartbeats 4000000 in
set_option maxRecDepth 100000 in
theorem fr_X10_judge {n : Nat} (a0 : Int32) (S : z_Stt) {v : Int32} {S' : z_Stt} (h : f_X10_judge n a0 S = some (v, S')) : agM S S' := by
  have a := agM.rfl S
  unfold f_X10_judge at h
  obtain ⟨v1, S2, e3, h⟩ := g_bd_ex h
  have a := a.trans (fr_X10_isShelf a0 _ e3)
  rcases g_bt v1 with c4 | c4
  · have h := g_t c4 h
    obtain ⟨c5, h⟩ := g_if h
    obtain ⟨v6, S7, e8, h⟩ := g_bd_ex h
    have a := a.trans (fr_X8_refusal (36 + 2 * a0.toNatClampNeg) 1 _ (fw8_of c5) e8)
    rcases Classical.em (v6 = 0) with c9 | c9
    · have h := g_t c9 h
      exact a.trans (fr_X10_judge_31 n n (36 + 2 * a0.toNatClampNeg) 0 S7 (fw8_of c5) h)
    · have h := g_f c9 h
      obtain ⟨rfl, rfl⟩ := g_some h
      exact a
  · have h := g_f (Bool.eq_false_iff.mp c4) h
    obtain ⟨rfl, rfl⟩ := g_some h
    exact a
set_option maxHeartbeats 4000000 in
set_option maxRecDepth 100000 in
theorem fr_X10_morning_95 {v : Int32} {S' : z_Stt} (S : z_Stt) (h : f_X10_morning_95 S = some (v, S')) : agM S S' := by
  have a := agM.rfl S
  unfold f_X10_morning_95 at h
  rcases Classical.em (S.1 3102 = 0) with c1 | c1
  · have h := g_t c1 h
    obtain ⟨rfl, rfl⟩ := g_some h
    exact a
  · have h := g_f c1 h
    obtain ⟨rfl, rfl⟩ := g_some h
    exact a
set_option maxHeartbeats 4000000 in
set_option maxRecDepth 100000 in
theorem fr_X10_morning (a0 : Int32) (a1 : Int32) (S : z_Stt) {v : Int32} {S' : z_Stt} (h : f_X10_morning a0 a1 S = some (v, S')) : agM S S' := by
  have a := agM.rfl S
  unfold f_X10_morning at h
  obtain ⟨v1, S2, e3, h⟩ := g_bd_ex h
  have a := a.trans (fr_X10_isThing a0 _ e3)
  rcases g_bt v1 with c4 | c4
  · have h := g_t c4 h
    rcases Classical.em (S2.1 705 < 0) with c5 | c5
    · have h := g_t c5 h
      obtain ⟨S6, e7, h⟩ := g_let_ex h
      have a := a.lsI e7 (by omega)
      obtain ⟨v8, S9, e10, h⟩ := g_bd_ex h
      have a := a.trans (fr_X9_ofThing 0 a0 _ e10)
      obtain ⟨v11, S12, e13, h⟩ := g_bd_ex h
      have a := a.trans (fr_X10_traceOf a0 _ e13)
      obtain ⟨v14, S15, e16, h⟩ := g_bd_ex h
      have a := a.trans (fr_X10_staleOf a0 _ e16)
      obtain ⟨v17, S18, e19, h⟩ := g_bd_ex h
      have a := a.trans (fr_X3_drawMorning v8 v11 v14 _ e19)
      obtain ⟨S20, e21, h⟩ := g_let_ex h
      have a := a.lsI e21 (by omega)
      obtain ⟨c22, h⟩ := g_if h
      obtain ⟨S23, e24, h⟩ := g_let_ex h
      have a := a.lsI e24 (by omega)
      obtain ⟨v25, S26, e27, h⟩ := g_bd_ex h
      have a := a.trans (fr_X10_isMarked a0 _ e27)
      rcases g_bf v25 with c28 | c28
      · have h := g_f (Bool.eq_false_iff.mp c28) h
        exact a.trans (fr_X10_morning_95 S26 h)
      · have h := g_t c28 h
        obtain ⟨v29, S30, e31, h⟩ := g_bd_ex h
        have a := a.trans (fr_X1_use 7 a0 _ (by omega) e31)
        exact a.trans (fr_X10_morning_95 S30 h)
    · have h := g_f c5 h
      obtain ⟨rfl, rfl⟩ := g_some h
      exact a
  · have h := g_f (Bool.eq_false_iff.mp c4) h
    obtain ⟨rfl, rfl⟩ := g_some h
    exact a
set_option maxHeartbeats 4000000 in
set_option maxRecDepth 100000 in
theorem fr_X10_goBack (a0 : Int32) (S : z_Stt) {v : Int32} {S' : z_Stt} (h : f_X10_goBack a0 S = some (v, S')) : agM S S' := by
  have a := agM.rfl S
  unfold f_X10_goBack at h
  obtain ⟨v1, S2, e3, h⟩ := g_bd_ex h
  have a := a.trans (fr_X10_within a0 99 _ e3)
  rcases g_bt v1 with c4 | c4
  · have h := g_t c4 h
    rcases Classical.em (0 ≤ S2.1 705) with c5 | c5
    · have h := g_t c5 h
      obtain ⟨v6, S7, e8, h⟩ := g_bd_ex h
      have a := a.trans (fr_X10_costOf (S2.1 705) a0 1 (S2.1 706) _ e8)
      obtain ⟨v9, S10, e11, h⟩ := g_bd_ex h
      have a := a.trans (fr_X1_end 7 v6 1 _ (by omega) e11)
      obtain ⟨rfl, rfl⟩ := g_some h
      exact a
    · have h := g_f c5 h
      obtain ⟨rfl, rfl⟩ := g_some h
      exact a
  · have h := g_f (Bool.eq_false_iff.mp c4) h
    obtain ⟨rfl, rfl⟩ := g_some h
    exact a
set_option maxHeartbeats 4000000 in
set_option maxRecDepth 100000 in
theorem fr_X10_goOn (S : z_Stt) {v : Int32} {S' : z_Stt} (h : f_X10_goOn S = some (v, S')) : agM S S' := by
  have a := agM.rfl S
  unfold f_X10_goOn at h
  rcases Classical.em (0 ≤ S.1 705) with c1 | c1
  · have h := g_t c1 h
    obtain ⟨v2, S3, e4, h⟩ := g_bd_ex h
    have a := a.trans (fr_X10_costOf (S.1 705) 0 0 (S.1 706) _ e4)
    obtain ⟨v5, S6, e7, h⟩ := g_bd_ex h
    have a := a.trans (fr_X1_end 7 v2 0 _ (by omega) e7)
    obtain ⟨rfl, rfl⟩ := g_some h
    exact a
  · have h := g_f c1 h
    obtain ⟨rfl, rfl⟩ := g_some h
    exact a
set_option maxHeartbeats 4000000 in
set_option maxRecDepth 100000 in
theorem fr_X10_dayOff {n : Nat} (S : z_Stt) {v : Int32} {S' : z_Stt} (h : f_X10_dayOff n S = some (v, S')) : agM S S' := by
  have a := agM.rfl S
  unfold f_X10_dayOff at h
  obtain ⟨v1, S2, e3, h⟩ := g_bd_ex h
  have a := a.trans (fr_X1_rest 7 _ (by omega) e3)
  obtain ⟨rfl, rfl⟩ := g_some h
  exact a
set_option maxHeartbeats 4000000 in
set_option maxRecDepth 100000 in
theorem fr_X10_led (a0 : Int32) (S : z_Stt) {v : Int32} {S' : z_Stt} (h : f_X10_led a0 S = some (v, S')) : agM S S' := by
  have a := agM.rfl S
  unfold f_X10_led at h
  obtain ⟨v1, S2, e3, h⟩ := g_bd_ex h
  have a := a.trans (fr_X10_within a0 4 _ e3)
  rcases g_bf v1 with c4 | c4
  · have h := g_f (Bool.eq_false_iff.mp c4) h
    obtain ⟨rfl, rfl⟩ := g_some h
    exact a
  · have h := g_t c4 h
    obtain ⟨c5, h⟩ := g_if h
    obtain ⟨rfl, rfl⟩ := g_some h
    exact a
set_option maxHeartbeats 4000000 in
set_option maxRecDepth 100000 in
theorem fr_X10_image {n : Nat} (S : z_Stt) {v : Int32} {S' : z_Stt} (h : f_X10_image n S = some (v, S')) : agM S S' := by
  have a := agM.rfl S
  unfold f_X10_image at h
  obtain ⟨v1, S2, e3, h⟩ := g_bd_ex h
  have a := a.trans (fr_X1_copy 10 7 _ (by omega) (by omega) e3)
  obtain ⟨S4, e5, h⟩ := g_let_ex h
  have a := a.lsI e5 (by omega)
  obtain ⟨c6, h⟩ := g_if h
  obtain ⟨rfl, rfl⟩ := g_some h
  exact a
set_option maxHeartbeats 4000000 in
set_option maxRecDepth 100000 in
theorem fr_X10_back {n : Nat} (S : z_Stt) {v : Int32} {S' : z_Stt} (h : f_X10_back n S = some (v, S')) : agM S S' := by
  have a := agM.rfl S
  unfold f_X10_back at h
  rcases g_nem (S.1 4 = 0) with c1 | c1
  · have h := g_f c1 h
    obtain ⟨v2, S3, e4, h⟩ := g_bd_ex h
    have a := a.trans (fr_X1_copy 7 10 _ (by omega) (by omega) e4)
    obtain ⟨c5, h⟩ := g_if h
    obtain ⟨rfl, rfl⟩ := g_some h
    exact a
  · have h := g_t c1 h
    obtain ⟨rfl, rfl⟩ := g_some h
    exact a
set_option maxHeartbeats 4000000 in
set_option maxRecDepth 100000 in
theorem fr_X10_undo (S : z_Stt) {v : Int32} {S' : z_Stt} (h : f_X10_undo S = some (v, S')) : agM S S' := by
  have a := agM.rfl S
  unfold f_X10_undo at h
  rcases g_nem (S.1 304 = 0) with c1 | c1
  · have h := g_f c1 h
    obtain ⟨v2, S3, e4, h⟩ := g_bd_ex h
    have a := a.trans (fr_X0_takeBack  _ e4)
    obtain ⟨rfl, rfl⟩ := g_some h
    exact a
  · have h := g_t c1 h
    obtain ⟨rfl, rfl⟩ := g_some h
    exact a
set_option maxHeartbeats 4000000 in
set_option maxRecDepth 100000 in
theorem fr_X10_redo (S : z_Stt) {v : Int32} {S' : z_Stt} (h : f_X10_redo S = some (v, S')) : agM S S' := by
  have a := agM.rfl S
  unfold f_X10_redo at h
  rcases g_nem (S.1 304 = S.1 303) with c1 | c1
  · have h := g_f c1 h
    obtain ⟨v2, S3, e4, h⟩ := g_bd_ex h
    have a := a.trans (fr_X0_doAgain  _ e4)
    obtain ⟨rfl, rfl⟩ := g_some h
    exact a
  · have h := g_t c1 h
    obtain ⟨rfl, rfl⟩ := g_some h
    exact a
set_option maxHeartbeats 4000000 in
set_option maxRecDepth 100000 in
theorem fr_X10_body (a0 : Int32) (S : z_Stt) {v : Int32} {S' : z_Stt} (h : f_X10_body a0 S = some (v, S')) : agM S S' := by
  have a := agM.rfl S
  unfold f_X10_body at h
  obtain ⟨v1, S2, e3, h⟩ := g_bd_ex h
  have a := a.trans (fr_X10_within a0 7 _ e3)
  rcases g_bt v1 with c4 | c4
  · have h := g_t c4 h
    rcases Classical.em (S2.1 3201 < 50) with c5 | c5
    · have h := g_t c5 h
      obtain ⟨v6, S7, e8, h⟩ := g_bd_ex h
      have a := a.trans (fr_X5_come a0 _ e8)
      obtain ⟨rfl, rfl⟩ := g_some h
      exact a
    · have h := g_f c5 h
      obtain ⟨rfl, rfl⟩ := g_some h
      exact a
  · have h := g_f (Bool.eq_false_iff.mp c4) h
    obtain ⟨rfl, rfl⟩ := g_some h
    exact a
set_option maxHeartbeats 4000000 in
set_option maxRecDepth 100000 in
theorem fr_X10_isGoer (a0 : Int32) (S : z_Stt) {v : Bool} {S' : z_Stt} (h : f_X10_isGoer a0 S = some (v, S')) : agM S S' := by
  have a := agM.rfl S
  unfold f_X10_isGoer at h
  rcases Classical.em (a0 < 0) with c1 | c1
  · have h := g_t c1 h
    obtain ⟨rfl, rfl⟩ := g_some h
    exact a
  · have h := g_f c1 h
    rcases Classical.em (S.1 3201 ≤ a0) with c2 | c2
    · have h := g_t c2 h
      obtain ⟨rfl, rfl⟩ := g_some h
      exact a
    · have h := g_f c2 h
      obtain ⟨rfl, rfl⟩ := g_some h
      exact a
set_option maxHeartbeats 4000000 in
set_option maxRecDepth 100000 in
theorem fr_X10_act {n : Nat} (a0 : Int32) (a1 : Int32) (a2 : Int32) (S : z_Stt) {v : Int32} {S' : z_Stt} (h : f_X10_act n a0 a1 a2 S = some (v, S')) : agM S S' := by
  have a := agM.rfl S
  unfold f_X10_act at h
  obtain ⟨S1, e2, h⟩ := g_let_ex h
  have a := a.lsI e2 (by omega)
  obtain ⟨v3, S4, e5, h⟩ := g_bd_ex h
  have a := a.trans (fr_X10_isGoer a0 _ e5)
  rcases g_bf v3 with c6 | c6
  · have h := g_f (Bool.eq_false_iff.mp c6) h
    obtain ⟨rfl, rfl⟩ := g_some h
    exact a
  · have h := g_t c6 h
    obtain ⟨v7, S8, e9, h⟩ := g_bd_ex h
    have a := a.trans (fr_X10_within a1 3 _ e9)
    rcases g_bt v7 with c10 | c10
    · have h := g_t c10 h
      obtain ⟨v11, S12, e13, h⟩ := g_bd_ex h
      have a := a.trans (fr_X5_begin a0 a1 a2 _ e13)
      obtain ⟨rfl, rfl⟩ := g_some h
      exact a
    · have h := g_f (Bool.eq_false_iff.mp c10) h
      obtain ⟨rfl, rfl⟩ := g_some h
      exact a
set_option maxHeartbeats 4000000 in
set_option maxRecDepth 100000 in
theorem fr_X10_trace (a0 : Int32) (S : z_Stt) {v : Int32} {S' : z_Stt} (h : f_X10_trace a0 S = some (v, S')) : agM S S' := by
  have a := agM.rfl S
  unfold f_X10_trace at h
  rcases Classical.em (a0 < 0) with c1 | c1
  · have h := g_t c1 h
    obtain ⟨rfl, rfl⟩ := g_some h
    exact a
  · have h := g_f c1 h
    rcases Classical.em ((if 24 < S.1 3203 then 24 else S.1 3203) ≤ a0) with c2 | c2
    · have h := g_t c2 h
      obtain ⟨rfl, rfl⟩ := g_some h
      exact a
    · have h := g_f c2 h
      obtain ⟨c3, h⟩ := g_if h
      obtain ⟨rfl, rfl⟩ := g_some h
      exact a
set_option maxHeartbeats 4000000 in
set_option maxRecDepth 100000 in
theorem fr_X10_keep_22 {v : Int32} {S' : z_Stt} (x1 : Int32) (x2 : Int32) (S : z_Stt) (h : f_X10_keep_22 x1 x2 S = some (v, S')) : agM S S' := by
  have a := agM.rfl S
  unfold f_X10_keep_22 at h
  obtain ⟨c1, h⟩ := g_if h
  obtain ⟨v2, S3, e4, h⟩ := g_bd_ex h
  have a := a.trans (fr_X8_holdGoer (36 + 2 * x1.toNatClampNeg) x2 _ (fw8_of c1) e4)
  obtain ⟨rfl, rfl⟩ := g_some h
  exact a
set_option maxHeartbeats 4000000 in
set_option maxRecDepth 100000 in
theorem fr_X10_keep (a0 : Int32) (a1 : Int32) (S : z_Stt) {v : Int32} {S' : z_Stt} (h : f_X10_keep a0 a1 S = some (v, S')) : agM S S' := by
  have a := agM.rfl S
  unfold f_X10_keep at h
  obtain ⟨v1, S2, e3, h⟩ := g_bd_ex h
  have a := a.trans (fr_X10_isShelf a0 _ e3)
  rcases g_bf v1 with c4 | c4
  · have h := g_f (Bool.eq_false_iff.mp c4) h
    obtain ⟨rfl, rfl⟩ := g_some h
    exact a
  · have h := g_t c4 h
    rcases Classical.em (a1 = (-1)) with c5 | c5
    · have h := g_t c5 h
      exact a.trans (fr_X10_keep_22 a0 a1 S2 h)
    · have h := g_f c5 h
      obtain ⟨v6, S7, e8, h⟩ := g_bd_ex h
      have a := a.trans (fr_X10_isGoer a1 _ e8)
      rcases g_bt v6 with c9 | c9
      · have h := g_t c9 h
        exact a.trans (fr_X10_keep_22 a0 a1 S7 h)
      · have h := g_f (Bool.eq_false_iff.mp c9) h
        obtain ⟨rfl, rfl⟩ := g_some h
        exact a
set_option maxHeartbeats 4000000 in
set_option maxRecDepth 100000 in
theorem fr_X10_row {n : Nat} (a0 : Int32) (a1 : Int32) (a2 : Int32) (S : z_Stt) {v : Int32} {S' : z_Stt} (h : f_X10_row n a0 a1 a2 S = some (v, S')) : agM S S' := by
  have a := agM.rfl S
  unfold f_X10_row at h
  obtain ⟨v1, S2, e3, h⟩ := g_bd_ex h
  have a := a.trans (fr_X10_isShelf a0 _ e3)
  rcases g_bf v1 with c4 | c4
  · have h := g_f (Bool.eq_false_iff.mp c4) h
    obtain ⟨rfl, rfl⟩ := g_some h
    exact a
  · have h := g_t c4 h
    obtain ⟨v5, S6, e7, h⟩ := g_bd_ex h
    have a := a.trans (fr_X10_within a1 4 _ e7)
    rcases g_bf v5 with c8 | c8
    · have h := g_f (Bool.eq_false_iff.mp c8) h
      obtain ⟨rfl, rfl⟩ := g_some h
      exact a
    · have h := g_t c8 h
      rcases Classical.em (a2 ≤ 60) with c9 | c9
      · have h := g_t c9 h
        rcases Classical.em (0 ≤ a2) with c10 | c10
        · have h := g_t c10 h
          obtain ⟨c11, h⟩ := g_if h
          obtain ⟨v12, S13, e14, h⟩ := g_bd_ex h
          have a := a.trans (fr_X8_holdRow (36 + 2 * a0.toNatClampNeg) a1 a2 _ (fw8_of c11) e14)
          obtain ⟨rfl, rfl⟩ := g_some h
          exact a
        · have h := g_f c10 h
          obtain ⟨rfl, rfl⟩ := g_some h
          exact a
      · have h := g_f c9 h
        obtain ⟨rfl, rfl⟩ := g_some h
        exact a
set_option maxHeartbeats 4000000 in
set_option maxRecDepth 100000 in
theorem fr_X10_put (a0 : Int32) (a1 : Int32) (a2 : Int64) (S : z_Stt) {v : Int32} {S' : z_Stt} (h : f_X10_put a0 a1 a2 S = some (v, S')) : agM S S' := by
  have a := agM.rfl S
  unfold f_X10_put at h
  obtain ⟨v1, S2, e3, h⟩ := g_bd_ex h
  have a := a.trans (fr_X10_isShelf a0 _ e3)
  rcases g_bt v1 with c4 | c4
  · have h := g_t c4 h
    obtain ⟨c5, h⟩ := g_if h
    obtain ⟨v6, S7, e8, h⟩ := g_bd_ex h
    have a := a.trans (fr_X8_refusalAt (36 + 2 * a0.toNatClampNeg) a1 _ (fw8_of c5) e8)
    rcases Classical.em (v6 = 0) with c9 | c9
    · have h := g_t c9 h
      obtain ⟨c10, h⟩ := g_if h
      obtain ⟨v11, S12, e13, h⟩ := g_bd_ex h
      have a := a.trans (fr_X8_become (36 + 2 * a0.toNatClampNeg) a1 a2 _ (fw8_of c10) e13)
      obtain ⟨rfl, rfl⟩ := g_some h
      exact a
    · have h := g_f c9 h
      obtain ⟨rfl, rfl⟩ := g_some h
      exact a
  · have h := g_f (Bool.eq_false_iff.mp c4) h
    obtain ⟨rfl, rfl⟩ := g_some h
    exact a
set_option maxHeartbeats 4000000 in
set_option maxRecDepth 100000 in
theorem fr_X10_element (a0 : Int32) (a1 : Int32) (S : z_Stt) {v : Int64} {S' : z_Stt} (h : f_X10_element a0 a1 S = some (v, S')) : agM S S' := by
  have a := agM.rfl S
  unfold f_X10_element at h
  obtain ⟨v1, S2, e3, h⟩ := g_bd_ex h
  have a := a.trans (fr_X10_isShelf a0 _ e3)
  rcases g_bf v1 with c4 | c4
  · have h := g_f (Bool.eq_false_iff.mp c4) h
    obtain ⟨rfl, rfl⟩ := g_some h
    exact a
  · have h := g_t c4 h
    obtain ⟨c5, h⟩ := g_if h
    obtain ⟨v6, S7, e8, h⟩ := g_bd_ex h
    have a := a.trans (fr_X8_refusalAt (36 + 2 * a0.toNatClampNeg) a1 _ (fw8_of c5) e8)
    rcases Classical.em (v6 = 0) with c9 | c9
    · have h := g_t c9 h
      obtain ⟨c10, h⟩ := g_if h
      obtain ⟨v11, S12, e13, h⟩ := g_bd_ex h
      have a := a.trans (fr_X8_at (36 + 2 * a0.toNatClampNeg) a1 _ (fw8_of c10) e13)
      obtain ⟨rfl, rfl⟩ := g_some h
      exact a
    · have h := g_f c9 h
      obtain ⟨rfl, rfl⟩ := g_some h
      exact a
set_option maxHeartbeats 4000000 in
set_option maxRecDepth 100000 in
theorem fr_X10_shift (a0 : Int32) (a1 : Int32) (a2 : Int32) (a3 : Int32) (a4 : Int32) (S : z_Stt) {v : Int32} {S' : z_Stt} (h : f_X10_shift a0 a1 a2 a3 a4 S = some (v, S')) : agM S S' := by
  have a := agM.rfl S
  unfold f_X10_shift at h
  obtain ⟨v1, S2, e3, h⟩ := g_bd_ex h
  have a := a.trans (fr_X10_isShelf a0 _ e3)
  rcases g_bf v1 with c4 | c4
  · have h := g_f (Bool.eq_false_iff.mp c4) h
    obtain ⟨rfl, rfl⟩ := g_some h
    exact a
  · have h := g_t c4 h
    obtain ⟨v5, S6, e7, h⟩ := g_bd_ex h
    have a := a.trans (fr_X10_isShelf a2 _ e7)
    rcases g_bt v5 with c8 | c8
    · have h := g_t c8 h
      obtain ⟨c9, h⟩ := g_if h
      obtain ⟨c10, h⟩ := g_if h
      rcases Classical.em (S6.1 (100 * (36 + 2 * a0.toNatClampNeg) + 0) = 0) with c11 | c11
      · have h := g_t c11 h
        obtain ⟨rfl, rfl⟩ := g_some h
        exact a
      · have h := g_f c11 h
        rcases g_nem (S6.1 (100 * (36 + 2 * a2.toNatClampNeg) + 0) = 0) with c12 | c12
        · have h := g_f c12 h
          rcases g_nem (S6.1 (100 * (36 + 2 * a0.toNatClampNeg) + 0) = 2) with c13 | c13
          · have h := g_f c13 h
            obtain ⟨rfl, rfl⟩ := g_some h
            exact a
          · have h := g_t c13 h
            rcases g_nem (S6.1 (100 * (36 + 2 * a2.toNatClampNeg) + 0) = 2) with c14 | c14
            · have h := g_f c14 h
              obtain ⟨rfl, rfl⟩ := g_some h
              exact a
            · have h := g_t c14 h
              rcases Classical.em (S6.1 (100 * (36 + 2 * a0.toNatClampNeg) + 2) = S6.1 (100 * (36 + 2 * a2.toNatClampNeg) + 2)) with c15 | c15
              · have h := g_t c15 h
                obtain ⟨v16, S17, e18, h⟩ := g_bd_ex h
                have a := a.trans (fr_X8_hasPlaces (36 + 2 * a0.toNatClampNeg) a1 a4 _ (fw8_of c9) e18)
                rcases g_bf v16 with c19 | c19
                · have h := g_f (Bool.eq_false_iff.mp c19) h
                  obtain ⟨rfl, rfl⟩ := g_some h
                  exact a
                · have h := g_t c19 h
                  obtain ⟨v20, S21, e22, h⟩ := g_bd_ex h
                  have a := a.trans (fr_X8_hasPlaces (36 + 2 * a2.toNatClampNeg) a3 a4 _ (fw8_of c10) e22)
                  rcases g_bt v20 with c23 | c23
                  · have h := g_t c23 h
                    obtain ⟨c24, h⟩ := g_if h
                    obtain ⟨S25, e26, h⟩ := g_let_ex h
                    have a := a.lsE e26 (by omega)
                    obtain ⟨rfl, rfl⟩ := g_some h
                    exact a
                  · have h := g_f (Bool.eq_false_iff.mp c23) h
                    obtain ⟨rfl, rfl⟩ := g_some h
                    exact a
              · have h := g_f c15 h
                obtain ⟨rfl, rfl⟩ := g_some h
                exact a
        · have h := g_t c12 h
          obtain ⟨rfl, rfl⟩ := g_some h
          exact a
    · have h := g_f (Bool.eq_false_iff.mp c8) h
      obtain ⟨rfl, rfl⟩ := g_some h
      exact a
set_option maxHeartbeats 4000000 in
set_option maxRecDepth 100000 in
theorem fr_X10_taken {n : Nat} (a0 : Int32) (a1 : Int32) (S : z_Stt) {v : Int32} {S' : z_Stt} (h : f_X10_taken n a0 a1 S = some (v, S')) : agM S S' := by
  have a := agM.rfl S
  unfold f_X10_taken at h
  obtain ⟨v1, S2, e3, h⟩ := g_bd_ex h
  have a := a.trans (fr_X10_isShelf a0 _ e3)
  rcases g_bf v1 with c4 | c4
  · have h := g_f (Bool.eq_false_iff.mp c4) h
    obtain ⟨rfl, rfl⟩ := g_some h
    exact a
  · have h := g_t c4 h
    obtain ⟨v5, S6, e7, h⟩ := g_bd_ex h
    have a := a.trans (fr_X10_within a1 7 _ e7)
    rcases g_bt v5 with c8 | c8
    · have h := g_t c8 h
      obtain ⟨c9, h⟩ := g_if h
      rcases g_nem (S6.1 (100 * (36 + 2 * a0.toNatClampNeg) + 0) = 0) with c10 | c10
      · have h := g_f c10 h
        rcases g_nem (S6.1 (100 * (36 + 2 * a0.toNatClampNeg) + 0) = 1) with c11 | c11
        · have h := g_f c11 h
          obtain ⟨rfl, rfl⟩ := g_some h
          exact a
        · have h := g_t c11 h
          obtain ⟨v12, S13, e14, h⟩ := g_bd_ex h
          have a := a.trans (fr_X10_isGoer (S6.1 (100 * (36 + 2 * a0.toNatClampNeg) + 1)) _ e14)
          rcases g_bt v12 with c15 | c15
          · have h := g_t c15 h
            obtain ⟨c16, h⟩ := g_if h
            obtain ⟨v17, S18, e19, h⟩ := g_bd_ex h
            have a := a.trans (fr_X5_isUnder (S13.2.2.1 33 (S13.1 (100 * (36 + 2 * a0.toNatClampNeg) + 1)).toNatClampNeg) a1 _ e19)
            rcases g_bf v17 with c20 | c20
            · have h := g_f (Bool.eq_false_iff.mp c20) h
              obtain ⟨rfl, rfl⟩ := g_some h
              exact a
            · have h := g_t c20 h
              obtain ⟨rfl, rfl⟩ := g_some h
              exact a
          · have h := g_f (Bool.eq_false_iff.mp c15) h
            obtain ⟨rfl, rfl⟩ := g_some h
            exact a
      · have h := g_t c10 h
        obtain ⟨rfl, rfl⟩ := g_some h
        exact a
    · have h := g_f (Bool.eq_false_iff.mp c8) h
      obtain ⟨rfl, rfl⟩ := g_some h
      exact a
set_option maxHeartbeats 4000000 in
set_option maxRecDepth 100000 in
theorem fr_X10_countMarked_4 (n : Nat) {v : Int32} {S' : z_Stt} : ∀ (m : Nat) (x1 : Int32) (x2 : Int32) (S : z_Stt) (h : f_X10_countMarked_4 n m x1 x2 S = some (v, S')), agM S S' := by
  intro m
  induction m with
  | zero => intro x1 x2 S h; simp [f_X10_countMarked_4] at h
  | succ m ih =>
    intro x1 x2 S h
    have a := agM.rfl S
    rw [f_X10_countMarked_4] at h
    rcases Classical.em (S.1 101 ≤ x2) with c1 | c1
    · have h := g_t c1 h
      obtain ⟨rfl, rfl⟩ := g_some h
      exact a
    · have h := g_f c1 h
      obtain ⟨v2, S3, e4, h⟩ := g_bd_ex h
      have a := a.trans (fr_X9_ofThing 4 x2 _ e4)
      exact a.trans (ih (x1 + v2) (x2 + 1) S3 h)
set_option maxHeartbeats 4000000 in
set_option maxRecDepth 100000 in
theorem fr_X10_countMarked {n : Nat} (S : z_Stt) {v : Int32} {S' : z_Stt} (h : f_X10_countMarked n S = some (v, S')) : agM S S' := by
  have a := agM.rfl S
  unfold f_X10_countMarked at h
  exact a.trans (fr_X10_countMarked_4 n n 0 0 S h)
set_option maxHeartbeats 4000000 in
set_option maxRecDepth 100000 in
theorem fr_X10_count {n : Nat} (a0 : Int32) (S : z_Stt) {v : Int32} {S' : z_Stt} (h : f_X10_count n a0 S = some (v, S')) : agM S S' := by
  have a := agM.rfl S
  unfold f_X10_count at h
  by_cases c1 : a0 = 0
  · have h := g_t c1 h
    obtain ⟨rfl, rfl⟩ := g_some h
    exact a
  have h := g_f c1 h
  by_cases c2 : a0 = 1
  · have h := g_t c2 h
    obtain ⟨v3, S4, e5, h⟩ := g_bd_ex h
    have a := a.trans (fr_X10_countMarked  _ e5)
    obtain ⟨rfl, rfl⟩ := g_some h
    exact a
  have h := g_f c2 h
  by_cases c6 : a0 = 2
  · have h := g_t c6 h
    obtain ⟨rfl, rfl⟩ := g_some h
    exact a
  have h := g_f c6 h
  by_cases c7 : a0 = 3
  · have h := g_t c7 h
    obtain ⟨rfl, rfl⟩ := g_some h
    exact a
  have h := g_f c7 h
  by_cases c8 : a0 = 4
  · have h := g_t c8 h
    obtain ⟨rfl, rfl⟩ := g_some h
    exact a
  have h := g_f c8 h
  by_cases c9 : a0 = 5
  · have h := g_t c9 h
    obtain ⟨rfl, rfl⟩ := g_some h
    exact a
  have h := g_f c9 h
  obtain ⟨rfl, rfl⟩ := g_some h
  exact a
