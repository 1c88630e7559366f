/-! QUIET: values over states that agree -/
theorem q_vAt {S T : z_Stt} (a : agQ S T) (k : Int32) : vAt T k = vAt S k := by unfold vAt; rw [a.2.1 2 (by decide)]
theorem q_stV {S T : z_Stt} (a : agQ S T) (t : Int32) : stV T t = stV S t := by unfold stV; rw [q_vAt a, q_vAt a, a.2.1 8 (by decide)]
theorem q_trV {S T : z_Stt} (a : agQ S T) (t : Int32) : trV T t = trV S t := by unfold trV; rw [q_vAt a, q_vAt a]
theorem q_opN {S T : z_Stt} (a : agQ S T) (t m : Int32) : opN T t m = opN S t m := by unfold opN stP; rw [q_vAt a, q_stV a]
theorem q_opB {S T : z_Stt} (a : agQ S T) (t m : Int32) : opB T t m = opB S t m := by unfold opB trP; rw [q_opN a, q_vAt a, q_trV a]
theorem q_prV {S T : z_Stt} (a : agQ S T) (k : Int32) : prV T k = prV S k := by unfold prV; rw [a.2.1 2 (by decide)]
theorem q_49 {S T : z_Stt} (h : Inv S) (a : agQ S T) : T.2.2.1 49 = S.2.2.1 2 := by rw [a.2.1 49 (by decide)]; exact h.1.2.1
theorem q_53 {S T : z_Stt} (h : Inv S) (a : agQ S T) : T.2.2.1 53 = S.2.2.1 8 := by rw [a.2.1 53 (by decide)]; exact h.2.2.1.2.1
theorem q_101 {S T : z_Stt} (a : agQ S T) : T.1 101 = S.1 101 := a.1 101 (by decide)
theorem q_4806 {S T : z_Stt} (h : Inv S) (a : agQ S T) : T.1 4806 = S.1 101 := by rw [a.1 4806 (by decide)]; exact h.1.2.2
theorem q_h4 {S T : z_Stt} (h : Inv S) (a : agQ S T) : 0 ≤ T.1 4806 := by rw [q_4806 h a]; exact h.1.1.1.1
theorem q_ask {S T : z_Stt} (h : Inv S) (a : agQ S T) {t : Int32} (m : Int32) (ht : 0 ≤ t ∧ t < 6) : f_X11_asksOpen t m T = some (decide (¬ opB S t m ≤ 0), sJ (sJ T 4811 (opN S t m)) 4812 (opB S t m)) := e_asksOpen (S := S) (T := T) (q_49 h a) (q_53 h a) ht (fV_ok h ht)
def wwV (S : z_Stt) (a0 a1 : Int32) : Int64 := opN S (a0 / 10) (a0 % 10) * (vAt S (6 * 3 + a0 / 10)).toInt64 - (prV S a1).toInt64 * opB S (a0 / 10) (a0 % 10)
theorem q_ww {S T : z_Stt} (h : Inv S) (a : agQ S T) {a0 : Int32} (a1 : Int32) (ht : 0 ≤ a0 / 10 ∧ a0 / 10 < 6) : f_X11_worthWays a0 a1 T = some (wwV S a0 a1, sJ (sJ T 4811 (opN S (a0 / 10) (a0 % 10))) 4812 (opB S (a0 / 10) (a0 % 10))) :=
  e_worthWays (S := S) (T := T) a1 (q_49 h a) ht (q_ask h a (a0 % 10) ht)
theorem qd {α : Type} {f : Option (α × z_Stt)} {p : α → z_Stt → Prop} {v : α} {S1 : z_Stt} (e : f = some (v, S1)) (g : p v S1) : ∃ v S1, f = some (v, S1) ∧ p v S1 := ⟨v, S1, e, g⟩
theorem qe {α : Type} {f : Option (α × z_Stt)} {v : α} {S1 : z_Stt} (e : f = some (v, S1)) : ∃ S1, f = some (v, S1) := ⟨S1, e⟩
/-! HOWFAR -/
def topP (P : Int32 → Prop) [DecidablePred P] : Nat → Int32
  | 0 => -2
  | k + 1 => if P (Int32.ofNat k) then Int32.ofNat k else topP P k
theorem topP_0 {P : Int32 → Prop} [DecidablePred P] (h : ∀ y, ¬ P y) : ∀ k, topP P k = -2
  | 0 => rfl
  | k + 1 => by rw [topP, if_neg (h _)]; exact topP_0 h k
theorem on_ti {k : Nat} (h : k ≤ 4000) : (Int32.ofNat k).toInt = (k : Int) := Int32.toInt_ofNat_of_lt (by omega)
theorem on_eq {x : Int32} {k : Nat} (h : x.toInt = (k : Int)) (hk : k ≤ 4000) : x = Int32.ofNat k := by rw [← Int32.toInt_inj, h, on_ti hk]
theorem le0_i {x : Int32} : (0 ≤ x) = (0 ≤ x.toInt) := by rw [Int32.le_iff_toInt_le, z0_32]
theorem e_hf10 {x1 : Int32} {S : z_Stt} (n : Nat) (P : Int32 → Prop) [DecidablePred P] (hp : ∀ y, 0 ≤ y ∧ y ≤ 99 → f_X10_paysBy 17 (x1 / 10) y S = some (decide (P y), S)) : ∀ (k m : Nat) (x2 : Int32), x2.toInt = (k : Int) - 1 → k ≤ 100 → k < m → f_X10_howFar_36 n m x1 x2 S = some (topP P k, S) := by
  intro k
  have i99 : (99 : Int32).toInt = 99 := rfl
  have im1 : (-1 : Int32).toInt = -1 := rfl
  induction k with
  | zero =>
    intro m x2 hx hk hm
    obtain ⟨m, rfl⟩ : ∃ m', m = m' + 1 := ⟨m - 1, by omega⟩
    have c : x2 < 0 := by rw [Int32.lt_iff_toInt_lt, z0_32]; omega
    rw [f_X10_howFar_36, if_pos c, topP]
  | succ k ih =>
    intro m x2 hx hk hm
    obtain ⟨m, rfl⟩ : ∃ m', m = m' + 1 := ⟨m - 1, by omega⟩
    have hx2 : x2.toInt = (k : Int) := by omega
    have c : ¬ x2 < 0 := by rw [Int32.lt_iff_toInt_lt, z0_32]; omega
    have r : 0 ≤ x2 ∧ x2 ≤ 99 := ⟨Int32.not_lt.mp c, by rw [Int32.le_iff_toInt_le, i99]; omega⟩
    have ex := on_eq hx2 (by omega)
    rw [f_X10_howFar_36, if_neg c, hp x2 r, g_bds, topP, ← ex]
    by_cases p : P x2
    · rw [decide_eq_true p, if_pos rfl, if_pos p]
    · rw [decide_eq_false p, if_neg (by decide), if_neg p]
      exact ih m _ (by rw [ti_add (by rw [im1]; omega), im1]; omega) (by omega) (by omega)
theorem e_hf11 {x1 : Int32} {S : z_Stt} (n : Nat) {bb : Int64} (P : Int32 → Prop) [DecidablePred P] (hp : ∀ y, 0 ≤ y ∧ y ≤ 99 → (P y ↔ ¬ bb ≤ 0 ∧ ¬ wwV S x1 y ≤ 0)) (hw : ∀ T y, agQ S T → ∃ T', f_X11_worthWays x1 y T = some (wwV S x1 y, T') ∧ T'.2.1 4812 = bb) : ∀ (j k m : Nat) (x3 : Int32) (T : z_Stt), x3.toInt = (k : Int) → k + j = 100 → j < m → agQ S T → ∃ T', f_X11_howFar_15 n m x1 (topP P k) x3 T = some (topP P 100, T') := by
  intro j
  have i99 : (99 : Int32).toInt = 99 := rfl
  induction j with
  | zero =>
    intro k m x3 T hx hk hm a
    obtain ⟨m, rfl⟩ : ∃ m', m = m' + 1 := ⟨m - 1, by omega⟩
    have c : 99 < x3 := by rw [Int32.lt_iff_toInt_lt, i99]; omega
    have ek : k = 100 := by omega
    subst ek
    exact ⟨T, by rw [f_X11_howFar_15, if_pos c]⟩
  | succ j ih =>
    intro k m x3 T hx hk hm a
    obtain ⟨m, rfl⟩ : ∃ m', m = m' + 1 := ⟨m - 1, by omega⟩
    have c : ¬ 99 < x3 := by rw [Int32.lt_iff_toInt_lt, i99]; omega
    have r : 0 ≤ x3 ∧ x3 ≤ 99 := ⟨by rw [le0_i]; omega, Int32.not_lt.mp c⟩
    have ex := on_eq hx (by omega)
    obtain ⟨T', w1, w2⟩ := hw T x3 a
    have a' : agQ S T' := a.trans (fq_X11_worthWays _ _ _ w1)
    have nx : (x3 + 1).toInt = ((k + 1 : Nat) : Int) := by rw [inc32 (K := 100) (by lia)]; omega
    obtain ⟨T2, q⟩ := ih (k + 1) m (x3 + 1) T' nx (by omega) (by omega) a'
    refine ⟨T2, ?_⟩
    rw [f_X11_howFar_15, if_neg c, w1, g_bds, w2]
    simp only [cmple]
    by_cases p : P x3
    · have pp := (hp x3 r).mp p
      have e : topP P (k + 1) = x3 := by rw [topP, ← ex, if_pos p]
      rw [if_neg pp.1, if_neg pp.2, f_X11_howFar_50, ← e]
      rw [e] at q ⊢
      exact q
    · have e : topP P (k + 1) = topP P k := by rw [topP, ← ex, if_neg p]
      have u : f_X11_howFar_49 n (f_X11_howFar_15 n m) x1 (topP P k) x3 T' = some (topP P 100, T2) := by
        rw [f_X11_howFar_49, f_X11_howFar_50, ← e]; exact q
      by_cases b : bb ≤ 0
      · rw [if_pos b]; exact u
      · rw [if_neg b]
        by_cases w : wwV S x1 x3 ≤ 0
        · rw [if_pos w]; exact u
        · exact absurd ((hp x3 r).mpr ⟨b, w⟩) p
theorem rKa (T : z_Stt) (x y : Int64) : (sJ (sJ T (100 * 17 + 0) x) (100 * 17 + 1) y).2.1 1700 = x := by
  show (if 1700 = 1701 then y else if 1700 = 1700 then x else T.2.1 1700) = x
  rw [if_neg (by decide), if_pos rfl]
theorem rKb (T : z_Stt) (x y : Int64) : (sJ (sJ T (100 * 17 + 0) x) (100 * 17 + 1) y).2.1 1701 = y := by
  show (if 1701 = 1701 then y else (if 1701 = 1700 then x else T.2.1 1701)) = y
  rw [if_pos rfl]
theorem E_howFar (a0 : Int32) {S : z_Stt} (h : Inv S) : ∃ (v : Int32) (S1 S2 : z_Stt), f_X10_howFar FUEL a0 S = some (v, S1) ∧ f_X11_howFar FUEL a0 S1 = some (v, S2) ∧ Inv S2 := by
  have f100 : 100 < FUEL := by decide +kernel
  generalize FUEL = F at *
  suffices z : ∃ v S1, f_X10_howFar F a0 S = some (v, S1) ∧ (agQ S S1 → ∃ S2, f_X11_howFar F a0 S1 = some (v, S2)) by
    obtain ⟨v, S1, z1, z2⟩ := z
    have a := fq_X10_howFar _ _ z1
    obtain ⟨S2, z3⟩ := z2 a
    exact ⟨v, S1, S2, z1, z3, (h.quiet a).quiet (fq_X11_howFar _ _ z3)⟩
  obtain ⟨hw, e1, e2⟩ := h.1
  by_cases g0 : 0 ≤ a0 ∧ a0 / 10 < S.1 101 ∧ a0 % 10 ≤ 2
  · have t0 := (dvk (k := 10) g0.1 (by decide +kernel)).1
    have t6 : 0 ≤ a0 / 10 ∧ a0 / 10 < 6 := ⟨t0, lt_of6 g0.2.1 hw.1.2⟩
    have nb := opN_ok h (a0 % 10) t6
    have bk := opB_ok h (a0 % 10) t6
    have hv := rg (hV_ok h t6)
    have i999 : (999 : Int32).toInt = 999 := rfl
    rw [z0_32, i999] at hv
    have hN : -9223372036854775808 < (opN S (a0 / 10) (a0 % 10)).toInt := by omega
    have fo := e_findOpen (n := F) (o := 17) (m := a0 % 10) (S := S) ⟨t0, g0.2.1⟩ t6.2
    have ww : ∀ T y, agQ S T → ∃ T', f_X11_worthWays a0 y T = some (wwV S a0 y, T') ∧ T'.2.1 4812 = opB S (a0 / 10) (a0 % 10) := fun T y a => ⟨_, q_ww h a y t6, rJb _ _ _⟩
    have eW : ∀ y, wwV S a0 y = opN S (a0 / 10) (a0 % 10) * (vAt S (6 * 3 + a0 / 10)).toInt64 - (prV S y).toInt64 * opB S (a0 / 10) (a0 % 10) := fun _ => rfl
    have r11 : ∀ (P : Int32 → Prop) [DecidablePred P], (∀ y, 0 ≤ y ∧ y ≤ 99 → (P y ↔ ¬ opB S (a0 / 10) (a0 % 10) ≤ 0 ∧ ¬ wwV S a0 y ≤ 0)) → ∀ T, agQ S T → ∃ T', f_X11_howFar F a0 T = some (topP P 100, T') := by
      intro P _ hp T a
      obtain ⟨T', q⟩ := e_hf11 F P hp ww 100 0 F 0 T rfl rfl (by omega) a
      refine ⟨T', ?_⟩
      unfold f_X11_howFar
      rw [e_tr11 a0 (q_h4 h a), g_bds, q_4806 h a, decide_eq_true g0, if_pos rfl]
      exact q
    generalize opN S (a0 / 10) (a0 % 10) = nn at *
    generalize opB S (a0 / 10) (a0 % 10) = bb at *
    by_cases c : 0 < bb
    · rw [e_become4 (by omega) hN c] at fo
      have pb := fun y => e_paysBy (t := a0 / 10) (a1 := y) (S := S) (x := nn / gV nn bb) (y := bb / gV nn bb) ⟨t0, g0.2.1⟩
      have l10 := e_hf10 (x1 := a0) F (fun y => ¬ 0 ≤ lg_cmp ((prV S y).toInt64 * (bb / gV nn bb)) (nn / gV nn bb * (vAt S (6 * 3 + a0 / 10)).toInt64)) (fun y _ => pb y) 100 F 99 rfl (by omega) (by omega)
      apply qd
      · unfold f_X10_howFar
        rw [e_tm10, g_bds, decide_eq_true g0, if_pos rfl, fo, g_bds, if_pos rfl]
        exact l10
      · intro a
        refine r11 _ (fun y hy => ?_) _ a
        have pv := prV_ok h hy
        have ps := pays_same (h := (vAt S (6 * 3 + a0 / 10)).toInt64) (k := (prV S y).toInt64) nb c bk.2 (by rw [Int32.toInt_toInt64]; exact hv) (by rw [Int32.toInt_toInt64]; exact pv)
        rw [ps, eW y]
        exact ⟨fun q => ⟨Int64.not_le.mpr c, q⟩, fun q => q.2⟩
    · rw [e_becomeN c] at fo
      apply qd (v := -2)
      · unfold f_X10_howFar
        rw [e_tm10, g_bds, decide_eq_true g0, if_pos rfl, fo, g_bds, if_neg (by decide)]
      · intro a
        have q := r11 (fun _ => False) (fun y _ => ⟨fun q => q.elim, fun q => q.1 (Int64.not_lt.mp c)⟩) _ a
        rw [topP_0 (fun _ q => q)] at q
        exact q
  · refine ⟨-1, S, ?_, fun a => ⟨S, ?_⟩⟩
    · unfold f_X10_howFar
      rw [e_tm10, g_bds, decide_eq_false g0, if_neg (by decide)]
    · unfold f_X11_howFar
      rw [e_tr11 a0 (q_h4 h a), g_bds, q_4806 h a, decide_eq_false g0, if_neg (by decide)]
