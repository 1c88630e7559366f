/-! WAYS: the reference tries all orders -/
def rfF (S : z_Stt) (a z : Nat) (st : Int32 × List Nat) (p : List Nat) : Int32 × List Nat := if st.1 < 0 then (ydL S 0 (full a p z), p) else if st.1 ≤ ydL S 0 (full a p z) then st else (ydL S 0 (full a p z), p)
def lst (a : Nat) (pre : List Nat) : Nat := (a :: pre).getD pre.length 0
theorem lst_s (a : Nat) (pre : List Nat) (r : Nat) : lst a (pre ++ [r]) = r := by
  unfold lst
  have e : (pre ++ [r]).length = pre.length + 1 := by simp
  rw [e]
  have e2 : (a :: (pre ++ [r])).getD (pre.length + 1) 0 = (pre ++ [r]).getD pre.length 0 := by simp [List.getD]
  rw [e2]; simp [List.getD]
theorem ydL_s (S : z_Stt) (x : Nat) : ∀ (pre : List Nat) (a : Nat) (acc : Int32), ydL S acc (a :: (pre ++ [x])) = ydL S acc (a :: pre) + wy S (lst a pre) x
  | [], a, acc => rfl
  | b :: r, a, acc => by
    have ih := ydL_s S x r b (acc + wy S a b)
    have e : lst a (b :: r) = lst b r := by unfold lst; simp [List.getD]
    show ydL S (acc + wy S a b) (b :: (r ++ [x])) = ydL S (acc + wy S a b) (b :: r) + wy S (lst a (b :: r)) x
    rw [e]; exact ih
theorem lst_6 {a : Nat} {pre : List Nat} (ha : a < 6) (hp : all6 pre) : lst a pre < 6 := by
  unfold lst
  refine get6 (fun r hr => ?_) _
  simp at hr
  rcases hr with e | e
  · omega
  · exact hp r e
def rgF : Nat → List Nat
  | 0 => []
  | j + 1 => (5 - j) :: rgF j
theorem rgF_6 : rgF 6 = List.range 6 := by decide
/-- what is known of the best so far -/
def bsR (T : z_Stt) (K : Nat) (st : Int32 × List Nat) : Prop := T.1 4828 = st.1 ∧ (¬ st.1 < 0 → repL (T.2.2.1 61) st.2 ∧ st.2.length = K)
def pfx (T : z_Stt) (pre : List Nat) : Prop := ∀ i, i < pre.length → T.2.2.1 60 i = Int32.ofNat (pre.getD i 0)
theorem e_40 {F : Nat} {G : GT_X11_ordersOn} (T : z_Stt) : ∀ (j i m : Nat) (g : Nat → Int32), i + j ≤ 6 → j < m → f_X11_ordersOn_40 F G m (Int32.ofNat (i + j)) (Int32.ofNat i) (sA T 61 g) = some ((), sA T 61 (cpR (T.2.2.1 60) g i (i + j))) := by
  intro j
  induction j with
  | zero =>
    intro i m g hi hm
    obtain ⟨m, rfl⟩ : ∃ q, m = q + 1 := ⟨m - 1, by omega⟩
    rw [f_X11_ordersOn_40, if_pos (by rw [on_le (by omega) (by omega)]; omega), cpR_end (by omega)]
  | succ j ih =>
    intro i m g hi hm
    obtain ⟨m, rfl⟩ : ∃ q, m = q + 1 := ⟨m - 1, by omega⟩
    have e1 : (sA T 61 g).2.2.1 60 = T.2.2.1 60 := rfl
    have e2 : (sA T 61 g).2.2.1 61 = g := rfl
    have z := ih (i + 1) m (upd g i (T.2.2.1 60 i)) (by omega) (by omega)
    rw [show i + 1 + j = i + (j + 1) by omega, cpR_next (by omega)] at z
    rw [f_X11_ordersOn_40, if_neg (by rw [on_le (by omega) (by omega)]; omega), if_pos (v6n (by omega)), if_pos (v6n (by omega)), g_lets, e1, e2, sA_sA, on_tn (by omega), on_s i (by omega)]
    exact z
theorem e_leaf {S : z_Stt} (h : Inv S) {F : Nat} (hF : 10 < F) {a z : Nat} (ha : a < 6) (hz : z < 6) {K : Nat} (hK : K ≤ 5) {pre : List Nat} (hl : pre.length = K) (p6 : all6 pre) (G : GT_X11_ordersOn) {T : z_Stt} {st : Int32 × List Nat} (ag : agQ S T) (px : pfx T pre) (b : bsR T K st) : ∃ T', f_X11_ordersOn F G (Int32.ofNat (lst a pre)) (Int32.ofNat z) 0 (Int32.ofNat pre.length) (ydL S 0 (a :: pre)) T = some ((), T') ∧ agQ S T' ∧ pfx T' pre ∧ bsR T' K (rfF S a z st pre) := by
  have yd := e_yd11 h ag (lst_6 ha p6) hz
  have ec : ydL S 0 (a :: pre) + wy S (lst a pre) z = ydL S 0 (full a pre z) := (ydL_s S z pre a 0).symm
  have e40 := e_40 (F := F) (G := G) (sI T 4828 (ydL S 0 (full a pre z))) K 0 F (T.2.2.1 61) (by omega) (by omega)
  rw [Nat.zero_add] at e40
  have es : sA (sI T 4828 (ydL S 0 (full a pre z))) 61 (T.2.2.1 61) = sI T 4828 (ydL S 0 (full a pre z)) := sA_self _ 61
  rw [es] at e40
  have take : f_X11_ordersOn_31 F G (Int32.ofNat pre.length) (ydL S 0 (full a pre z)) T = some ((), sA (sI T 4828 (ydL S 0 (full a pre z))) 61 (cpR (T.2.2.1 60) (T.2.2.1 61) 0 K)) := by
    unfold f_X11_ordersOn_31
    rw [g_lets, hl]; exact e40
  have a' : agQ S (sA (sI T 4828 (ydL S 0 (full a pre z))) 61 (cpR (T.2.2.1 60) (T.2.2.1 61) 0 K)) := (ag.lsI rfl (by decide)).lsA rfl (by decide)
  have bt' : bsR (sA (sI T 4828 (ydL S 0 (full a pre z))) 61 (cpR (T.2.2.1 60) (T.2.2.1 61) 0 K)) K (ydL S 0 (full a pre z), pre) := by
    refine ⟨rfl, fun _ => ⟨fun i (hi : i < pre.length) => ?_, hl⟩⟩
    show cpR (T.2.2.1 60) (T.2.2.1 61) 0 K i = _
    unfold cpR
    rw [if_pos ⟨Nat.zero_le _, by omega⟩]; exact px i hi
  unfold f_X11_ordersOn rfF
  rw [if_pos rfl, yd, g_bds, b.1, ec]
  by_cases c1 : st.1 < 0
  · rw [if_pos c1, if_pos c1, take]
    exact ⟨_, rfl, a', px, bt'⟩
  · rw [if_neg c1, if_neg c1]
    by_cases c2 : st.1 ≤ ydL S 0 (full a pre z)
    · rw [if_pos c2, if_pos c2]
      exact ⟨T, rfl, ag, px, b⟩
    · rw [if_neg c2, if_neg c2, take]
      exact ⟨_, rfl, a', px, bt'⟩
theorem e_oo {S : z_Stt} (h : Inv S) {F : Nat} (hF : 10 < F) {a z : Nat} (ha : a < 6) (hz : z < 6) {K : Nat} (hK : K ≤ 5) : ∀ (f m : Nat) (pre : List Nat) (dp : Nat) (T : z_Stt) (st : Int32 × List Nat), pcN m ≤ f → m < 64 → f < dp → pre.length + pcN m = K → all6 pre → agQ S T → pfx T pre → bsR T K st → ∃ T', (g_X11_ordersOn F dp) (Int32.ofNat (lst a pre)) (Int32.ofNat z) (Int32.ofNat m) (Int32.ofNat pre.length) (ydL S 0 (a :: pre)) T = some ((), T') ∧ agQ S T' ∧ pfx T' pre ∧ bsR T' K (((pmL f m).map (fun q => pre ++ q)).foldl (rfF S a z) st) := by
  intro f
  induction f with
  | zero =>
    intro m pre dp T st hm h64 hdp hK2 p6 ag px b
    obtain ⟨dp, rfl⟩ : ∃ q, dp = q + 1 := ⟨dp - 1, by omega⟩
    have m0 : m = 0 := pc_z ⟨m, h64⟩ (show pcN m = 0 by omega)
    subst m0
    have e0 : pcN 0 = 0 := rfl
    obtain ⟨T', z1, z2, z3, z4⟩ := e_leaf h hF ha hz hK (by omega) p6 (g_X11_ordersOn F dp) ag px b
    refine ⟨T', z1, z2, z3, ?_⟩
    have e : ((pmL 0 0).map (fun q => pre ++ q)).foldl (rfF S a z) st = rfF S a z st (pre ++ []) := rfl
    rw [e, List.append_nil]; exact z4
  | succ f ih =>
    intro m pre dp T st hm h64 hdp hK2 p6 ag px b
    obtain ⟨dp, rfl⟩ : ∃ q, dp = q + 1 := ⟨dp - 1, by omega⟩
    by_cases m0 : m = 0
    · subst m0
      have e0 : pcN 0 = 0 := rfl
      obtain ⟨T', z1, z2, z3, z4⟩ := e_leaf h hF ha hz hK (by omega) p6 (g_X11_ordersOn F dp) ag px b
      refine ⟨T', z1, z2, z3, ?_⟩
      have e : ((pmL (f + 1) 0).map (fun q => pre ++ q)).foldl (rfF S a z) st = rfF S a z st (pre ++ []) := rfl
      rw [e, List.append_nil]; exact z4
    · have pc1 : 1 ≤ pcN m := by
        by_cases c : pcN m = 0
        · exact absurd (pc_z ⟨m, h64⟩ c) m0
        · omega
      have n0 : ¬ Int32.ofNat m = 0 := by
        intro q
        have := congrArg Int32.toInt q
        rw [on_ti (by omega), z0_32] at this; omega
      have loop : ∀ (j r mm : Nat) (T : z_Stt) (st : Int32 × List Nat), r + j = 6 → j < mm → agQ S T → pfx T pre → bsR T K st → ∃ T', f_X11_ordersOn_71 F (g_X11_ordersOn F dp) mm (Int32.ofNat (lst a pre)) (Int32.ofNat z) (Int32.ofNat m) (Int32.ofNat pre.length) (ydL S 0 (a :: pre)) (Int32.ofNat r) T = some ((), T') ∧ agQ S T' ∧ pfx T' pre ∧ bsR T' K ((((rgF j).flatMap (fun r => if m.testBit r = true then (pmL f (dif m (2 ^ r))).map (fun q => r :: q) else [])).map (fun q => pre ++ q)).foldl (rfF S a z) st) := by
        intro j
        induction j with
        | zero =>
          intro r mm T st hr hmm ag px b
          obtain ⟨mm, rfl⟩ : ∃ q, mm = q + 1 := ⟨mm - 1, by omega⟩
          have e6 : r = 6 := by omega
          subst e6
          exact ⟨T, by rw [f_X11_ordersOn_71, if_pos (by decide +kernel)], ag, px, b⟩
        | succ j jh =>
          intro r mm T st hr hmm ag px b
          obtain ⟨mm, rfl⟩ : ∃ q, mm = q + 1 := ⟨mm - 1, by omega⟩
          have r6 : r < 6 := by omega
          have er : 5 - j = r := by omega
          have el : rgF (j + 1) = r :: rgF j := by show (5 - j) :: rgF j = _; rw [er]
          rw [el, List.flatMap_cons, List.map_append, List.foldl_append]
          have n6 : ¬ 6 ≤ Int32.ofNat r := by rw [on_6le (by omega)]; omega
          by_cases hb : m.testBit r = true
          · obtain ⟨d1, d2⟩ := pc_d ⟨m, h64⟩ ⟨r, r6⟩ hb
            have d1' : pcN (dif m (2 ^ r)) + 1 = pcN m := d1
            obtain ⟨q1, q2⟩ := dif_1 h64 r6
            have a1 : agQ S (sA T 60 (upd (T.2.2.1 60) pre.length (Int32.ofNat r))) := ag.lsA rfl (by decide)
            have yd := e_yd11 h a1 (lst_6 ha p6) r6
            have pl : (pre ++ [r]).length = pre.length + 1 := by simp
            have px1 : pfx (sA T 60 (upd (T.2.2.1 60) pre.length (Int32.ofNat r))) (pre ++ [r]) := by
              intro i hi
              rw [pl] at hi
              show upd (T.2.2.1 60) pre.length (Int32.ofNat r) i = _
              by_cases e : i = pre.length
              · rw [e, upd_same]; simp [List.getD]
              · rw [upd_ne e, px i (by omega)]
                simp [List.getD, List.getElem?_append_left (show i < pre.length by omega)]
            have p61 : all6 (pre ++ [r]) := by
              intro w hw
              simp at hw
              rcases hw with e | e
              · exact p6 w e
              · omega
            obtain ⟨T1, z1, z2, z3, z4⟩ := ih (dif m (2 ^ r)) (pre ++ [r]) dp (sA T 60 (upd (T.2.2.1 60) pre.length (Int32.ofNat r))) st (by omega) q2 (by omega) (by omega) p61 a1 px1 b
            rw [lst_s, pl, ydL_s] at z1
            have px2 : pfx T1 pre := by
              intro i hi
              have := z3 i (by omega)
              rw [this]
              simp [List.getD, List.getElem?_append_left hi]
            have em : ((if m.testBit r = true then (pmL f (dif m (2 ^ r))).map (fun q => r :: q) else []).map (fun q => pre ++ q)) = (pmL f (dif m (2 ^ r))).map (fun q => pre ++ [r] ++ q) := by
              rw [if_pos hb, List.map_map]
              refine List.map_congr_left (fun q _ => ?_)
              show pre ++ (r :: q) = pre ++ [r] ++ q
              rw [List.append_assoc]; rfl
            rw [em]
            obtain ⟨T2, y1, y2⟩ := jh (r + 1) mm T1 _ (by omega) (by omega) z2 px2 z4
            refine ⟨T2, ?_, y2⟩
            rw [f_X11_ordersOn_71, if_neg n6, e_isIn h64 r6, g_bds, if_pos hb, if_pos (v6n (by omega)), g_lets, on_tn (by omega), yd, g_bds, q1, on_s pre.length (by omega), z1, g_bds, f_X11_ordersOn_125, on_s r (by omega)]
            exact y1
          · rw [if_neg hb]
            obtain ⟨T2, y1, y2⟩ := jh (r + 1) mm T st (by omega) (by omega) ag px b
            refine ⟨T2, ?_, y2⟩
            rw [f_X11_ordersOn_71, if_neg n6, e_isIn h64 r6, g_bds, if_neg hb, f_X11_ordersOn_125, on_s r (by omega)]
            exact y1
      obtain ⟨T', z1, z2, z3, z4⟩ := loop 6 0 F T st (by omega) (by omega) ag px b
      refine ⟨T', ?_, z2, z3, ?_⟩
      · show f_X11_ordersOn F (g_X11_ordersOn F dp) _ _ _ _ _ T = _
        unfold f_X11_ordersOn
        rw [if_neg n0]
        exact z1
      · rw [pmL, if_neg m0, ← rgF_6]
        exact z4
