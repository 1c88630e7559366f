/-! ACT: what is noted, and what comes of it -/
def wrN : List Int32 → Nat → (Nat → Int32) → Nat → Int32
  | [], _, f => f
  | b :: l, c, f => wrN l (c + 1) (if c < 24 then upd f c b else f)
theorem wrN_app : ∀ (l l2 : List Int32) (c : Nat) (f : Nat → Int32), wrN (l ++ l2) c f = wrN l2 (c + l.length) (wrN l c f)
  | [], _, _, _ => rfl
  | b :: l, l2, c, f => by
    show wrN (l ++ l2) (c + 1) _ = wrN l2 (c + (l.length + 1)) (wrN l (c + 1) _)
    rw [wrN_app l l2, Nat.add_comm l.length 1, Nat.add_assoc]
def nS (r a : Nat) (S : z_Stt) (c : Nat) (l : List Int32) : z_Stt := sI (sA S a (wrN l c (S.2.2.1 a))) r (Int32.ofNat (c + l.length))
theorem nS_r (r a : Nat) (S : z_Stt) (c : Nat) (l : List Int32) : (nS r a S c l).1 r = Int32.ofNat (c + l.length) := if_pos rfl
theorem nS_k {r a k : Nat} (S : z_Stt) (c : Nat) (l : List Int32) (h : ¬ k = r) : (nS r a S c l).1 k = S.1 k := if_neg h
theorem nS_nS (r a : Nat) (S : z_Stt) (c : Nat) (l l2 : List Int32) : nS r a (nS r a S c l) (c + l.length) l2 = nS r a S c (l ++ l2) := by
  have e : (nS r a S c l).2.2.1 a = wrN l c (S.2.2.1 a) := if_pos rfl
  unfold nS at e ⊢
  rw [e, wrN_app, List.length_append, Nat.add_assoc]
  refine z_ext ?_ rfl ?_ rfl rfl
  · funext n
    show (if n = r then _ else if n = r then _ else S.1 n) = if n = r then _ else S.1 n
    split
    · rfl
    · rfl
  · funext n
    show (if n = a then _ else if n = a then _ else S.2.2.1 n) = if n = a then _ else S.2.2.1 n
    split
    · rfl
    · rfl
theorem nS_nil {r a : Nat} {S : z_Stt} {c : Nat} (h : S.1 r = Int32.ofNat c) : nS r a S c [] = S := by
  have e : Int32.ofNat (c + ([] : List Int32).length) = S.1 r := by rw [h]; rfl
  unfold nS
  rw [e]
  show sI (sA S a (S.2.2.1 a)) r (S.1 r) = S
  rw [sA_self, sI_self]
/-- F, begun at c, notes l and comes to v -/
def acts (r a rn rk : Nat) (nb kd : Int32) (F : z_Stt → Option (Int32 × z_Stt)) (v : Int32) (l : List Int32) : Prop := ∀ (S : z_Stt) (c : Nat), c + l.length ≤ 1000 → S.1 r = Int32.ofNat c → S.1 rn = nb → S.1 rk = kd → F S = some (v, nS r a S c l)
theorem acts_val {r a rn rk : Nat} {nb kd : Int32} {F : z_Stt → Option (Int32 × z_Stt)} {v : Int32} (h : ∀ S, S.1 rn = nb → S.1 rk = kd → F S = some (v, S)) : acts r a rn rk nb kd F v [] := by
  intro S c hc h1 h2 h3
  rw [h S h2 h3, nS_nil h1]
theorem acts_bind {r a rn rk : Nat} {nb kd : Int32} {F : z_Stt → Option (Int32 × z_Stt)} {G : Int32 → z_Stt → Option (Int32 × z_Stt)} {v w : Int32} {l l2 : List Int32} (n1 : ¬ rn = r) (n2 : ¬ rk = r) (h1 : acts r a rn rk nb kd F v l) (h2 : acts r a rn rk nb kd (G v) w l2) : acts r a rn rk nb kd (fun S => g_bd (F S) G) w (l ++ l2) := by
  intro S c hc e1 e2 e3
  rw [List.length_append] at hc
  show g_bd (F S) G = _
  rw [h1 S c (by omega) e1 e2 e3, g_bds, h2 _ (c + l.length) (by omega) (nS_r _ _ _ _ _) (by rw [nS_k _ _ _ n1]; exact e2) (by rw [nS_k _ _ _ n2]; exact e3), nS_nS]
theorem on_s (c : Nat) (h : c ≤ 2000) : Int32.ofNat c + 1 = Int32.ofNat (c + 1) := by
  have i1 : (1 : Int32).toInt = 1 := rfl
  rw [← Int32.toInt_inj, ti_add (by rw [on_ti (by omega), i1]; omega), on_ti (by omega), on_ti (by omega), i1]; omega
theorem on_24 {c : Nat} (h : c ≤ 2000) : (24 ≤ Int32.ofNat c) = (24 ≤ c) := by
  have i24 : (24 : Int32).toInt = 24 := rfl
  rw [Int32.le_iff_toInt_le, i24, on_ti (by omega)]
  exact propext (by omega)
theorem on_p0 {c : Nat} (h : c ≤ 2000) : 0 ≤ Int32.ofNat c := by
  rw [le0_i, on_ti (by omega)]; omega
theorem on_tn {c : Nat} (h : c ≤ 2000) : (Int32.ofNat c).toNatClampNeg = c := by
  have := tn (on_p0 h)
  rw [on_ti (by omega)] at this
  omega
theorem e_note (b : Int32) {S : z_Stt} {c : Nat} (hc : c ≤ 1000) (h : S.1 3203 = Int32.ofNat c) : f_X5_note b S = some ((), nS 3203 34 S c [b]) := by
  have e24 := on_24 (c := c) (by omega)
  unfold f_X5_note
  rw [h]
  by_cases q : 24 ≤ Int32.ofNat c
  · rw [if_pos q, f_X5_note_19, g_lets, h, on_s c (by omega)]
    refine some_ext rfl ?_
    unfold nS
    show _ = sI (sA S 34 (if c < 24 then upd (S.2.2.1 34) c b else S.2.2.1 34)) 3203 (Int32.ofNat (c + 1))
    rw [if_neg (by rw [e24] at q; omega), sA_self]
  · rw [if_neg q, if_pos (by rw [vp_24]; exact ⟨on_p0 (by omega), Int32.not_le.mp q⟩), g_lets, f_X5_note_19, g_lets]
    refine some_ext rfl ?_
    have e : (sA S 34 (upd (S.2.2.1 34) (Int32.ofNat c).toNatClampNeg b)).1 3203 = Int32.ofNat c := h
    rw [e, on_s c (by omega), on_tn (by omega)]
    unfold nS
    show _ = sI (sA S 34 (if c < 24 then upd (S.2.2.1 34) c b else S.2.2.1 34)) 3203 (Int32.ofNat (c + 1))
    rw [if_pos (by rw [e24] at q; omega)]
theorem e_begins (b : Int32) {S : z_Stt} {c : Nat} (hc : c ≤ 1000) (h : S.1 4839 = Int32.ofNat c) : f_X11_begins b S = some ((), nS 4839 65 S c [b]) := by
  have e24 := on_24 (c := c) (by omega)
  unfold f_X11_begins
  rw [h]
  by_cases q : 24 ≤ Int32.ofNat c
  · rw [if_pos q, f_X11_begins_19, g_lets, h, on_s c (by omega)]
    refine some_ext rfl ?_
    unfold nS
    show _ = sI (sA S 65 (if c < 24 then upd (S.2.2.1 65) c b else S.2.2.1 65)) 4839 (Int32.ofNat (c + 1))
    rw [if_neg (by rw [e24] at q; omega), sA_self]
  · rw [if_neg q, if_pos (by rw [vp_24]; exact ⟨on_p0 (by omega), Int32.not_le.mp q⟩), g_lets, f_X11_begins_19, g_lets]
    refine some_ext rfl ?_
    have e : (sA S 65 (upd (S.2.2.1 65) (Int32.ofNat c).toNatClampNeg b)).1 4839 = Int32.ofNat c := h
    rw [e, on_s c (by omega), on_tn (by omega)]
    unfold nS
    show _ = sI (sA S 65 (if c < 24 then upd (S.2.2.1 65) c b else S.2.2.1 65)) 4839 (Int32.ofNat (c + 1))
    rw [if_pos (by rw [e24] at q; omega)]
theorem acts_note {nb kd : Int32} (b : Int32) {F : z_Stt → Option (Int32 × z_Stt)} {v : Int32} {l : List Int32} (h : acts 3203 34 3204 3205 nb kd F v l) : acts 3203 34 3204 3205 nb kd (fun S => g_bd (f_X5_note b S) fun _ T => F T) v (b :: l) := by
  intro S c hc e1 e2 e3
  rw [List.length_cons] at hc
  show g_bd (f_X5_note b S) (fun _ T => F T) = _
  rw [e_note b (by omega) e1, g_bds, h _ (c + [b].length) (by simp only [List.length_cons, List.length_nil]; omega) (nS_r _ _ _ _ _) (by rw [nS_k _ _ _ (by decide)]; exact e2) (by rw [nS_k _ _ _ (by decide)]; exact e3), nS_nS]
  rfl
theorem acts_begins {nb kd : Int32} (b : Int32) {F : z_Stt → Option (Int32 × z_Stt)} {v : Int32} {l : List Int32} (h : acts 4839 65 4841 4840 nb kd F v l) : acts 4839 65 4841 4840 nb kd (fun S => g_bd (f_X11_begins b S) fun _ T => F T) v (b :: l) := by
  intro S c hc e1 e2 e3
  rw [List.length_cons] at hc
  show g_bd (f_X11_begins b S) (fun _ T => F T) = _
  rw [e_begins b (by omega) e1, g_bds, h _ (c + [b].length) (by simp only [List.length_cons, List.length_nil]; omega) (nS_r _ _ _ _ _) (by rw [nS_k _ _ _ (by decide)]; exact e2) (by rw [nS_k _ _ _ (by decide)]; exact e3), nS_nS]
  rfl
/-- a value made of what came -/
theorem acts_map {r a rn rk : Nat} {nb kd : Int32} {F : z_Stt → Option (Int32 × z_Stt)} {v : Int32} {l : List Int32} (f : Int32 → Int32) (h : acts r a rn rk nb kd F v l) : acts r a rn rk nb kd (fun S => g_bd (F S) fun x T => some (f x, T)) (f v) l := by
  intro S c hc e1 e2 e3
  show g_bd (F S) (fun x T => some (f x, T)) = _
  rw [h S c hc e1 e2 e3, g_bds]
/-- what is asked by the own kind -/
theorem acts_own {r a rn rk : Nat} {nb kd : Int32} {F : Int32 → z_Stt → Option (Int32 × z_Stt)} {v : Int32} {l : List Int32} (h : acts r a rn rk nb kd (F kd) v l) : acts r a rn rk nb kd (fun S => F (S.1 rk) S) v l := by
  intro S c hc e1 e2 e3
  show F (S.1 rk) S = _
  rw [e3]; exact h S c hc e1 e2 e3
/-- two that come one after the other -/
theorem acts_two {r a rn rk : Nat} {nb kd : Int32} {F G : z_Stt → Option (Int32 × z_Stt)} {v w : Int32} {l l2 : List Int32} (f : Int32 → Int32 → Int32) (n1 : ¬ rn = r) (n2 : ¬ rk = r) (h1 : acts r a rn rk nb kd F v l) (h2 : acts r a rn rk nb kd G w l2) : acts r a rn rk nb kd (fun S => g_bd (F S) fun x T => g_bd (G T) fun y U => some (f x y, U)) (f v w) (l ++ l2) :=
  acts_bind n1 n2 h1 (acts_map (fun y => f v y) h2)
