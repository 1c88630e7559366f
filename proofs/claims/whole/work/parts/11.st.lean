/-! THE WHOLE STATE as functions: ints by 100 * cell + field, longs likewise, int rows by cell, long rows by cell, written references by 100 * cell + field -/
abbrev z_Stt : Type := (Nat → Int32) × (Nat → Int64) × (Nat → Nat → Int32) × (Nat → Nat → Int64) × (Nat → Nat)
def z_lyT : List ((Nat × Nat) ⊕ Nat) := [.inr 10, .inr 9, .inl (0, 75), .inr 0, .inl (0, 40), .inl (0, 40), .inl (0, 40), .inr 1, .inl (0, 6), .inl (0, 5), .inr 1, .inl (0, 6), .inl (0, 5), .inr 6, .inl (0, 120), .inl (0, 120), .inl (0, 6), .inr 4, .inr 2, .inl (3, 6), .inl (0, 6), .inl (1, 6), .inr 4, .inr 4, .inr 4, .inr 4, .inr 4, .inr 4, .inr 7, .inl (0, 7), .inl (0, 7), .inr 3, .inr 5, .inl (0, 50), .inl (0, 24), .inl (4, 6), .inr 8, .inl (1, 60), .inr 8, .inl (1, 60), .inr 8, .inl (1, 60), .inr 8, .inl (1, 60), .inr 8, .inl (1, 60), .inr 8, .inl (1, 60), .inr 11, .inl (0, 75), .inl (0, 40), .inl (0, 40), .inl (0, 40), .inl (0, 6), .inl (2, 6), .inl (0, 120), .inl (0, 120), .inl (0, 6), .inl (1, 6), .inl (1, 6), .inl (0, 6), .inl (0, 6), .inl (0, 5), .inl (0, 21), .inl (0, 50), .inl (0, 24), .inl (0, 6), .inl (0, 6), .inl (1, 360), .inl (1, 60)]
def z_ly (k : Nat) : (Nat × Nat) ⊕ Nat := z_lyT.getD k (.inr 99)
def z_kdT : List (List Nat) := [[4, 5, 6, 0, 0], [4, 0, 0, 0, 5, 0, 0], [0, 4, 5, 6, 1, 1], [0, 0, 0], [1, 1], [4, 0, 5, 0, 0, 0], [2, 0, 2, 0, 6, 0, 0], [4, 5, 0, 0], [0, 0, 0, 0, 4], [4, 0], [4, 6, 10, 13, 0, 16, 20, 21, 31, 34, 35, 38], [4, 5, 6, 7, 0, 0, 0, 8, 9, 0, 0, 1, 1, 10, 0, 11, 0, 0, 0, 0, 0, 0, 12, 13, 14, 1, 15, 16, 0, 0, 0, 0, 17, 0, 0, 18, 0, 19, 20, 0, 0, 0, 21, 22, 23, 24]]
def z_kd (ci : Nat) : List Nat := z_kdT.getD ci []
theorem z_kd_len (ci : Nat) : (z_kd ci).length ≤ 60 := by
  unfold z_kd
  rw [List.getD_eq_getElem?_getD]
  cases h : z_kdT[ci]? with
  | none => exact Nat.zero_le _
  | some l =>
    have hm : l ∈ z_kdT := List.mem_of_getElem? h
    have ha : ∀ l ∈ z_kdT, l.length ≤ 60 := by decide
    exact ha l hm
def z_fv (g : z_G) (S : z_Stt) (k n : Nat) : Nat → Value
  | 0 => .int (S.1 n)
  | 1 => .long (S.2.1 n)
  | 2 => .ref (z_ad g (S.2.2.2.2 n))
  | r + 3 => .ref (z_ad g (k + r))
def z_fs (g : z_G) (S : z_Stt) (k : Nat) : Nat → List Nat → List Value
  | _, [] => []
  | j, d :: r => z_fv g S k (100 * k + j) d :: z_fs g S k (j + 1) r
theorem z_fs_get {g : z_G} {S : z_Stt} {k : Nat} : ∀ (ks : List Nat) (j i : Nat), (z_fs g S k j ks)[i]? = (ks[i]?).map (z_fv g S k (100 * k + (j + i))) := by
  intro ks
  induction ks with
  | nil => intro j i; rfl
  | cons d r ih =>
    intro j i
    cases i with
    | zero => rfl
    | succ i =>
      show (z_fs g S k (j + 1) r)[i]? = (r[i]?).map _
      rw [ih, Nat.add_right_comm j 1 i, Nat.add_assoc j i 1]
theorem z_fs_len {g : z_G} {S : z_Stt} {k : Nat} : ∀ (ks : List Nat) (j : Nat), (z_fs g S k j ks).length = ks.length := by
  intro ks
  induction ks with
  | nil => intro j; rfl
  | cons d r ih => intro j; simp [z_fs, ih]
/-- cell k of the state S -/
def hp (g : z_G) (S : z_Stt) : z_H := fun k => match z_ly k with
  | .inr ci => .inr (ci, z_fs g S k 0 (z_kd ci))
  | .inl (0, n) => .inl (z_ac g 0, n, .inl (S.2.2.1 k))
  | .inl (1, n) => .inl (z_ac g 1, n, .inr (.inl (S.2.2.2.1 k)))
  | .inl (2, n) => .inl (z_ac g 2, n, .inl (S.2.2.1 k))
  | .inl (3, n) => .inl (z_ac g 3, n, .inr (.inr (.inr (.inr (fun i => some (z_ad g (22 + i)))))))
  | .inl (t + 4, n) => .inl (z_ac g (t + 4), n, .inr (.inr (.inr (.inr (fun i => some (z_ad g (36 + 2 * i)))))))
theorem hp_o {g : z_G} {S : z_Stt} {k ci : Nat} (h : z_ly k = .inr ci) : hp g S k = .inr (ci, z_fs g S k 0 (z_kd ci)) := by unfold hp; rw [h]
theorem hp_i {g : z_G} {S : z_Stt} {k n : Nat} (h : z_ly k = .inl (0, n)) : hp g S k = .inl (z_ac g 0, n, .inl (S.2.2.1 k)) := by unfold hp; rw [h]
theorem hp_l {g : z_G} {S : z_Stt} {k n : Nat} (h : z_ly k = .inl (1, n)) : hp g S k = .inl (z_ac g 1, n, .inr (.inl (S.2.2.2.1 k))) := by unfold hp; rw [h]
theorem hp_z {g : z_G} {S : z_Stt} {k n : Nat} (h : z_ly k = .inl (2, n)) : hp g S k = .inl (z_ac g 2, n, .inl (S.2.2.1 k)) := by unfold hp; rw [h]
theorem hp_F {g : z_G} {S : z_Stt} {k n : Nat} (h : z_ly k = .inl (3, n)) : hp g S k = .inl (z_ac g 3, n, .inr (.inr (.inr (.inr (fun i => some (z_ad g (22 + i))))))) := by unfold hp; rw [h]
theorem hp_S {g : z_G} {S : z_Stt} {k n : Nat} (h : z_ly k = .inl (4, n)) : hp g S k = .inl (z_ac g 4, n, .inr (.inr (.inr (.inr (fun i => some (z_ad g (36 + 2 * i))))))) := by unfold hp; rw [h]
def sI (S : z_Stt) (n : Nat) (v : Int32) : z_Stt := (fun j => if j = n then v else S.1 j, S.2)
def sJ (S : z_Stt) (n : Nat) (v : Int64) : z_Stt := (S.1, fun j => if j = n then v else S.2.1 j, S.2.2)
def sA (S : z_Stt) (k : Nat) (f : Nat → Int32) : z_Stt := (S.1, S.2.1, fun j => if j = k then f else S.2.2.1 j, S.2.2.2)
def sE (S : z_Stt) (k : Nat) (f : Nat → Int64) : z_Stt := (S.1, S.2.1, S.2.2.1, fun j => if j = k then f else S.2.2.2.1 j, S.2.2.2.2)
def sR (S : z_Stt) (n : Nat) (v : Nat) : z_Stt := (S.1, S.2.1, S.2.2.1, S.2.2.2.1, fun j => if j = n then v else S.2.2.2.2 j)
/-- a written field: the other fields of all cells stand -/
theorem hp_put {g : z_G} {S S1 : z_Stt} {k ci j d : Nat} {v : Value} (hly : z_ly k = .inr ci) (hd : (z_kd ci)[j]? = some d) (hv : z_fv g S1 k (100 * k + j) d = v)
    (hfv : ∀ q i d, ¬ (q = k ∧ i = j) → i < 100 → z_fv g S1 q (100 * q + i) d = z_fv g S q (100 * q + i) d) (h3 : S1.2.2.1 = S.2.2.1) (h4 : S1.2.2.2.1 = S.2.2.2.1) :
    z_u (hp g S) k (.inr (ci, (z_fs g S k 0 (z_kd ci)).set j v)) = hp g S1 := by
  funext q
  have hfs : ∀ q : Nat, q ≠ k → ∀ ci : Nat, z_fs g S1 q 0 (z_kd ci) = z_fs g S q 0 (z_kd ci) := by
    intro q hq ci
    apply List.ext_getElem?
    intro i
    rw [z_fs_get, z_fs_get, Nat.zero_add]
    by_cases hi : i < (z_kd ci).length
    · have := z_kd_len ci
      rw [List.getElem?_eq_getElem hi]
      exact congrArg some (hfv q i _ (fun h => hq h.1) (by omega))
    · rw [List.getElem?_eq_none (Nat.le_of_not_lt hi)]
      rfl
  by_cases hq : q = k
  · subst hq
    rw [z_u_same, hp_o hly]
    congr 2
    apply List.ext_getElem?
    intro i
    rw [List.getElem?_set, z_fs_get, z_fs_get, Nat.zero_add]
    by_cases hi : i < (z_kd ci).length
    · by_cases hij : j = i
      · subst hij
        rw [if_pos rfl, if_pos (by rw [z_fs_len]; exact hi), hd]
        exact congrArg some hv.symm
      · have := z_kd_len ci
        rw [if_neg hij, List.getElem?_eq_getElem hi]
        exact congrArg some (hfv q i _ (fun h => hij h.2.symm) (by omega)).symm
    · have hij : ¬ j = i := by
        intro e
        subst e
        rw [List.getElem?_eq_none (Nat.le_of_not_lt hi)] at hd
        cases hd
      rw [if_neg hij, List.getElem?_eq_none (Nat.le_of_not_lt hi)]
      rfl
  · rw [z_u_ne hq]
    unfold hp
    rw [h3, h4]
    split <;> first | rfl | (rw [hfs q hq])
theorem hp_sI {g : z_G} {S : z_Stt} {k ci j : Nat} {v : Int32} (hly : z_ly k = .inr ci) (hd : (z_kd ci)[j]? = some 0) (hj : j < 100) :
    z_u (hp g S) k (.inr (ci, (z_fs g S k 0 (z_kd ci)).set j (.int v))) = hp g (sI S (100 * k + j) v) := by
  refine hp_put hly hd (by simp [z_fv, sI]) (fun q i d hn hi => ?_) rfl rfl
  have hne : ¬ 100 * q + i = 100 * k + j := fun e => hn (by omega)
  match d with
  | 0 => simp [z_fv, sI, hne]
  | 1 => rfl
  | 2 => rfl
  | r + 3 => rfl
theorem hp_sJ {g : z_G} {S : z_Stt} {k ci j : Nat} {v : Int64} (hly : z_ly k = .inr ci) (hd : (z_kd ci)[j]? = some 1) (hj : j < 100) :
    z_u (hp g S) k (.inr (ci, (z_fs g S k 0 (z_kd ci)).set j (.long v))) = hp g (sJ S (100 * k + j) v) := by
  refine hp_put hly hd (by simp [z_fv, sJ]) (fun q i d hn hi => ?_) rfl rfl
  have hne : ¬ 100 * q + i = 100 * k + j := fun e => hn (by omega)
  match d with
  | 0 => rfl
  | 1 => simp [z_fv, sJ, hne]
  | 2 => rfl
  | r + 3 => rfl
theorem hp_sR {g : z_G} {S : z_Stt} {k ci j : Nat} {v : Nat} (hly : z_ly k = .inr ci) (hd : (z_kd ci)[j]? = some 2) (hj : j < 100) :
    z_u (hp g S) k (.inr (ci, (z_fs g S k 0 (z_kd ci)).set j (.ref (z_ad g v)))) = hp g (sR S (100 * k + j) v) := by
  refine hp_put hly hd (by simp [z_fv, sR]) (fun q i d hn hi => ?_) rfl rfl
  have hne : ¬ 100 * q + i = 100 * k + j := fun e => hn (by omega)
  match d with
  | 0 => rfl
  | 1 => rfl
  | 2 => simp [z_fv, sR, hne]
  | r + 3 => rfl
theorem z_fs_A {g : z_G} {S : z_Stt} {x : Nat → Nat → Int32} {y : Nat → Nat → Int64} {k : Nat} : ∀ (ks : List Nat) (j : Nat), z_fs g (S.1, S.2.1, x, y, S.2.2.2.2) k j ks = z_fs g S k j ks := by
  intro ks
  induction ks with
  | nil => intro j; rfl
  | cons d r ih =>
    intro j
    show z_fv g _ k _ d :: _ = z_fv g S k _ d :: _
    rw [ih]
    congr 1
theorem z_fs_sA {g : z_G} {S : z_Stt} {c : Nat} {f : Nat → Int32} {k : Nat} (ks : List Nat) (j : Nat) : z_fs g (sA S c f) k j ks = z_fs g S k j ks := z_fs_A ks j
theorem z_fs_sE {g : z_G} {S : z_Stt} {c : Nat} {f : Nat → Int64} {k : Nat} (ks : List Nat) (j : Nat) : z_fs g (sE S c f) k j ks = z_fs g S k j ks := z_fs_A ks j
theorem hp_sA {g : z_G} {S : z_Stt} {k n t : Nat} {f : Nat → Int32} (hly : z_ly k = .inl (t, n)) (ht : t = 0 ∨ t = 2) : z_u (hp g S) k (.inl (z_ac g t, n, .inl f)) = hp g (sA S k f) := by
  funext q
  by_cases hq : q = k
  · subst hq
    rw [z_u_same]
    unfold hp
    rw [hly]
    rcases ht with rfl | rfl <;> simp [sA]
  · rw [z_u_ne hq]
    unfold hp
    split <;> first | rfl | (rw [z_fs_sA]) | (simp [sA, hq]; done)
theorem hp_sE {g : z_G} {S : z_Stt} {k n : Nat} {f : Nat → Int64} (hly : z_ly k = .inl (1, n)) : z_u (hp g S) k (.inl (z_ac g 1, n, .inr (.inl f))) = hp g (sE S k f) := by
  funext q
  by_cases hq : q = k
  · subst hq
    rw [z_u_same]
    unfold hp
    rw [hly]
    simp [sE]
  · rw [z_u_ne hq]
    unfold hp
    split <;> first | rfl | (rw [z_fs_sE]) | (simp [sE, hq]; done)

theorem q_getI {g : z_G} {M : z_M} {d pc : Nat} {K : z_K} {L : List (Option Value)} {st : List Value} {S : z_Stt} {ci N idx j k n : Nat} {C ref : String} {T : u_T} {ty : Nat → FieldType} (cx : z_C g M d K) (hcl : z_cl ci C T N ty) (hj : j < N) (hl0 : Cond.fieldLink M.1 idx ref (T j).2.1 (T j).2.2.1 ∈ z_TB) (hr : (T j).1 = ref) (hk : k < NC) (hly : z_ly k = .inr ci) (hkd : (z_kd ci)[j]? = some 0) (hn : 100 * k + j = n) (hd : decode M.2.2.1 pc = .ok (.getfield idx, 3)) (kk : z_At g M K (pc + 3) L (.int (S.1 n) :: st) (hp g S)) : z_At g M K pc L (.ref (z_ad g k) :: st) (hp g S) := by
  subst hn
  exact z_getf hcl hj hl0 hr cx hk (hp_o hly) (by rw [z_fs_get, hkd, Nat.zero_add]; rfl) hd kk
theorem q_getJ {g : z_G} {M : z_M} {d pc : Nat} {K : z_K} {L : List (Option Value)} {st : List Value} {S : z_Stt} {ci N idx j k n : Nat} {C ref : String} {T : u_T} {ty : Nat → FieldType} (cx : z_C g M d K) (hcl : z_cl ci C T N ty) (hj : j < N) (hl0 : Cond.fieldLink M.1 idx ref (T j).2.1 (T j).2.2.1 ∈ z_TB) (hr : (T j).1 = ref) (hk : k < NC) (hly : z_ly k = .inr ci) (hkd : (z_kd ci)[j]? = some 1) (hn : 100 * k + j = n) (hd : decode M.2.2.1 pc = .ok (.getfield idx, 3)) (kk : z_At g M K (pc + 3) L (.long (S.2.1 n) :: st) (hp g S)) : z_At g M K pc L (.ref (z_ad g k) :: st) (hp g S) := by
  subst hn
  exact z_getf hcl hj hl0 hr cx hk (hp_o hly) (by rw [z_fs_get, hkd, Nat.zero_add]; rfl) hd kk
theorem q_getR {g : z_G} {M : z_M} {d pc : Nat} {K : z_K} {L : List (Option Value)} {st : List Value} {S : z_Stt} {ci N idx j k n : Nat} {C ref : String} {T : u_T} {ty : Nat → FieldType} (cx : z_C g M d K) (hcl : z_cl ci C T N ty) (hj : j < N) (hl0 : Cond.fieldLink M.1 idx ref (T j).2.1 (T j).2.2.1 ∈ z_TB) (hr : (T j).1 = ref) (hk : k < NC) (hly : z_ly k = .inr ci) (hkd : (z_kd ci)[j]? = some 2) (hn : 100 * k + j = n) (hd : decode M.2.2.1 pc = .ok (.getfield idx, 3)) (kk : z_At g M K (pc + 3) L (.ref (z_ad g (S.2.2.2.2 n)) :: st) (hp g S)) : z_At g M K pc L (.ref (z_ad g k) :: st) (hp g S) := by
  subst hn
  exact z_getf hcl hj hl0 hr cx hk (hp_o hly) (by rw [z_fs_get, hkd, Nat.zero_add]; rfl) hd kk
theorem q_getF {g : z_G} {M : z_M} {d pc : Nat} {K : z_K} {L : List (Option Value)} {st : List Value} {S : z_Stt} {ci N idx j k n : Nat} {C ref : String} {T : u_T} {ty : Nat → FieldType} {r : Nat} (cx : z_C g M d K) (hcl : z_cl ci C T N ty) (hj : j < N) (hl0 : Cond.fieldLink M.1 idx ref (T j).2.1 (T j).2.2.1 ∈ z_TB) (hr : (T j).1 = ref) (hk : k < NC) (hly : z_ly k = .inr ci) (hkd : (z_kd ci)[j]? = some (r + 3)) (hn : k + r = n) (hd : decode M.2.2.1 pc = .ok (.getfield idx, 3)) (kk : z_At g M K (pc + 3) L (.ref (z_ad g n) :: st) (hp g S)) : z_At g M K pc L (.ref (z_ad g k) :: st) (hp g S) := by
  subst hn
  exact z_getf hcl hj hl0 hr cx hk (hp_o hly) (by rw [z_fs_get, hkd, Nat.zero_add]; rfl) hd kk
theorem q_putI {g : z_G} {M : z_M} {d pc : Nat} {K : z_K} {L : List (Option Value)} {st : List Value} {S : z_Stt} {ci N idx j k n : Nat} {C ref : String} {T : u_T} {ty : Nat → FieldType} {x : Int32} (cx : z_C g M d K) (hcl : z_cl ci C T N ty) (hj : j < N) (hl0 : Cond.fieldLink M.1 idx ref (T j).2.1 (T j).2.2.1 ∈ z_TB) (hr : (T j).1 = ref) (hf : (T j).2.2.2 = false) (hf2 : ty j = .int) (hk : k < NC) (hly : z_ly k = .inr ci) (hkd : (z_kd ci)[j]? = some 0) (hn : 100 * k + j = n) (hj9 : j < 100) (hlen : j < (z_kd ci).length) (hd : decode M.2.2.1 pc = .ok (.putfield idx, 3)) (kk : z_At g M K (pc + 3) L st (hp g (sI S n x))) : z_At g M K pc L (.int x :: .ref (z_ad g k) :: st) (hp g S) := by
  subst hn
  refine z_putf hcl hj hl0 hr hf cx (by rw [hf2]; rfl) (by rw [hf2]; rfl) hk (hp_o hly) (by rw [z_fs_len]; exact hlen) hd ?_
  rw [hp_sI hly hkd hj9]
  exact kk
theorem q_putZ {g : z_G} {M : z_M} {d pc : Nat} {K : z_K} {L : List (Option Value)} {st : List Value} {S : z_Stt} {ci N idx j k n : Nat} {C ref : String} {T : u_T} {ty : Nat → FieldType} {x : Int32} (cx : z_C g M d K) (hcl : z_cl ci C T N ty) (hj : j < N) (hl0 : Cond.fieldLink M.1 idx ref (T j).2.1 (T j).2.2.1 ∈ z_TB) (hr : (T j).1 = ref) (hf : (T j).2.2.2 = false) (hf2 : ty j = .boolean) (hx : x = 0 ∨ x = 1) (hk : k < NC) (hly : z_ly k = .inr ci) (hkd : (z_kd ci)[j]? = some 0) (hn : 100 * k + j = n) (hj9 : j < 100) (hlen : j < (z_kd ci).length) (hd : decode M.2.2.1 pc = .ok (.putfield idx, 3)) (kk : z_At g M K (pc + 3) L st (hp g (sI S n x))) : z_At g M K pc L (.int x :: .ref (z_ad g k) :: st) (hp g S) := by
  subst hn
  refine z_putf hcl hj hl0 hr hf cx (by rw [hf2]; rcases hx with rfl | rfl <;> rfl) (by rw [hf2]; rcases hx with rfl | rfl <;> rfl) hk (hp_o hly) (by rw [z_fs_len]; exact hlen) hd ?_
  rw [hp_sI hly hkd hj9]
  exact kk
theorem q_putJ {g : z_G} {M : z_M} {d pc : Nat} {K : z_K} {L : List (Option Value)} {st : List Value} {S : z_Stt} {ci N idx j k n : Nat} {C ref : String} {T : u_T} {ty : Nat → FieldType} {x : Int64} (cx : z_C g M d K) (hcl : z_cl ci C T N ty) (hj : j < N) (hl0 : Cond.fieldLink M.1 idx ref (T j).2.1 (T j).2.2.1 ∈ z_TB) (hr : (T j).1 = ref) (hf : (T j).2.2.2 = false) (hf2 : ty j = .long) (hk : k < NC) (hly : z_ly k = .inr ci) (hkd : (z_kd ci)[j]? = some 1) (hn : 100 * k + j = n) (hj9 : j < 100) (hlen : j < (z_kd ci).length) (hd : decode M.2.2.1 pc = .ok (.putfield idx, 3)) (kk : z_At g M K (pc + 3) L st (hp g (sJ S n x))) : z_At g M K pc L (.long x :: .ref (z_ad g k) :: st) (hp g S) := by
  subst hn
  refine z_putf hcl hj hl0 hr hf cx (by rw [hf2]; rfl) (by rw [hf2]; rfl) hk (hp_o hly) (by rw [z_fs_len]; exact hlen) hd ?_
  rw [hp_sJ hly hkd hj9]
  exact kk
theorem q_putR {g : z_G} {M : z_M} {d pc : Nat} {K : z_K} {L : List (Option Value)} {st : List Value} {S : z_Stt} {ci N idx j k n : Nat} {C ref : String} {T : u_T} {ty : Nat → FieldType} {x : Nat} (cx : z_C g M d K) (hcl : z_cl ci C T N ty) (hj : j < N) (hl0 : Cond.fieldLink M.1 idx ref (T j).2.1 (T j).2.2.1 ∈ z_TB) (hr : (T j).1 = ref) (hf : (T j).2.2.2 = false) (hf2 : ty j = .array .int) (hk : k < NC) (hly : z_ly k = .inr ci) (hkd : (z_kd ci)[j]? = some 2) (hn : 100 * k + j = n) (hj9 : j < 100) (hlen : j < (z_kd ci).length) (hd : decode M.2.2.1 pc = .ok (.putfield idx, 3)) (kk : z_At g M K (pc + 3) L st (hp g (sR S n x))) : z_At g M K pc L (.ref (z_ad g x) :: .ref (z_ad g k) :: st) (hp g S) := by
  subst hn
  refine z_putf hcl hj hl0 hr hf cx (by rw [hf2]; rfl) (by rw [hf2]; rfl) hk (hp_o hly) (by rw [z_fs_len]; exact hlen) hd ?_
  rw [hp_sR hly hkd hj9]
  exact kk
theorem q_iald {g : z_G} {M : z_M} {d pc : Nat} {K : z_K} {L : List (Option Value)} {st : List Value} {S : z_Stt} {k n : Nat} {i : Int32} (cx : z_C g M d K) (hk : k < NC) (hly : z_ly k = .inl (0, n)) (hin : vp_in i n) (hd : decode M.2.2.1 pc = .ok (.iaload, 1)) (kk : z_At g M K (pc + 1) L (.int (S.2.2.1 k i.toNatClampNeg) :: st) (hp g S)) : z_At g M K pc L (.int i :: .ref (z_ad g k) :: st) (hp g S) :=
  z_iald cx hk (hp_i hly) hin hd kk
theorem q_zald {g : z_G} {M : z_M} {d pc : Nat} {K : z_K} {L : List (Option Value)} {st : List Value} {S : z_Stt} {k n : Nat} {i : Int32} (cx : z_C g M d K) (hk : k < NC) (hly : z_ly k = .inl (2, n)) (hin : vp_in i n) (hd : decode M.2.2.1 pc = .ok (.baload, 1)) (kk : z_At g M K (pc + 1) L (.int (S.2.2.1 k i.toNatClampNeg) :: st) (hp g S)) : z_At g M K pc L (.int i :: .ref (z_ad g k) :: st) (hp g S) :=
  z_zald cx hk (hp_z hly) hin hd kk
theorem q_lald {g : z_G} {M : z_M} {d pc : Nat} {K : z_K} {L : List (Option Value)} {st : List Value} {S : z_Stt} {k n : Nat} {i : Int32} (cx : z_C g M d K) (hk : k < NC) (hly : z_ly k = .inl (1, n)) (hin : vp_in i n) (hd : decode M.2.2.1 pc = .ok (.laload, 1)) (kk : z_At g M K (pc + 1) L (.long (S.2.2.2.1 k i.toNatClampNeg) :: st) (hp g S)) : z_At g M K pc L (.int i :: .ref (z_ad g k) :: st) (hp g S) :=
  z_lald cx hk (hp_l hly) hin hd kk
theorem q_aald_F {g : z_G} {M : z_M} {d pc : Nat} {K : z_K} {L : List (Option Value)} {st : List Value} {S : z_Stt} {k n : Nat} {i : Int32} (cx : z_C g M d K) (hk : k < NC) (hly : z_ly k = .inl (3, n)) (hin : vp_in i n) (hd : decode M.2.2.1 pc = .ok (.aaload, 1)) (kk : z_At g M K (pc + 1) L (.ref (z_ad g (22 + i.toNatClampNeg)) :: st) (hp g S)) : z_At g M K pc L (.int i :: .ref (z_ad g k) :: st) (hp g S) :=
  z_aald_F cx hk (hp_F hly) hin rfl hd kk
theorem q_aald_S {g : z_G} {M : z_M} {d pc : Nat} {K : z_K} {L : List (Option Value)} {st : List Value} {S : z_Stt} {k n : Nat} {i : Int32} (cx : z_C g M d K) (hk : k < NC) (hly : z_ly k = .inl (4, n)) (hin : vp_in i n) (hd : decode M.2.2.1 pc = .ok (.aaload, 1)) (kk : z_At g M K (pc + 1) L (.ref (z_ad g (36 + 2 * i.toNatClampNeg)) :: st) (hp g S)) : z_At g M K pc L (.int i :: .ref (z_ad g k) :: st) (hp g S) :=
  z_aald_S cx hk (hp_S hly) hin rfl hd kk
theorem q_iast {g : z_G} {M : z_M} {d pc : Nat} {K : z_K} {L : List (Option Value)} {st : List Value} {S : z_Stt} {k n : Nat} {i : Int32} {x : Int32} (cx : z_C g M d K) (hk : k < NC) (hly : z_ly k = .inl (0, n)) (hin : vp_in i n)  (hd : decode M.2.2.1 pc = .ok (.iastore, 1)) (kk : z_At g M K (pc + 1) L st (hp g (sA S k (upd (S.2.2.1 k) i.toNatClampNeg x)))) : z_At g M K pc L (.int x :: .int i :: .ref (z_ad g k) :: st) (hp g S) := by
  refine z_iast cx hk (hp_i hly) hin  hd ?_
  rw [hp_sA hly (Or.inl rfl)]
  exact kk
theorem q_last {g : z_G} {M : z_M} {d pc : Nat} {K : z_K} {L : List (Option Value)} {st : List Value} {S : z_Stt} {k n : Nat} {i : Int32} {x : Int64} (cx : z_C g M d K) (hk : k < NC) (hly : z_ly k = .inl (1, n)) (hin : vp_in i n)  (hd : decode M.2.2.1 pc = .ok (.lastore, 1)) (kk : z_At g M K (pc + 1) L st (hp g (sE S k (vp_updL (S.2.2.2.1 k) i.toNatClampNeg x)))) : z_At g M K pc L (.long x :: .int i :: .ref (z_ad g k) :: st) (hp g S) := by
  refine z_last cx hk (hp_l hly) hin  hd ?_
  rw [hp_sE hly]
  exact kk
theorem q_zast {g : z_G} {M : z_M} {d pc : Nat} {K : z_K} {L : List (Option Value)} {st : List Value} {S : z_Stt} {k n : Nat} {i : Int32} {x : Int32} (cx : z_C g M d K) (hk : k < NC) (hly : z_ly k = .inl (2, n)) (hin : vp_in i n) (hx : x = 0 ∨ x = 1) (hd : decode M.2.2.1 pc = .ok (.bastore, 1)) (kk : z_At g M K (pc + 1) L st (hp g (sA S k (upd (S.2.2.1 k) i.toNatClampNeg x)))) : z_At g M K pc L (.int x :: .int i :: .ref (z_ad g k) :: st) (hp g S) := by
  refine z_zast cx hk (hp_z hly) hin (by rcases hx with rfl | rfl <;> decide +kernel) hd ?_
  rw [hp_sA hly (Or.inr rfl)]
  exact kk
theorem q_copyl {g : z_G} {M : z_M} {d pc : Nat} {K : z_K} {L : List (Option Value)} {st : List Value} {S : z_Stt} {idx i j n0 n1 : Nat} {a b n : Int32} (cx : z_C g M d K) (hl0 : Cond.methodLink M.1 idx arraycopyName ∈ z_TB) (h1 : Cond.native arraycopyName ∈ z_TB) (h2 : Cond.static arraycopyName ∈ z_TB) (h3 : Cond.initialized "java/lang/System" ∈ z_TB) (hi : i < NC) (hj : j < NC) (hlyi : z_ly i = .inl (1, n0)) (hlyj : z_ly j = .inl (1, n1)) (hq : ¬ a < 0 ∧ ¬ b < 0 ∧ ¬ n < 0 ∧ a.toNatClampNeg + n.toNatClampNeg ≤ n0 ∧ b.toNatClampNeg + n.toNatClampNeg ≤ n1) (h0 : 1 ≤ d) (hr : (st.map fun v => v.category).sum ≤ 8) (hd : decode M.2.2.1 pc = .ok (.invokestatic idx, 3)) (kk : z_At g M K (pc + 3) L st (hp g (sE S j (va_cpy (S.2.2.2.1 i) (S.2.2.2.1 j) a.toNatClampNeg b.toNatClampNeg n.toNatClampNeg)))) : z_At g M K pc L (.int n :: .int b :: .ref (z_ad g j) :: .int a :: .ref (z_ad g i) :: st) (hp g S) := by
  refine z_copyl cx hl0 h1 h2 h3 hi hj (hp_l hlyi) (hp_l hlyj) hq.1 hq.2.1 hq.2.2.1 hq.2.2.2.1 hq.2.2.2.2 h0 hr hd ?_
  rw [hp_sE hlyj]
  exact kk
/-- a contract's end: this answer, this state -/
def z_P (g : z_G) (v : Option Value) (S1 : z_Stt) : Option Value → z_H → Prop := fun rv sh => rv = v ∧ sh = hp g S1
def bI (b : Bool) : Int32 := if b = true then 1 else 0
theorem bI_01 (b : Bool) : bI b = 0 ∨ bI b = 1 := by cases b <;> decide +kernel
theorem bI_nar (b : Bool) : vp_nar .boolean (bI b) = bI b := by cases b <;> decide +kernel

theorem q_cvi {g : z_G} {M M' : z_M} {d d' n idx pc b ci : Nat} {K : z_K} {L : List (Option Value)} {st0 st As : List Value} {S S1 : z_Stt} {C : String} {T : u_T} {N : Nat} {ty : Nat → FieldType} {v : Int32} (cx : z_C g M d K) (hm : z_mo M' n) (hv : z_mv M') (hcl : z_cl ci C T N ty) (hC : C = M'.1) (hl0 : Cond.methodLink M.1 idx M'.2.1 ∈ z_TB) (hdd : d' + 1 ≤ d) (hn : As.length = n) (hb : b < NC) (hly : z_ly b = .inr ci) (hst : st0 = As.reverse ++ .ref (z_ad g b) :: st) (hr : (st.map fun v => v.category).sum ≤ 8) (hd : decode M.2.2.1 pc = .ok (.invokevirtual idx, 3)) (hc : z_Ct g M' d' (.ref (z_ad g b) :: As) (hp g S) (z_P g (some (.int v)) S1)) (k : z_At g M K (pc + 3) L (.int v :: st) (hp g S1)) : z_At g M K pc L st0 (hp g S) :=
  z_callv cx hm hv hcl hC hl0 hdd hn hb (hp_o hly) hst hr hd hc (fun rv sh1 h => by obtain ⟨rfl, rfl⟩ := h; exact k)
theorem q_csi {g : z_G} {M M' : z_M} {d d' n idx pc : Nat} {K : z_K} {L : List (Option Value)} {st0 st As : List Value} {S S1 : z_Stt} {v : Int32} (cx : z_C g M d K) (hm : z_mo M' n) (hv : z_ms M') (hl0 : Cond.methodLink M.1 idx M'.2.1 ∈ z_TB) (hdd : d' + 1 ≤ d) (hn : As.length = n) (hst : st0 = As.reverse ++ st) (hr : (st.map fun v => v.category).sum ≤ 8) (hd : decode M.2.2.1 pc = .ok (.invokestatic idx, 3)) (hc : z_Ct g M' d' As (hp g S) (z_P g (some (.int v)) S1)) (k : z_At g M K (pc + 3) L (.int v :: st) (hp g S1)) : z_At g M K pc L st0 (hp g S) :=
  z_calls cx hm hv hl0 hdd hn hst hr hd hc (fun rv sh1 h => by obtain ⟨rfl, rfl⟩ := h; exact k)
theorem q_cvl {g : z_G} {M M' : z_M} {d d' n idx pc b ci : Nat} {K : z_K} {L : List (Option Value)} {st0 st As : List Value} {S S1 : z_Stt} {C : String} {T : u_T} {N : Nat} {ty : Nat → FieldType} {v : Int64} (cx : z_C g M d K) (hm : z_mo M' n) (hv : z_mv M') (hcl : z_cl ci C T N ty) (hC : C = M'.1) (hl0 : Cond.methodLink M.1 idx M'.2.1 ∈ z_TB) (hdd : d' + 1 ≤ d) (hn : As.length = n) (hb : b < NC) (hly : z_ly b = .inr ci) (hst : st0 = As.reverse ++ .ref (z_ad g b) :: st) (hr : (st.map fun v => v.category).sum ≤ 8) (hd : decode M.2.2.1 pc = .ok (.invokevirtual idx, 3)) (hc : z_Ct g M' d' (.ref (z_ad g b) :: As) (hp g S) (z_P g (some (.long v)) S1)) (k : z_At g M K (pc + 3) L (.long v :: st) (hp g S1)) : z_At g M K pc L st0 (hp g S) :=
  z_callv cx hm hv hcl hC hl0 hdd hn hb (hp_o hly) hst hr hd hc (fun rv sh1 h => by obtain ⟨rfl, rfl⟩ := h; exact k)
theorem q_csl {g : z_G} {M M' : z_M} {d d' n idx pc : Nat} {K : z_K} {L : List (Option Value)} {st0 st As : List Value} {S S1 : z_Stt} {v : Int64} (cx : z_C g M d K) (hm : z_mo M' n) (hv : z_ms M') (hl0 : Cond.methodLink M.1 idx M'.2.1 ∈ z_TB) (hdd : d' + 1 ≤ d) (hn : As.length = n) (hst : st0 = As.reverse ++ st) (hr : (st.map fun v => v.category).sum ≤ 8) (hd : decode M.2.2.1 pc = .ok (.invokestatic idx, 3)) (hc : z_Ct g M' d' As (hp g S) (z_P g (some (.long v)) S1)) (k : z_At g M K (pc + 3) L (.long v :: st) (hp g S1)) : z_At g M K pc L st0 (hp g S) :=
  z_calls cx hm hv hl0 hdd hn hst hr hd hc (fun rv sh1 h => by obtain ⟨rfl, rfl⟩ := h; exact k)
theorem q_cvv {g : z_G} {M M' : z_M} {d d' n idx pc b ci : Nat} {K : z_K} {L : List (Option Value)} {st0 st As : List Value} {S S1 : z_Stt} {C : String} {T : u_T} {N : Nat} {ty : Nat → FieldType}  (cx : z_C g M d K) (hm : z_mo M' n) (hv : z_mv M') (hcl : z_cl ci C T N ty) (hC : C = M'.1) (hl0 : Cond.methodLink M.1 idx M'.2.1 ∈ z_TB) (hdd : d' + 1 ≤ d) (hn : As.length = n) (hb : b < NC) (hly : z_ly b = .inr ci) (hst : st0 = As.reverse ++ .ref (z_ad g b) :: st) (hr : (st.map fun v => v.category).sum ≤ 8) (hd : decode M.2.2.1 pc = .ok (.invokevirtual idx, 3)) (hc : z_Ct g M' d' (.ref (z_ad g b) :: As) (hp g S) (z_P g (none) S1)) (k : z_At g M K (pc + 3) L (st) (hp g S1)) : z_At g M K pc L st0 (hp g S) :=
  z_callv cx hm hv hcl hC hl0 hdd hn hb (hp_o hly) hst hr hd hc (fun rv sh1 h => by obtain ⟨rfl, rfl⟩ := h; exact k)
theorem q_csv {g : z_G} {M M' : z_M} {d d' n idx pc : Nat} {K : z_K} {L : List (Option Value)} {st0 st As : List Value} {S S1 : z_Stt}  (cx : z_C g M d K) (hm : z_mo M' n) (hv : z_ms M') (hl0 : Cond.methodLink M.1 idx M'.2.1 ∈ z_TB) (hdd : d' + 1 ≤ d) (hn : As.length = n) (hst : st0 = As.reverse ++ st) (hr : (st.map fun v => v.category).sum ≤ 8) (hd : decode M.2.2.1 pc = .ok (.invokestatic idx, 3)) (hc : z_Ct g M' d' As (hp g S) (z_P g (none) S1)) (k : z_At g M K (pc + 3) L (st) (hp g S1)) : z_At g M K pc L st0 (hp g S) :=
  z_calls cx hm hv hl0 hdd hn hst hr hd hc (fun rv sh1 h => by obtain ⟨rfl, rfl⟩ := h; exact k)
theorem q_ifb_eq {g : z_G} {M : z_M} {d pc : Nat} {K : z_K} {L : List (Option Value)} {st : List Value} {S : z_Stt} {b : Bool} {off : Int} {tgt : Nat} (cx : z_C g M d K) (ht : (pc : Int) + off = (tgt : Int)) (hd : decode M.2.2.1 pc = .ok (.ifCond .eq off, 3)) (kt : b = false → z_At g M K tgt L st (hp g S)) (kf : b = true → z_At g M K (pc + 3) L st (hp g S)) : z_At g M K pc L (.int (bI b) :: st) (hp g S) := by
  have hb : (bI b = 0) ↔ b = false := by cases b <;> decide +kernel
  refine z_if_eq cx ht hd (fun c => kt ?_) (fun c => kf ?_)
  · exact hb.mp c
  · (cases b with | false => exact absurd (hb.mpr rfl) c | true => rfl)
theorem q_ifb_ne {g : z_G} {M : z_M} {d pc : Nat} {K : z_K} {L : List (Option Value)} {st : List Value} {S : z_Stt} {b : Bool} {off : Int} {tgt : Nat} (cx : z_C g M d K) (ht : (pc : Int) + off = (tgt : Int)) (hd : decode M.2.2.1 pc = .ok (.ifCond .ne off, 3)) (kt : b = true → z_At g M K tgt L st (hp g S)) (kf : b = false → z_At g M K (pc + 3) L st (hp g S)) : z_At g M K pc L (.int (bI b) :: st) (hp g S) := by
  have hb : (bI b = 0) ↔ b = false := by cases b <;> decide +kernel
  refine z_if_ne cx ht hd (fun c => kt ?_) (fun c => kf ?_)
  · (cases b with | false => exact absurd (hb.mpr rfl) c | true => rfl)
  · exact hb.mp c
def z_wk : List (Option Value) → List (Option Value) → Prop
  | [], _ => True
  | none :: r, [] => z_wk r []
  | some _ :: _, [] => False
  | none :: r, _ :: l => z_wk r l
  | some v :: r, a :: l => a = some v ∧ z_wk r l
theorem z_wk_0 {l : List (Option Value)} : z_wk [] l := by cases l <;> trivial
theorem z_wk_e {r : List (Option Value)} (h : z_wk r []) : z_wk (none :: r) [] := h
theorem z_wk_n {r l : List (Option Value)} {a : Option Value} (h : z_wk r l) : z_wk (none :: r) (a :: l) := h
theorem z_wk_s {r l : List (Option Value)} {v : Value} (h : z_wk r l) : z_wk (some v :: r) (some v :: l) := ⟨rfl, h⟩
theorem z_wk_ok : ∀ (r l : List (Option Value)), z_wk r l → ∀ (j : Nat) (v : Value), r[j]? = some (some v) → l[j]? = some (some v) := by
  intro r
  induction r with
  | nil => intro l _ j v h; simp at h
  | cons a r ih =>
    intro l hw j v h
    cases l with
    | nil =>
      cases a with
      | none =>
        cases j with
        | zero => simp at h
        | succ j => exact absurd (ih [] hw j v (by simpa using h)) (by simp)
      | some x => exact absurd hw (by simp [z_wk])
    | cons b l =>
      cases a with
      | none =>
        cases j with
        | zero => simp at h
        | succ j => simpa using ih l hw j v (by simpa using h)
      | some x =>
        obtain ⟨rfl, hw⟩ := hw
        cases j with
        | zero => simpa using h
        | succ j => simpa using ih l hw j v (by simpa using h)
theorem q_weak {g : z_G} {M : z_M} {pc : Nat} {K : z_K} {L L' : List (Option Value)} {st : List Value} {sh : z_H} (hw : z_wk L' L) (k : z_At g M K pc L' st sh) : z_At g M K pc L st sh := z_weak (z_wk_ok L' L hw) k
-- the printed functions' own words
def g_let {β : Type} (x : z_Stt) (f : z_Stt → Option β) : Option β := f x
theorem g_let_ex {β : Type} {x : z_Stt} {f : z_Stt → Option β} {r : Option β} (h : g_let x f = r) : ∃ S : z_Stt, S = x ∧ f S = r := ⟨x, rfl, h⟩
def g_bd {α β : Type} (x : Option (α × z_Stt)) (f : α → z_Stt → Option β) : Option β := match x with
  | none => none
  | some q => f q.1 q.2
theorem g_bd_ex {α β : Type} {x : Option (α × z_Stt)} {f : α → z_Stt → Option β} {r : β} (h : g_bd x f = some r) : ∃ (v : α) (S : z_Stt), x = some (v, S) ∧ f v S = some r := by
  cases x with
  | none => cases h
  | some q => exact ⟨q.1, q.2, rfl, h⟩
theorem g_some {α β : Type} {a c : α} {b d : β} (h : some (a, b) = some (c, d)) : a = c ∧ b = d := by injection h with h; injection h with h1 h2; exact ⟨h1, h2⟩
theorem g_if {α : Type} {P : Prop} {i : Decidable P} {t : Option α} {r : α} (h : (@ite _ P i t none) = some r) : P ∧ t = some r := by
  by_cases c : P
  · rw [if_pos c] at h; exact ⟨c, h⟩
  · rw [if_neg c] at h; cases h
theorem g_t {α : Type} {P : Prop} {i : Decidable P} {a b : α} {r : α} (c : P) (h : (@ite _ P i a b) = r) : a = r := by rw [if_pos c] at h; exact h
theorem g_f {α : Type} {P : Prop} {i : Decidable P} {a b : α} {r : α} (c : ¬ P) (h : (@ite _ P i a b) = r) : b = r := by rw [if_neg c] at h; exact h
theorem q_zret01 {g : z_G} {M : z_M} {d pc : Nat} {K : z_K} {L : List (Option Value)} {P : Option Value → z_H → Prop} {v : Int32} {sh : z_H} (cx : z_C g M d K) (ce : z_E' g M P K) (hr : M.2.2.2.2 = some .boolean) (h01 : v = 0 ∨ v = 1) (hp : P (some (.int (bI (decide (v = 1))))) sh) (hd : decode M.2.2.1 pc = .ok (.ireturn, 1)) : z_At g M K pc L [.int v] sh := by
  have e : bI (decide (v = 1)) = v := by rcases h01 with rfl | rfl <;> decide +kernel
  rw [e] at hp
  exact z_zreturn cx ce hr (by rw [← e]; exact bI_nar _) hp hd
theorem q_tableD {g : z_G} {M : z_M} {d pc : Nat} {K : z_K} {L : List (Option Value)} {st : List Value} {sh : z_H} {x : Int32} {dflt lo hi : Int} {offs : Array Int} {len tgt : Nat} (cx : z_C g M d K) (as : List Int32) (hall : offs.size = (hi + 1 - lo).toNat ∧ ∀ i, i < offs.size → offs[i]? = some dflt ∨ (lo + (i : Int)) ∈ as.map (fun a => a.toInt)) (hne : ∀ a ∈ as, ¬ x = a) (ht : (pc : Int) + dflt = (tgt : Int)) (hd : decode M.2.2.1 pc = .ok (.tableswitch dflt lo hi offs, len)) (k : z_At g M K tgt L st sh) : z_At g M K pc L (.int x :: st) sh := by
  by_cases h1 : x.toInt < lo
  · exact z_tableOut cx (Or.inl h1) ht hd k
  · by_cases h2 : hi < x.toInt
    · exact z_tableOut cx (Or.inr h2) ht hd k
    · have hi' : (x.toInt - lo).toNat < offs.size := by rw [hall.1]; omega
      rcases hall.2 _ hi' with q | q
      · exact z_tableIn cx h1 h2 q ht hd k
      · exfalso
        obtain ⟨a, ha, e⟩ := List.mem_map.mp q
        refine hne a ha (Int32.toInt_inj.mp ?_)
        have e : a.toInt = lo + ((x.toInt - lo).toNat : Int) := e
        omega
theorem q_osw : ∀ (ps : List (Int × Int)) (d : Int) (x : Int32) (as : List Int32), ps.map (fun q => q.1) = as.map (fun a => a.toInt) → (∀ a ∈ as, ¬ x = a) → Op.lookupswitch.offset ps d x.toInt = d := by
  intro ps
  induction ps with
  | nil => intro d x as _ _; rfl
  | cons q r ih =>
    intro d x as h hne
    cases as with
    | nil => cases h
    | cons a as =>
      obtain ⟨qa, qo⟩ := q
      simp only [List.map_cons, List.cons.injEq] at h
      rw [lv_osw (hne a List.mem_cons_self) h.1.symm]
      exact ih d x as h.2 (fun b hb => hne b (List.mem_cons_of_mem _ hb))
/-- classes of which there are several objects: where one may lie -/
def wp1 (k : Nat) : Prop := k < NC ∧ z_ly k = .inr 1 ∧ k + 1 < NC ∧ z_ly (k + 1) = .inl (0, 6) ∧ k + 2 < NC ∧ z_ly (k + 2) = .inl (0, 5)
theorem ly_of {k : Nat} (h : k = 14 ∨ k = 15) : k < NC ∧ z_ly k = .inl (0, 120) := by rcases h with rfl | rfl <;> exact ⟨by decide, rfl⟩
def wp4 (k : Nat) : Prop := k < NC ∧ z_ly k = .inr 4
def wp8 (k : Nat) : Prop := k < NC ∧ z_ly k = .inr 8 ∧ k + 1 < NC ∧ z_ly (k + 1) = .inl (1, 60)
theorem wp1_7 : wp1 7 := ⟨by decide, rfl, by decide, rfl, by decide, rfl⟩
theorem wp1_10 : wp1 10 := ⟨by decide, rfl, by decide, rfl, by decide, rfl⟩
theorem wp4_17 : wp4 17 := ⟨by decide, rfl⟩
theorem wp4_of {i : Int32} (h : vp_in i 6) : wp4 (22 + i.toNatClampNeg) := by
  have hlt : i.toNatClampNeg < 6 := Nat.not_le.mp fun q => h (Or.inr q)
  have ha : ∀ n, n < 6 → wp4 (22 + n) := fun n hn => match n, hn with
    | 0, _ => ⟨by decide, rfl⟩
    | 1, _ => ⟨by decide, rfl⟩
    | 2, _ => ⟨by decide, rfl⟩
    | 3, _ => ⟨by decide, rfl⟩
    | 4, _ => ⟨by decide, rfl⟩
    | 5, _ => ⟨by decide, rfl⟩
    | n + 6, h => absurd h (by omega)
  exact ha _ hlt
theorem wp8_of {i : Int32} (h : vp_in i 6) : wp8 (36 + 2 * i.toNatClampNeg) := by
  have hlt : i.toNatClampNeg < 6 := Nat.not_le.mp fun q => h (Or.inr q)
  have ha : ∀ n, n < 6 → wp8 (36 + 2 * n) := fun n hn => match n, hn with
    | 0, _ => ⟨by decide, rfl, by decide, rfl⟩
    | 1, _ => ⟨by decide, rfl, by decide, rfl⟩
    | 2, _ => ⟨by decide, rfl, by decide, rfl⟩
    | 3, _ => ⟨by decide, rfl, by decide, rfl⟩
    | 4, _ => ⟨by decide, rfl, by decide, rfl⟩
    | 5, _ => ⟨by decide, rfl, by decide, rfl⟩
    | n + 6, h => absurd h (by omega)
  exact ha _ hlt

theorem z_cl0 : z_cl 0 RX0 TX0 5 tyX0 := ⟨rfl, tf_X0, tyX0_ok, nmX0⟩
theorem z_cl1 : z_cl 1 RX1 TX1 7 tyX1 := ⟨rfl, tf_X1, tyX1_ok, nmX1⟩
theorem z_cl2 : z_cl 2 RX2 TX2 6 tyX2 := ⟨rfl, tf_X2, tyX2_ok, nmX2⟩
theorem z_cl3 : z_cl 3 RX3 TX3 3 tyX3 := ⟨rfl, tf_X3, tyX3_ok, nmX3⟩
theorem z_cl4 : z_cl 4 RX4 TX4 2 tyX4 := ⟨rfl, tf_X4, tyX4_ok, nmX4⟩
theorem z_cl5 : z_cl 5 RX5 TX5 6 tyX5 := ⟨rfl, tf_X5, tyX5_ok, nmX5⟩
theorem z_cl6 : z_cl 6 RX6 TX6 7 tyX6 := ⟨rfl, tf_X6, tyX6_ok, nmX6⟩
theorem z_cl7 : z_cl 7 RX7 TX7 4 tyX7 := ⟨rfl, tf_X7, tyX7_ok, nmX7⟩
theorem z_cl8 : z_cl 8 RX8 TX8 5 tyX8 := ⟨rfl, tf_X8, tyX8_ok, nmX8⟩
theorem z_cl9 : z_cl 9 RX9 TX9 2 tyX9 := ⟨rfl, tf_X9, tyX9_ok, nmX9⟩
theorem z_cl10 : z_cl 10 RX10 TX10 12 tyX10 := ⟨rfl, tf_X10, tyX10_ok, nmX10⟩
theorem z_cl11 : z_cl 11 RX11 TX11 46 tyX11 := ⟨rfl, tf_X11, tyX11_ok, nmX11⟩
