/-! ONE ACTIVATION over a heap of NC cells, each told by its number: sh k is cell k, whose address is z_ad g k.
 g: launch, class ids, slot numbers, array classes, addresses of the cells, addresses of the static tables.
 M: a method: its class, name, bytes, locals, return type. K: what stays as it is while the method runs. -/
abbrev z_H : Type := Nat → va_E
abbrev z_G : Type := Launch × (Nat → ClassId) × (Nat → Nat → Nat) × (Nat → ClassId) × (Nat → Nat) × (Nat → Nat)
abbrev z_M : Type := String × MethodName × ByteArray × Nat × Option FieldType
abbrev z_K : Type := Program × Env × Room × State × MethodId × Array Value × List Frame × Method × Code × Nat × Nat × (State → Prop) × (Nat → Prop)
abbrev NC : Nat := 70
abbrev z_D (g : z_G) : va_G := (g.2.1, g.2.2.1)
abbrev z_ac (g : z_G) : Nat → ClassId := g.2.2.2.1
abbrev z_ad (g : z_G) : Nat → Nat := g.2.2.2.2.1
abbrev z_ts (g : z_G) : Nat → Nat := g.2.2.2.2.2
abbrev z_p (K : z_K) : Program := K.1
abbrev z_e (K : z_K) : Env := K.2.1
abbrev z_R (K : z_K) : Room := K.2.2.1
abbrev z_s (K : z_K) : State := K.2.2.2.1
abbrev z_m (K : z_K) : MethodId := K.2.2.2.2.1
abbrev z_a (K : z_K) : Array Value := K.2.2.2.2.2.1
abbrev z_b (K : z_K) : List Frame := K.2.2.2.2.2.2.1
abbrev z_me (K : z_K) : Method := K.2.2.2.2.2.2.2.1
abbrev z_c (K : z_K) : Code := K.2.2.2.2.2.2.2.2.1
abbrev z_ce (K : z_K) : Nat := K.2.2.2.2.2.2.2.2.2.1
abbrev z_sl (K : z_K) : Nat := K.2.2.2.2.2.2.2.2.2.2.1
abbrev z_Q (K : z_K) : State → Prop := K.2.2.2.2.2.2.2.2.2.2.2.1
abbrev z_A (K : z_K) : Nat → Prop := K.2.2.2.2.2.2.2.2.2.2.2.2
def z_tys (g : z_G) : List (ClassId × FieldType) := [(z_ac g 0, .int), (z_ac g 1, .long), (z_ac g 2, .boolean), (z_ac g 3, .object "HasShut$Fraction"), (z_ac g 4, .object "HasShut$Shelf")]
def z_ws (ad : Nat → Nat) (sh : z_H) : va_W := (List.range NC).map fun k => (ad k, sh k)
theorem z_ws_get {ad : Nat → Nat} {sh : z_H} {k : Nat} (hk : k < NC) : (z_ws ad sh)[k]? = some (ad k, sh k) := by
  have h : (List.range NC)[k]? = some k := List.getElem?_range hk
  unfold z_ws
  rw [List.getElem?_map, h]
  rfl
theorem z_ws_of {ad : Nat → Nat} {sh : z_H} {k : Nat} {q : Nat × va_E} (h : (z_ws ad sh)[k]? = some q) : k < NC ∧ q = (ad k, sh k) := by
  have hl : k < (z_ws ad sh).length := (List.getElem?_eq_some_iff.mp h).1
  have hk : k < NC := by simpa [z_ws] using hl
  rw [z_ws_get hk] at h
  exact ⟨hk, (Option.some.inj h).symm⟩
/-- cell k becomes e -/
def z_u (sh : z_H) (k : Nat) (e : va_E) : z_H := fun j => if j = k then e else sh j
theorem z_u_same {sh : z_H} {k : Nat} {e : va_E} : z_u sh k e k = e := if_pos rfl
theorem z_u_ne {sh : z_H} {k j : Nat} {e : va_E} (h : j ≠ k) : z_u sh k e j = sh j := if_neg h
theorem z_u_id {sh : z_H} {k : Nat} {e : va_E} (h : sh k = e) : z_u sh k e = sh := by
  funext j
  by_cases hj : j = k
  · subst hj; rw [z_u_same, h]
  · rw [z_u_ne hj]
theorem z_u_u {sh : z_H} {k : Nat} {e f : va_E} : z_u (z_u sh k e) k f = z_u sh k f := by
  funext j
  by_cases hj : j = k
  · subst hj; rw [z_u_same, z_u_same]
  · rw [z_u_ne hj, z_u_ne hj, z_u_ne hj]
theorem z_u_comm {sh : z_H} {i k : Nat} {e f : va_E} (h : i ≠ k) : z_u (z_u sh i e) k f = z_u (z_u sh k f) i e := by
  funext j
  by_cases hj : j = k
  · subst hj; rw [z_u_same, z_u_ne (fun q => h q.symm), z_u_same]
  · rw [z_u_ne hj]
    by_cases hi : j = i
    · subst hi; rw [z_u_same, z_u_same]
    · rw [z_u_ne hi, z_u_ne hi, z_u_ne hj]
theorem z_ws_set {ad : Nat → Nat} {sh : z_H} {k : Nat} {e : va_E} : (z_ws ad sh).set k (ad k, e) = z_ws ad (z_u sh k e) := by
  apply List.ext_getElem?
  intro i
  rw [List.getElem?_set]
  by_cases hi : i < NC
  · rw [z_ws_get (sh := z_u sh k e) hi]
    by_cases hk : k = i
    · subst hk
      have hl : k < (z_ws ad sh).length := by simpa [z_ws] using hi
      rw [if_pos rfl, if_pos hl, z_u_same]
    · rw [if_neg hk, z_ws_get hi, z_u_ne (fun q => hk q.symm)]
  · have hn : ∀ sh' : z_H, (z_ws ad sh')[i]? = none := by
      intro sh'
      apply List.getElem?_eq_none
      simpa [z_ws] using Nat.le_of_not_lt hi
    have hl : ¬ i < (z_ws ad sh).length := by simpa [z_ws] using hi
    rw [hn (z_u sh k e)]
    by_cases hk : k = i
    · subst hk
      rw [if_pos rfl, if_neg hl]
    · rw [if_neg hk, hn sh]
-- the static tables
def st_MOST : Nat → Int32 := fun j => ([144, 12, 12, 999, 1, 5, 99, 99, 99, 99] : List Int32).getD j 0
def st_KA : Nat → Int32 := fun j => ([-1, 0, 0, 2, 1, 3, 0, 4] : List Int32).getD j 0
def st_OB : Nat → Int32 := fun j => ([1, 10, 11, 2, 20, 0, 0, 0, 0, 30, 0, 0, 0, 41, 40, 0, 0, 0, 50, 0, 0, 0, 0, 60, 70, 0, 0, 0, 0, 80, 0, 81] : List Int32).getD j 0
def z_S1 (t n : Nat) (C f : String) (v : Nat → Int32) (A : Nat → Prop) (U : State) (H : Heap) : Prop := va_Z C f "[I" (.ref t) A U H ∧ va_T .int t n (fun j => .int (v j)) A U H
theorem z_S1.to {t n : Nat} {C f : String} {v : Nat → Int32} {A B : Nat → Prop} {u U : State} {H H1 : Heap} (hvm : u.vm.Alike U.vm) (hq : ∀ a : Nat, a < H.size → ¬ A a → H1[a]? = H[a]?) (hAB : ∀ q, B q → A q) (h : z_S1 t n C f v A u H) : z_S1 t n C f v B U H1 :=
  ⟨((h.1.moved hvm).kept hq).narrow hAB, ((h.2.moved hvm).kept hq).narrow hAB⟩
def z_St (g : z_G) (A : Nat → Prop) (U : State) (H : Heap) : Prop :=
  z_S1 (z_ts g 0) 10 "HasShut$Told" "MOST" st_MOST A U H ∧ z_S1 (z_ts g 1) 8 "HasShut$Goers" "KIND_ABOVE" st_KA A U H ∧ z_S1 (z_ts g 2) 32 "HasShut$Goers" "OWN_BODIES" st_OB A U H
/-- the cells themselves -/
def z_Ac (g : z_G) : Nat → Prop := fun q => ∃ k, k < NC ∧ q = z_ad g k
/-- what a state holds beside the cells: classes, array classes, static tables; the cells lie apart -/
def z_E (g : z_G) (A : Nat → Prop) (U : State) (H : Heap) : Prop :=
  va_K (z_D g) vwCl (z_tys g) U ∧ z_St g A U H ∧ ∀ i j, i < NC → j < NC → z_ad g i = z_ad g j → i = j
theorem z_E.to {g : z_G} {A B : Nat → Prop} {u U : State} {H H1 : Heap} (hvm : u.vm.Alike U.vm) (hq : ∀ a : Nat, a < H.size → ¬ A a → H1[a]? = H[a]?) (hAB : ∀ q, B q → A q) (h : z_E g A u H) : z_E g B U H1 :=
  ⟨va_K.moved hvm h.1, ⟨h.2.1.1.to hvm hq hAB, h.2.1.2.1.to hvm hq hAB, h.2.1.2.2.to hvm hq hAB⟩, h.2.2⟩
def z_W (g : z_G) (sh : z_H) (H : Heap) : Prop := va_P (z_D g) vwCl (z_ws (z_ad g) sh) H
theorem z_dis {g : z_G} {A B : Nat → Prop} {U : State} {H : Heap} {sh : z_H} (h : z_E g A U H) (hA : ∀ k, k < NC → B (z_ad g k)) : va_D B (z_ws (z_ad g) sh) := by
  refine ⟨fun i j p q hp hq e => ?_, fun k q hq => ?_⟩
  · obtain ⟨h1, rfl⟩ := z_ws_of hp
    obtain ⟨h2, rfl⟩ := z_ws_of hq
    exact h.2.2 i j h1 h2 e
  · obtain ⟨h1, rfl⟩ := z_ws_of hq
    exact hA k h1
-- locals, by their places
def z_lv : Nat → List (Option Value) → List (Nat × Value)
  | _, [] => []
  | i, none :: r => z_lv (i + 1) r
  | i, some v :: r => (i, v) :: z_lv (i + 1) r
theorem z_lv_mem : ∀ (L : List (Option Value)) (i j : Nat) (v : Value), (j, v) ∈ z_lv i L ↔ ∃ k, j = i + k ∧ L[k]? = some (some v) := by
  intro L
  induction L with
  | nil => intro i j v; simp [z_lv]
  | cons a r ih =>
    intro i j v
    have step : (∃ k, j = i + 1 + k ∧ r[k]? = some (some v)) ↔ (∃ k, j = i + (k + 1) ∧ (a :: r)[k + 1]? = some (some v)) := by
      constructor
      · rintro ⟨k, h1, h2⟩; exact ⟨k, by omega, by simpa using h2⟩
      · rintro ⟨k, h1, h2⟩; exact ⟨k, by omega, by simpa using h2⟩
    have split : (∃ k, j = i + k ∧ (a :: r)[k]? = some (some v)) ↔ ((j = i ∧ a = some v) ∨ ∃ k, j = i + (k + 1) ∧ (a :: r)[k + 1]? = some (some v)) := by
      constructor
      · rintro ⟨k, h1, h2⟩
        cases k with
        | zero => left; simp at h2; exact ⟨by omega, h2⟩
        | succ k => right; exact ⟨k, h1, h2⟩
      · rintro (⟨h1, h2⟩ | ⟨k, h1, h2⟩)
        · exact ⟨0, by omega, by simp [h2]⟩
        · exact ⟨k + 1, h1, h2⟩
    rw [split, ← step, ← ih]
    cases a with
    | none => simp [z_lv]
    | some x =>
      simp only [z_lv, List.mem_cons, Prod.mk.injEq, Option.some.injEq]
      constructor
      · rintro (⟨h1, h2⟩ | h)
        · exact Or.inl ⟨h1, h2.symm⟩
        · exact Or.inr h
      · rintro (⟨h1, h2⟩ | h)
        · exact Or.inl ⟨h1, h2.symm⟩
        · exact Or.inr h
def z_l (ls : Array Slot) (nL : Nat) (L : List (Option Value)) : Prop := lv_has ls nL (z_lv 0 L)
theorem z_l.at {ls : Array Slot} {nL : Nat} {L : List (Option Value)} (h : z_l ls nL L) {i : Nat} {v : Value} (hk : L[i]? = some (some v)) : ls[i]? = some (.val v) :=
  h.2.2 (i, v) ((z_lv_mem L 0 i v).mpr ⟨i, by omega, hk⟩)
theorem z_l.weak {ls : Array Slot} {nL : Nat} {L L' : List (Option Value)} (h : z_l ls nL L) (hw : ∀ (j : Nat) (v : Value), L'[j]? = some (some v) → L[j]? = some (some v)) : z_l ls nL L' := by
  refine ⟨h.1, h.2.1, fun q hq => ?_⟩
  obtain ⟨k, h1, h2⟩ := (z_lv_mem L' 0 q.1 q.2).mp hq
  refine h.2.2 q ((z_lv_mem L 0 q.1 q.2).mpr ⟨k, h1, hw k _ h2⟩)
/-- what a store leaves of the locals listed -/
def z_c2 (w : Option Value) : Bool := match w with
  | some v => v.category == 2
  | none => false
def z_clr (L : List (Option Value)) (i : Nat) : List (Option Value) := match i with
  | 0 => L
  | j + 1 => match z_c2 (L.getD j none) with
    | true => L.set j none
    | false => L
def z_st1 (L : List (Option Value)) (i : Nat) (v : Value) : List (Option Value) := (z_clr L i).set i (some v)
def z_st2 (L : List (Option Value)) (i : Nat) (v : Value) : List (Option Value) := ((z_clr L i).set i (some v)).set (i + 1) none
theorem z_clr_get {L : List (Option Value)} {i j : Nat} {w : Value} (h : (z_clr L i)[j]? = some (some w)) : L[j]? = some (some w) ∧ ¬ (j + 1 = i ∧ w.category = 2) := by
  unfold z_clr at h
  cases i with
  | zero => exact ⟨h, fun q => by omega⟩
  | succ i =>
    dsimp only at h
    cases hc : z_c2 (L.getD i none) with
    | true =>
      rw [hc] at h
      dsimp only at h
      rw [List.getElem?_set] at h
      by_cases e : i = j
      · subst e
        rw [if_pos rfl] at h
        split at h <;> cases h
      · rw [if_neg e] at h
        exact ⟨h, fun q => e (by omega)⟩
    | false =>
      rw [hc] at h
      dsimp only at h
      refine ⟨h, fun q => ?_⟩
      obtain ⟨q1, q2⟩ := q
      have e : j = i := by omega
      subst e
      rw [List.getD_eq_getElem?_getD, h] at hc
      simp [z_c2, q2] at hc
theorem z_st1_mem {L : List (Option Value)} {i : Nat} {v : Value} {q : Nat × Value} (hq : q ∈ z_lv 0 (z_st1 L i v)) : q ∈ (i, v) :: (z_lv 0 L).filter (fun q => !(q.1 == i) && !(q.1 + 1 == i && q.2.category == 2)) := by
  obtain ⟨j, w⟩ := q
  obtain ⟨k, h1, h2⟩ := (z_lv_mem _ 0 j w).mp hq
  have e : k = j := by omega
  subst e
  unfold z_st1 at h2
  rw [List.getElem?_set] at h2
  by_cases hi : i = k
  · subst hi
    rw [if_pos rfl] at h2
    split at h2
    · cases h2; exact List.mem_cons_self
    · cases h2
  · rw [if_neg hi] at h2
    obtain ⟨h3, h4⟩ := z_clr_get h2
    refine List.mem_cons_of_mem _ (List.mem_filter.mpr ⟨(z_lv_mem L 0 k w).mpr ⟨k, by omega, h3⟩, ?_⟩)
    have a1 : (k == i) = false := by simpa using fun q => hi q.symm
    have a2 : (k + 1 == i && w.category == 2) = false := by
      rw [Bool.eq_false_iff]; intro q
      simp only [Bool.and_eq_true, beq_iff_eq] at q
      exact h4 q
    simp only [a1, a2]
    rfl
theorem z_st2_mem {L : List (Option Value)} {i : Nat} {v : Value} {q : Nat × Value} (hq : q ∈ z_lv 0 (z_st2 L i v)) : q ∈ (i, v) :: (z_lv 0 L).filter (fun q => !(q.1 == i) && (!(q.1 == i + 1) && !(q.1 + 1 == i && q.2.category == 2))) := by
  obtain ⟨j, w⟩ := q
  obtain ⟨k, h1, h2⟩ := (z_lv_mem _ 0 j w).mp hq
  have e : k = j := by omega
  subst e
  unfold z_st2 at h2
  rw [List.getElem?_set] at h2
  by_cases hi1 : i + 1 = k
  · rw [if_pos hi1] at h2
    split at h2 <;> cases h2
  · rw [if_neg hi1, List.getElem?_set] at h2
    by_cases hi : i = k
    · subst hi
      rw [if_pos rfl] at h2
      split at h2
      · cases h2; exact List.mem_cons_self
      · cases h2
    · rw [if_neg hi] at h2
      obtain ⟨h3, h4⟩ := z_clr_get h2
      refine List.mem_cons_of_mem _ (List.mem_filter.mpr ⟨(z_lv_mem L 0 k w).mpr ⟨k, by omega, h3⟩, ?_⟩)
      have a1 : (k == i) = false := by simpa using fun q => hi q.symm
      have a3 : (k == i + 1) = false := by simpa using fun q => hi1 q.symm
      have a2 : (k + 1 == i && w.category == 2) = false := by
        rw [Bool.eq_false_iff]; intro q
        simp only [Bool.and_eq_true, beq_iff_eq] at q
        exact h4 q
      simp only [a1, a2, a3]
      rfl
theorem z_l.of1 {ls : Array Slot} {nL i : Nat} {v : Value} {L : List (Option Value)} (h : lv_has ls nL ((i, v) :: (z_lv 0 L).filter (fun q => !(q.1 == i) && !(q.1 + 1 == i && q.2.category == 2)))) : z_l ls nL (z_st1 L i v) := ⟨h.1, h.2.1, fun q hq => h.2.2 q (z_st1_mem hq)⟩
theorem z_l.of2 {ls : Array Slot} {nL i : Nat} {v : Value} {L : List (Option Value)} (h : lv_has ls nL ((i, v) :: (z_lv 0 L).filter (fun q => !(q.1 == i) && (!(q.1 == i + 1) && !(q.1 + 1 == i && q.2.category == 2))))) : z_l ls nL (z_st2 L i v) := ⟨h.1, h.2.1, fun q hq => h.2.2 q (z_st2_mem hq)⟩
/-- the activation K goes on from pc, with these locals, this operand stack, these cells -/
def z_At (g : z_G) (M : z_M) (K : z_K) (pc : Nat) (L : List (Option Value)) (st : List Value) (sh : z_H) : Prop :=
  ∀ (H : Heap) (locs : List Loc) (ls : Array Slot), z_W g sh H → va_S (z_A K) (z_s K).heap H locs → z_l ls M.2.2.2.1 L → W (z_p K) g.1 (z_e K) (z_R K) (z_s K) (z_m K) (z_a K) (z_b K) (z_me K) (z_c K) H locs (z_ce K) (z_sl K) (z_Q K) (F0 (z_m K) pc ls st)
/-- what an activation of M knows; d: so many frames are left -/
def z_C (g : z_G) (M : z_M) (d : Nat) (K : z_K) : Prop :=
  (z_p K).tables.exec = Jvm.exec ∧ (z_c K).code = M.2.2.1 ∧ (z_c K).maxLocals = M.2.2.2.1 ∧ (z_s K).vm.findClass M.1 = some (z_m K).cls ∧ (∀ w ∈ z_TB, w.before (z_a K) (z_s K) = true) ∧ z_E g (z_A K) (z_s K) (z_s K).heap ∧ (∀ k, k < NC → z_A K (z_ad g k)) ∧ d ≤ (z_R K).frames ∧ 50 * d ≤ (z_R K).locals ∧ z_ce K ≤ (z_R K).cells ∧ z_sl K ≤ (z_R K).slots
def z_rm (d : Nat) : Room := { frames := d, cells := 0, slots := 0, locals := 50 * d }
def z_Qm (g : z_G) (P : Option Value → z_H → Prop) : Array Value → State → Outcome → State → Prop := fun _ st oc t => (∃ (rv : Option Value) (sh : z_H), oc = .returned rv ∧ P rv sh ∧ z_W g sh t.heap) ∧ va_F (z_Ac g) st t
def z_Pc (g : z_G) (av : List Value) (sh : z_H) : Array Value → State → Prop := va_Pc av (fun U => z_E g (z_Ac g) U U.heap ∧ z_W g sh U.heap)
/-- THE CONTRACT: called with av over the cells sh, M returns; its answer and the cells then are as P says; nothing else has changed -/
def z_Ct (g : z_G) (M : z_M) (d : Nat) (av : List Value) (sh : z_H) (P : Option Value → z_H → Prop) : Prop :=
  Met g.1 M.2.1 (.code M.2.1 M.2.2.1 M.2.2.2.1 M.2.2.2.2 :: z_TB) (z_rm d) (z_Pc g av sh) (z_Qm g P) 0 0 (z_Ac g)
/-- the activation's own end -/
def z_E' (g : z_G) (M : z_M) (P : Option Value → z_H → Prop) (K : z_K) : Prop :=
  (z_me K).sig.returnType = M.2.2.2.2 ∧ (z_me K).locks = false ∧ z_Q K = MQ (z_b K) (z_Qm g P) (z_a K) (z_s K) (z_ce K) (z_sl K) (z_A K) ∧ z_A K = z_Ac g
def z_en (av : List Value) : List (Option Value) := av.flatMap fun v => if v.category = 2 then [some v, none] else [some v]
theorem z_en_args : ∀ (av : List Value) (i : Nat), z_lv i (z_en av) = lv_args i av := by
  intro av
  induction av with
  | nil => intro i; rfl
  | cons v r ih =>
    intro i
    by_cases h : v.category = 2
    · simp only [z_en, List.flatMap_cons, if_pos h] at ih ⊢
      simp [z_lv, lv_args, h, ih]
    · simp only [z_en, List.flatMap_cons, if_neg h] at ih ⊢
      have h1 : v.category = 1 := (lv_cat v).resolve_right h
      simp [z_lv, lv_args, h, h1, ih]
set_option maxHeartbeats 4000000 in
theorem z_Ct.of {g : z_G} {M : z_M} {d : Nat} {av : List Value} {sh : z_H} {P : Option Value → z_H → Prop} (hy : plainName M.2.1.cls = true) (hc : M.2.1.cls = M.1) (hn : (lg_sl av).length ≤ M.2.2.2.1)
    (body : ∀ K : z_K, z_C g M d K → z_E' g M P K → z_At g M K 0 (z_en av) [] sh) : z_Ct g M d av sh P := by
  refine Met.ofW (cc := M.2.2.1) (maxL := M.2.2.2.1) (ret := M.2.2.2.2) hy rfl ?_
  intro p e s m args below meth c s₁ B hml hv
  obtain ⟨rfl, hE, hW⟩ := hv
  have hts := atoms_spec (ws := (.code M.2.1 M.2.2.1 M.2.2.2.1 M.2.2.2.2 :: z_TB)) B.pre
  have hown : s.vm.findClass M.1 = some m.cls := hc ▸ findClass_of_methodNamed B.named
  have hb := body (p, e, (headSpec (.code M.2.1 M.2.2.1 M.2.2.2.1 M.2.2.2.2 :: z_TB) (z_rm d)).room, s, m, av.toArray, below, meth, c, 0, 0, MQ below (z_Qm g P) av.toArray s 0 0 (z_Ac g), z_Ac g) ⟨B.exec, B.bytes, hml, hown, fun w hw => hts w (List.mem_cons_of_mem _ hw), hE, fun k hk => ⟨k, hk, rfl⟩, Nat.le_refl _, Nat.le_refl _, Nat.le_refl _, Nat.le_refl _⟩ ⟨B.returns, B.notSynchronized, rfl, rfl⟩
  rw [lg_entry_eq]
  refine hb s.heap [] _ hW va_S.rf ?_
  unfold z_l
  rw [z_en_args]
  exact lv_entry av hn
theorem z_iconst {g : z_G} {M : z_M} {d pc : Nat} {K : z_K} {L : List (Option Value)} {st : List Value} {sh : z_H} {n : Int} {v : Int32} (cx : z_C g M d K) (hv : Int32.ofInt n = v) (hd : decode M.2.2.1 pc = .ok (.iconst n, 1)) (k : z_At g M K (pc + 1) L (.int v :: st) sh) : z_At g M K pc L st sh :=
  fun H locs ls hW hS hl => lv_iconst cx.1 cx.2.1 hd hv (k H locs ls hW hS hl)
theorem z_bipush {g : z_G} {M : z_M} {d pc : Nat} {K : z_K} {L : List (Option Value)} {st : List Value} {sh : z_H} {n : Int} {v : Int32} (cx : z_C g M d K) (hv : (Int8.ofInt n).toInt32 = v) (hd : decode M.2.2.1 pc = .ok (.bipush n, 2)) (k : z_At g M K (pc + 2) L (.int v :: st) sh) : z_At g M K pc L st sh :=
  fun H locs ls hW hS hl => lv_bipush cx.1 cx.2.1 hd hv (k H locs ls hW hS hl)
theorem z_sipush {g : z_G} {M : z_M} {d pc : Nat} {K : z_K} {L : List (Option Value)} {st : List Value} {sh : z_H} {n : Int} {v : Int32} (cx : z_C g M d K) (hv : (Int16.ofInt n).toInt32 = v) (hd : decode M.2.2.1 pc = .ok (.sipush n, 3)) (k : z_At g M K (pc + 3) L (.int v :: st) sh) : z_At g M K pc L st sh :=
  fun H locs ls hW hS hl => lv_sipush cx.1 cx.2.1 hd hv (k H locs ls hW hS hl)
theorem z_lconst {g : z_G} {M : z_M} {d pc : Nat} {K : z_K} {L : List (Option Value)} {st : List Value} {sh : z_H} {n : Fin 2} {v : Int64} (cx : z_C g M d K) (hv : Int64.ofNat (n : Nat) = v) (hd : decode M.2.2.1 pc = .ok (.lconst n, 1)) (k : z_At g M K (pc + 1) L (.long v :: st) sh) : z_At g M K pc L st sh :=
  fun H locs ls hW hS hl => lv_lconst cx.1 cx.2.1 hd hv (k H locs ls hW hS hl)
theorem z_iload_n {g : z_G} {M : z_M} {d pc : Nat} {K : z_K} {L : List (Option Value)} {st : List Value} {sh : z_H} {n : Fin 4} {i : Nat} {x : Int32} (cx : z_C g M d K) (hi : (n : Nat) = i) (hk : L[i]? = some (some (.int x))) (hd : decode M.2.2.1 pc = .ok (.iload_n n, 1)) (k : z_At g M K (pc + 1) L (.int x :: st) sh) : z_At g M K pc L st sh :=
  fun H locs ls hW hS hl => lv_iload_n cx.1 cx.2.1 hd hi (hl.at hk) (k H locs ls hW hS hl)
theorem z_iload {g : z_G} {M : z_M} {d pc : Nat} {K : z_K} {L : List (Option Value)} {st : List Value} {sh : z_H} {i : Nat} {x : Int32} (cx : z_C g M d K) (hk : L[i]? = some (some (.int x))) (hd : decode M.2.2.1 pc = .ok (.iload i, 2)) (k : z_At g M K (pc + 2) L (.int x :: st) sh) : z_At g M K pc L st sh :=
  fun H locs ls hW hS hl => lv_iload cx.1 cx.2.1 hd (hl.at hk) (k H locs ls hW hS hl)
theorem z_istore_n {g : z_G} {M : z_M} {d pc : Nat} {K : z_K} {L : List (Option Value)} {st : List Value} {sh : z_H} {n : Fin 4} {i : Nat} {x : Int32} {L' : List (Option Value)} (cx : z_C g M d K) (hi : (n : Nat) = i) (hn : i < M.2.2.2.1) (hL : z_st1 L i (.int x) = L') (hd : decode M.2.2.1 pc = .ok (.istore_n n, 1)) (k : z_At g M K (pc + 1) L' st sh) : z_At g M K pc L (.int x :: st) sh :=
  fun H locs ls hW hS hl => lv_istore_n (lv' := _) cx.1 cx.2.1 hd hi hl hn rfl (fun ls' h' => k H locs ls' hW hS (hL ▸ z_l.of1 h'))
theorem z_istore {g : z_G} {M : z_M} {d pc : Nat} {K : z_K} {L : List (Option Value)} {st : List Value} {sh : z_H} {i : Nat} {x : Int32} {L' : List (Option Value)} (cx : z_C g M d K) (hn : i < M.2.2.2.1) (hL : z_st1 L i (.int x) = L') (hd : decode M.2.2.1 pc = .ok (.istore i, 2)) (k : z_At g M K (pc + 2) L' st sh) : z_At g M K pc L (.int x :: st) sh :=
  fun H locs ls hW hS hl => lv_istore (lv' := _) cx.1 cx.2.1 hd hl hn rfl (fun ls' h' => k H locs ls' hW hS (hL ▸ z_l.of1 h'))
theorem z_lload_n {g : z_G} {M : z_M} {d pc : Nat} {K : z_K} {L : List (Option Value)} {st : List Value} {sh : z_H} {n : Fin 4} {i : Nat} {x : Int64} (cx : z_C g M d K) (hi : (n : Nat) = i) (hk : L[i]? = some (some (.long x))) (hd : decode M.2.2.1 pc = .ok (.lload_n n, 1)) (k : z_At g M K (pc + 1) L (.long x :: st) sh) : z_At g M K pc L st sh :=
  fun H locs ls hW hS hl => lv_lload_n cx.1 cx.2.1 hd hi (hl.at hk) (k H locs ls hW hS hl)
theorem z_lload {g : z_G} {M : z_M} {d pc : Nat} {K : z_K} {L : List (Option Value)} {st : List Value} {sh : z_H} {i : Nat} {x : Int64} (cx : z_C g M d K) (hk : L[i]? = some (some (.long x))) (hd : decode M.2.2.1 pc = .ok (.lload i, 2)) (k : z_At g M K (pc + 2) L (.long x :: st) sh) : z_At g M K pc L st sh :=
  fun H locs ls hW hS hl => lv_lload cx.1 cx.2.1 hd (hl.at hk) (k H locs ls hW hS hl)
theorem z_lstore_n {g : z_G} {M : z_M} {d pc : Nat} {K : z_K} {L : List (Option Value)} {st : List Value} {sh : z_H} {n : Fin 4} {i : Nat} {x : Int64} {L' : List (Option Value)} (cx : z_C g M d K) (hi : (n : Nat) = i) (hn : i + 1 < M.2.2.2.1) (hL : z_st2 L i (.long x) = L') (hd : decode M.2.2.1 pc = .ok (.lstore_n n, 1)) (k : z_At g M K (pc + 1) L' st sh) : z_At g M K pc L (.long x :: st) sh :=
  fun H locs ls hW hS hl => lv_lstore_n (lv' := _) cx.1 cx.2.1 hd hi hl hn rfl (fun ls' h' => k H locs ls' hW hS (hL ▸ z_l.of2 h'))
theorem z_lstore {g : z_G} {M : z_M} {d pc : Nat} {K : z_K} {L : List (Option Value)} {st : List Value} {sh : z_H} {i : Nat} {x : Int64} {L' : List (Option Value)} (cx : z_C g M d K) (hn : i + 1 < M.2.2.2.1) (hL : z_st2 L i (.long x) = L') (hd : decode M.2.2.1 pc = .ok (.lstore i, 2)) (k : z_At g M K (pc + 2) L' st sh) : z_At g M K pc L (.long x :: st) sh :=
  fun H locs ls hW hS hl => lv_lstore (lv' := _) cx.1 cx.2.1 hd hl hn rfl (fun ls' h' => k H locs ls' hW hS (hL ▸ z_l.of2 h'))
theorem z_aload_n {g : z_G} {M : z_M} {d pc : Nat} {K : z_K} {L : List (Option Value)} {st : List Value} {sh : z_H} {n : Fin 4} {i : Nat} {x : Nat} (cx : z_C g M d K) (hi : (n : Nat) = i) (hk : L[i]? = some (some (.ref x))) (hd : decode M.2.2.1 pc = .ok (.aload_n n, 1)) (k : z_At g M K (pc + 1) L (.ref x :: st) sh) : z_At g M K pc L st sh :=
  fun H locs ls hW hS hl => lv_aload_n cx.1 cx.2.1 hd hi (hl.at hk) (k H locs ls hW hS hl)
theorem z_aload {g : z_G} {M : z_M} {d pc : Nat} {K : z_K} {L : List (Option Value)} {st : List Value} {sh : z_H} {i : Nat} {x : Nat} (cx : z_C g M d K) (hk : L[i]? = some (some (.ref x))) (hd : decode M.2.2.1 pc = .ok (.aload i, 2)) (k : z_At g M K (pc + 2) L (.ref x :: st) sh) : z_At g M K pc L st sh :=
  fun H locs ls hW hS hl => lv_aload cx.1 cx.2.1 hd (hl.at hk) (k H locs ls hW hS hl)
theorem z_astore_n {g : z_G} {M : z_M} {d pc : Nat} {K : z_K} {L : List (Option Value)} {st : List Value} {sh : z_H} {n : Fin 4} {i : Nat} {x : Nat} {L' : List (Option Value)} (cx : z_C g M d K) (hi : (n : Nat) = i) (hn : i < M.2.2.2.1) (hL : z_st1 L i (.ref x) = L') (hd : decode M.2.2.1 pc = .ok (.astore_n n, 1)) (k : z_At g M K (pc + 1) L' st sh) : z_At g M K pc L (.ref x :: st) sh :=
  fun H locs ls hW hS hl => lv_astore_n (lv' := _) cx.1 cx.2.1 hd hi hl hn rfl (fun ls' h' => k H locs ls' hW hS (hL ▸ z_l.of1 h'))
theorem z_astore {g : z_G} {M : z_M} {d pc : Nat} {K : z_K} {L : List (Option Value)} {st : List Value} {sh : z_H} {i : Nat} {x : Nat} {L' : List (Option Value)} (cx : z_C g M d K) (hn : i < M.2.2.2.1) (hL : z_st1 L i (.ref x) = L') (hd : decode M.2.2.1 pc = .ok (.astore i, 2)) (k : z_At g M K (pc + 2) L' st sh) : z_At g M K pc L (.ref x :: st) sh :=
  fun H locs ls hW hS hl => lv_astore (lv' := _) cx.1 cx.2.1 hd hl hn rfl (fun ls' h' => k H locs ls' hW hS (hL ▸ z_l.of1 h'))
theorem z_iinc {g : z_G} {M : z_M} {d pc : Nat} {K : z_K} {L : List (Option Value)} {st : List Value} {sh : z_H} {i : Nat} {n : Int} {x c : Int32} {L' : List (Option Value)} (cx : z_C g M d K) (hk : L[i]? = some (some (.int x))) (hv : Int32.ofInt n = c) (hn : i < M.2.2.2.1) (hL : z_st1 L i (.int (x + c)) = L') (hd : decode M.2.2.1 pc = .ok (.iinc i n, 3)) (k : z_At g M K (pc + 3) L' st sh) : z_At g M K pc L st sh := by
  intro H locs ls hW hS hl
  have hm : (i, Value.int x) ∈ z_lv 0 L := (z_lv_mem L 0 i _).mpr ⟨i, by omega, hk⟩
  obtain ⟨q, hq⟩ := List.getElem?_of_mem hm
  exact lv_iinc (lv' := _) cx.1 cx.2.1 hd hl hq (by rw [hv]) hn rfl (fun ls' h' => k H locs ls' hW hS (hL ▸ z_l.of1 h'))
theorem z_iadd {g : z_G} {M : z_M} {d pc : Nat} {K : z_K} {L : List (Option Value)} {st : List Value} {sh : z_H} {x y : Int32} (cx : z_C g M d K)  (hd : decode M.2.2.1 pc = .ok (.iadd, 1)) (k : z_At g M K (pc + 1) L (.int (x + y) :: st) sh) : z_At g M K pc L (.int y :: .int x :: st) sh :=
  fun H locs ls hW hS hl => lv_iadd cx.1 cx.2.1 hd  (k H locs ls hW hS hl)
theorem z_isub {g : z_G} {M : z_M} {d pc : Nat} {K : z_K} {L : List (Option Value)} {st : List Value} {sh : z_H} {x y : Int32} (cx : z_C g M d K)  (hd : decode M.2.2.1 pc = .ok (.isub, 1)) (k : z_At g M K (pc + 1) L (.int (x - y) :: st) sh) : z_At g M K pc L (.int y :: .int x :: st) sh :=
  fun H locs ls hW hS hl => lv_isub cx.1 cx.2.1 hd  (k H locs ls hW hS hl)
theorem z_imul {g : z_G} {M : z_M} {d pc : Nat} {K : z_K} {L : List (Option Value)} {st : List Value} {sh : z_H} {x y : Int32} (cx : z_C g M d K)  (hd : decode M.2.2.1 pc = .ok (.imul, 1)) (k : z_At g M K (pc + 1) L (.int (x * y) :: st) sh) : z_At g M K pc L (.int y :: .int x :: st) sh :=
  fun H locs ls hW hS hl => lv_imul cx.1 cx.2.1 hd  (k H locs ls hW hS hl)
theorem z_iand {g : z_G} {M : z_M} {d pc : Nat} {K : z_K} {L : List (Option Value)} {st : List Value} {sh : z_H} {x y : Int32} (cx : z_C g M d K)  (hd : decode M.2.2.1 pc = .ok (.iand, 1)) (k : z_At g M K (pc + 1) L (.int (x &&& y) :: st) sh) : z_At g M K pc L (.int y :: .int x :: st) sh :=
  fun H locs ls hW hS hl => lv_iand cx.1 cx.2.1 hd  (k H locs ls hW hS hl)
theorem z_ior {g : z_G} {M : z_M} {d pc : Nat} {K : z_K} {L : List (Option Value)} {st : List Value} {sh : z_H} {x y : Int32} (cx : z_C g M d K)  (hd : decode M.2.2.1 pc = .ok (.ior, 1)) (k : z_At g M K (pc + 1) L (.int (x ||| y) :: st) sh) : z_At g M K pc L (.int y :: .int x :: st) sh :=
  fun H locs ls hW hS hl => lv_ior cx.1 cx.2.1 hd  (k H locs ls hW hS hl)
theorem z_ixor {g : z_G} {M : z_M} {d pc : Nat} {K : z_K} {L : List (Option Value)} {st : List Value} {sh : z_H} {x y : Int32} (cx : z_C g M d K)  (hd : decode M.2.2.1 pc = .ok (.ixor, 1)) (k : z_At g M K (pc + 1) L (.int (x ^^^ y) :: st) sh) : z_At g M K pc L (.int y :: .int x :: st) sh :=
  fun H locs ls hW hS hl => lv_ixor cx.1 cx.2.1 hd  (k H locs ls hW hS hl)
theorem z_ladd {g : z_G} {M : z_M} {d pc : Nat} {K : z_K} {L : List (Option Value)} {st : List Value} {sh : z_H} {x y : Int64} (cx : z_C g M d K)  (hd : decode M.2.2.1 pc = .ok (.ladd, 1)) (k : z_At g M K (pc + 1) L (.long (x + y) :: st) sh) : z_At g M K pc L (.long y :: .long x :: st) sh :=
  fun H locs ls hW hS hl => lv_ladd cx.1 cx.2.1 hd  (k H locs ls hW hS hl)
theorem z_lsub {g : z_G} {M : z_M} {d pc : Nat} {K : z_K} {L : List (Option Value)} {st : List Value} {sh : z_H} {x y : Int64} (cx : z_C g M d K)  (hd : decode M.2.2.1 pc = .ok (.lsub, 1)) (k : z_At g M K (pc + 1) L (.long (x - y) :: st) sh) : z_At g M K pc L (.long y :: .long x :: st) sh :=
  fun H locs ls hW hS hl => lv_lsub cx.1 cx.2.1 hd  (k H locs ls hW hS hl)
theorem z_lmul {g : z_G} {M : z_M} {d pc : Nat} {K : z_K} {L : List (Option Value)} {st : List Value} {sh : z_H} {x y : Int64} (cx : z_C g M d K)  (hd : decode M.2.2.1 pc = .ok (.lmul, 1)) (k : z_At g M K (pc + 1) L (.long (x * y) :: st) sh) : z_At g M K pc L (.long y :: .long x :: st) sh :=
  fun H locs ls hW hS hl => lv_lmul cx.1 cx.2.1 hd  (k H locs ls hW hS hl)
theorem z_land {g : z_G} {M : z_M} {d pc : Nat} {K : z_K} {L : List (Option Value)} {st : List Value} {sh : z_H} {x y : Int64} (cx : z_C g M d K)  (hd : decode M.2.2.1 pc = .ok (.land, 1)) (k : z_At g M K (pc + 1) L (.long (x &&& y) :: st) sh) : z_At g M K pc L (.long y :: .long x :: st) sh :=
  fun H locs ls hW hS hl => lv_land cx.1 cx.2.1 hd  (k H locs ls hW hS hl)
theorem z_lor {g : z_G} {M : z_M} {d pc : Nat} {K : z_K} {L : List (Option Value)} {st : List Value} {sh : z_H} {x y : Int64} (cx : z_C g M d K)  (hd : decode M.2.2.1 pc = .ok (.lor, 1)) (k : z_At g M K (pc + 1) L (.long (x ||| y) :: st) sh) : z_At g M K pc L (.long y :: .long x :: st) sh :=
  fun H locs ls hW hS hl => lv_lor cx.1 cx.2.1 hd  (k H locs ls hW hS hl)
theorem z_idiv {g : z_G} {M : z_M} {d pc : Nat} {K : z_K} {L : List (Option Value)} {st : List Value} {sh : z_H} {x y : Int32} (cx : z_C g M d K) (hne : ¬ y = 0) (hd : decode M.2.2.1 pc = .ok (.idiv, 1)) (k : z_At g M K (pc + 1) L (.int (x / y) :: st) sh) : z_At g M K pc L (.int y :: .int x :: st) sh :=
  fun H locs ls hW hS hl => lv_idiv cx.1 cx.2.1 hd hne (k H locs ls hW hS hl)
theorem z_ldiv {g : z_G} {M : z_M} {d pc : Nat} {K : z_K} {L : List (Option Value)} {st : List Value} {sh : z_H} {x y : Int64} (cx : z_C g M d K) (hne : ¬ y = 0) (hd : decode M.2.2.1 pc = .ok (.ldiv, 1)) (k : z_At g M K (pc + 1) L (.long (x / y) :: st) sh) : z_At g M K pc L (.long y :: .long x :: st) sh :=
  fun H locs ls hW hS hl => lv_ldiv cx.1 cx.2.1 hd hne (k H locs ls hW hS hl)
theorem z_rem32 (x y : Int32) : x - x / y * y = x % y := by
  apply Int32.toInt_inj.mp
  have e : x.toInt - x.toInt.tdiv y.toInt * y.toInt = (x % y).toInt := by rw [Int32.toInt_mod, Int.tmod_def, Int.mul_comm]
  rw [Int32.toInt_sub, Int32.toInt_mul, Int32.toInt_div, Int.bmod_mul_bmod, Int.sub_bmod_bmod, e]
  exact Int32.toInt_bmod _
theorem z_irem {g : z_G} {M : z_M} {d pc : Nat} {K : z_K} {L : List (Option Value)} {st : List Value} {sh : z_H} {x y : Int32} (cx : z_C g M d K) (hne : ¬ y = 0) (hd : decode M.2.2.1 pc = .ok (.irem, 1)) (k : z_At g M K (pc + 1) L (.int (x % y) :: st) sh) : z_At g M K pc L (.int y :: .int x :: st) sh :=
  fun H locs ls hW hS hl => lv_irem cx.1 cx.2.1 hd hne (by rw [z_rem32]; exact k H locs ls hW hS hl)
theorem z_rem64 (x y : Int64) : x - x / y * y = x % y := by
  apply Int64.toInt_inj.mp
  have e : x.toInt - x.toInt.tdiv y.toInt * y.toInt = (x % y).toInt := by rw [Int64.toInt_mod, Int.tmod_def, Int.mul_comm]
  rw [Int64.toInt_sub, Int64.toInt_mul, Int64.toInt_div, Int.bmod_mul_bmod, Int.sub_bmod_bmod, e]
  exact Int64.toInt_bmod _
theorem z_lrem {g : z_G} {M : z_M} {d pc : Nat} {K : z_K} {L : List (Option Value)} {st : List Value} {sh : z_H} {x y : Int64} (cx : z_C g M d K) (hne : ¬ y = 0) (hd : decode M.2.2.1 pc = .ok (.lrem, 1)) (k : z_At g M K (pc + 1) L (.long (x % y) :: st) sh) : z_At g M K pc L (.long y :: .long x :: st) sh :=
  fun H locs ls hW hS hl => lv_lrem cx.1 cx.2.1 hd hne (by rw [z_rem64]; exact k H locs ls hW hS hl)
theorem z_ineg {g : z_G} {M : z_M} {d pc : Nat} {K : z_K} {L : List (Option Value)} {st : List Value} {sh : z_H} {x : Int32} (cx : z_C g M d K)  (hd : decode M.2.2.1 pc = .ok (.ineg, 1)) (k : z_At g M K (pc + 1) L (.int (-x) :: st) sh) : z_At g M K pc L (.int x :: st) sh :=
  fun H locs ls hW hS hl => lv_ineg cx.1 cx.2.1 hd  (k H locs ls hW hS hl)
theorem z_lneg {g : z_G} {M : z_M} {d pc : Nat} {K : z_K} {L : List (Option Value)} {st : List Value} {sh : z_H} {x : Int64} (cx : z_C g M d K)  (hd : decode M.2.2.1 pc = .ok (.lneg, 1)) (k : z_At g M K (pc + 1) L (.long (-x) :: st) sh) : z_At g M K pc L (.long x :: st) sh :=
  fun H locs ls hW hS hl => lv_lneg cx.1 cx.2.1 hd  (k H locs ls hW hS hl)
theorem z_ishl {g : z_G} {M : z_M} {d pc : Nat} {K : z_K} {L : List (Option Value)} {st : List Value} {sh : z_H} {x y : Int32} (cx : z_C g M d K)  (hd : decode M.2.2.1 pc = .ok (.ishl, 1)) (k : z_At g M K (pc + 1) L (.int (x <<< (y &&& 31)) :: st) sh) : z_At g M K pc L (.int y :: .int x :: st) sh :=
  fun H locs ls hW hS hl => lv_ishl cx.1 cx.2.1 hd  (k H locs ls hW hS hl)
theorem z_ishr {g : z_G} {M : z_M} {d pc : Nat} {K : z_K} {L : List (Option Value)} {st : List Value} {sh : z_H} {x y : Int32} (cx : z_C g M d K)  (hd : decode M.2.2.1 pc = .ok (.ishr, 1)) (k : z_At g M K (pc + 1) L (.int (x >>> (y &&& 31)) :: st) sh) : z_At g M K pc L (.int y :: .int x :: st) sh :=
  fun H locs ls hW hS hl => lv_ishr cx.1 cx.2.1 hd  (k H locs ls hW hS hl)
theorem z_iushr {g : z_G} {M : z_M} {d pc : Nat} {K : z_K} {L : List (Option Value)} {st : List Value} {sh : z_H} {x y v : Int32} (cx : z_C g M d K) (hv : (x.toUInt32 >>> (y.toUInt32 &&& Int32.toUInt32 31)).toInt32 = v) (hd : decode M.2.2.1 pc = .ok (.iushr, 1)) (k : z_At g M K (pc + 1) L (.int v :: st) sh) : z_At g M K pc L (.int y :: .int x :: st) sh :=
  fun H locs ls hW hS hl => lv_iushr cx.1 cx.2.1 hd hv (k H locs ls hW hS hl)
theorem z_lshl {g : z_G} {M : z_M} {d pc : Nat} {K : z_K} {L : List (Option Value)} {st : List Value} {sh : z_H} {x v : Int64} {y : Int32} (cx : z_C g M d K) (hv : x <<< (y.toInt64 &&& 63) = v) (hd : decode M.2.2.1 pc = .ok (.lshl, 1)) (k : z_At g M K (pc + 1) L (.long v :: st) sh) : z_At g M K pc L (.int y :: .long x :: st) sh :=
  fun H locs ls hW hS hl => lv_lshl cx.1 cx.2.1 hd hv (k H locs ls hW hS hl)
theorem z_i2l {g : z_G} {M : z_M} {d pc : Nat} {K : z_K} {L : List (Option Value)} {st : List Value} {sh : z_H} {x : Int32} (cx : z_C g M d K)  (hd : decode M.2.2.1 pc = .ok (.i2l, 1)) (k : z_At g M K (pc + 1) L (.long x.toInt64 :: st) sh) : z_At g M K pc L (.int x :: st) sh :=
  fun H locs ls hW hS hl => lv_i2l cx.1 cx.2.1 hd rfl (k H locs ls hW hS hl)
theorem z_l2i {g : z_G} {M : z_M} {d pc : Nat} {K : z_K} {L : List (Option Value)} {st : List Value} {sh : z_H} {x : Int64} (cx : z_C g M d K)  (hd : decode M.2.2.1 pc = .ok (.l2i, 1)) (k : z_At g M K (pc + 1) L (.int x.toInt32 :: st) sh) : z_At g M K pc L (.long x :: st) sh :=
  fun H locs ls hW hS hl => lv_l2i cx.1 cx.2.1 hd rfl (k H locs ls hW hS hl)
theorem z_i2b {g : z_G} {M : z_M} {d pc : Nat} {K : z_K} {L : List (Option Value)} {st : List Value} {sh : z_H} {x : Int32} (cx : z_C g M d K)  (hd : decode M.2.2.1 pc = .ok (.i2b, 1)) (k : z_At g M K (pc + 1) L (.int x.toInt8.toInt32 :: st) sh) : z_At g M K pc L (.int x :: st) sh :=
  fun H locs ls hW hS hl => lv_i2b cx.1 cx.2.1 hd rfl (k H locs ls hW hS hl)
theorem z_i2s {g : z_G} {M : z_M} {d pc : Nat} {K : z_K} {L : List (Option Value)} {st : List Value} {sh : z_H} {x : Int32} (cx : z_C g M d K)  (hd : decode M.2.2.1 pc = .ok (.i2s, 1)) (k : z_At g M K (pc + 1) L (.int x.toInt16.toInt32 :: st) sh) : z_At g M K pc L (.int x :: st) sh :=
  fun H locs ls hW hS hl => lv_i2s cx.1 cx.2.1 hd rfl (k H locs ls hW hS hl)
theorem z_lcmp {g : z_G} {M : z_M} {d pc : Nat} {K : z_K} {L : List (Option Value)} {st : List Value} {sh : z_H} {x y : Int64} (cx : z_C g M d K)  (hd : decode M.2.2.1 pc = .ok (.lcmp, 1)) (k : z_At g M K (pc + 1) L (.int (lg_cmp x y) :: st) sh) : z_At g M K pc L (.long y :: .long x :: st) sh :=
  fun H locs ls hW hS hl => W.lcmp cx.1 cx.2.1 hd  (k H locs ls hW hS hl)
theorem z_dup {g : z_G} {M : z_M} {d pc : Nat} {K : z_K} {L : List (Option Value)} {st : List Value} {sh : z_H} {a : Value} (cx : z_C g M d K) (ha : a.category = 1) (hd : decode M.2.2.1 pc = .ok (.dup, 1)) (k : z_At g M K (pc + 1) L (a :: a :: st) sh) : z_At g M K pc L (a :: st) sh :=
  fun H locs ls hW hS hl => lv_dup cx.1 cx.2.1 hd ha (k H locs ls hW hS hl)
theorem z_pop {g : z_G} {M : z_M} {d pc : Nat} {K : z_K} {L : List (Option Value)} {st : List Value} {sh : z_H} {a : Value} (cx : z_C g M d K) (ha : a.category = 1) (hd : decode M.2.2.1 pc = .ok (.pop, 1)) (k : z_At g M K (pc + 1) L st sh) : z_At g M K pc L (a :: st) sh :=
  fun H locs ls hW hS hl => lv_pop cx.1 cx.2.1 hd ha (k H locs ls hW hS hl)
theorem z_dup2_11 {g : z_G} {M : z_M} {d pc : Nat} {K : z_K} {L : List (Option Value)} {st : List Value} {sh : z_H} {a b : Value} (cx : z_C g M d K) (ha : a.category = 1) (hb : b.category = 1) (hd : decode M.2.2.1 pc = .ok (.dup2, 1)) (k : z_At g M K (pc + 1) L (a :: b :: a :: b :: st) sh) : z_At g M K pc L (a :: b :: st) sh :=
  fun H locs ls hW hS hl => lv_dup2_11 cx.1 cx.2.1 hd ha hb (k H locs ls hW hS hl)
theorem z_if_eq {g : z_G} {M : z_M} {d pc : Nat} {K : z_K} {L : List (Option Value)} {st : List Value} {sh : z_H} {x : Int32} {off : Int} {tgt : Nat} (cx : z_C g M d K) (ht : (pc : Int) + off = (tgt : Int)) (hd : decode M.2.2.1 pc = .ok (.ifCond .eq off, 3)) (kt : (x = 0) → z_At g M K tgt L st sh) (kf : (¬ (x = 0)) → z_At g M K (pc + 3) L st sh) : z_At g M K pc L (.int x :: st) sh :=
  fun H locs ls hW hS hl => lv_if_eq cx.1 cx.2.1 hd ht (fun q => kt q H locs ls hW hS hl) (fun q => kf q H locs ls hW hS hl)
theorem z_icmp_eq {g : z_G} {M : z_M} {d pc : Nat} {K : z_K} {L : List (Option Value)} {st : List Value} {sh : z_H} {x y : Int32} {off : Int} {tgt : Nat} (cx : z_C g M d K) (ht : (pc : Int) + off = (tgt : Int)) (hd : decode M.2.2.1 pc = .ok (.if_icmp .eq off, 3)) (kt : (x = y) → z_At g M K tgt L st sh) (kf : (¬ (x = y)) → z_At g M K (pc + 3) L st sh) : z_At g M K pc L (.int y :: .int x :: st) sh :=
  fun H locs ls hW hS hl => lv_icmp_eq cx.1 cx.2.1 hd ht (fun q => kt q H locs ls hW hS hl) (fun q => kf q H locs ls hW hS hl)
theorem z_if_ne {g : z_G} {M : z_M} {d pc : Nat} {K : z_K} {L : List (Option Value)} {st : List Value} {sh : z_H} {x : Int32} {off : Int} {tgt : Nat} (cx : z_C g M d K) (ht : (pc : Int) + off = (tgt : Int)) (hd : decode M.2.2.1 pc = .ok (.ifCond .ne off, 3)) (kt : (¬ x = 0) → z_At g M K tgt L st sh) (kf : (x = 0) → z_At g M K (pc + 3) L st sh) : z_At g M K pc L (.int x :: st) sh :=
  fun H locs ls hW hS hl => lv_if_ne cx.1 cx.2.1 hd ht (fun q => kt q H locs ls hW hS hl) (fun q => kf q H locs ls hW hS hl)
theorem z_icmp_ne {g : z_G} {M : z_M} {d pc : Nat} {K : z_K} {L : List (Option Value)} {st : List Value} {sh : z_H} {x y : Int32} {off : Int} {tgt : Nat} (cx : z_C g M d K) (ht : (pc : Int) + off = (tgt : Int)) (hd : decode M.2.2.1 pc = .ok (.if_icmp .ne off, 3)) (kt : (¬ x = y) → z_At g M K tgt L st sh) (kf : (x = y) → z_At g M K (pc + 3) L st sh) : z_At g M K pc L (.int y :: .int x :: st) sh :=
  fun H locs ls hW hS hl => lv_icmp_ne cx.1 cx.2.1 hd ht (fun q => kt q H locs ls hW hS hl) (fun q => kf q H locs ls hW hS hl)
theorem z_if_lt {g : z_G} {M : z_M} {d pc : Nat} {K : z_K} {L : List (Option Value)} {st : List Value} {sh : z_H} {x : Int32} {off : Int} {tgt : Nat} (cx : z_C g M d K) (ht : (pc : Int) + off = (tgt : Int)) (hd : decode M.2.2.1 pc = .ok (.ifCond .lt off, 3)) (kt : (x < 0) → z_At g M K tgt L st sh) (kf : (¬ (x < 0)) → z_At g M K (pc + 3) L st sh) : z_At g M K pc L (.int x :: st) sh :=
  fun H locs ls hW hS hl => lv_if_lt cx.1 cx.2.1 hd ht (fun q => kt q H locs ls hW hS hl) (fun q => kf q H locs ls hW hS hl)
theorem z_icmp_lt {g : z_G} {M : z_M} {d pc : Nat} {K : z_K} {L : List (Option Value)} {st : List Value} {sh : z_H} {x y : Int32} {off : Int} {tgt : Nat} (cx : z_C g M d K) (ht : (pc : Int) + off = (tgt : Int)) (hd : decode M.2.2.1 pc = .ok (.if_icmp .lt off, 3)) (kt : (x < y) → z_At g M K tgt L st sh) (kf : (¬ (x < y)) → z_At g M K (pc + 3) L st sh) : z_At g M K pc L (.int y :: .int x :: st) sh :=
  fun H locs ls hW hS hl => lv_icmp_lt cx.1 cx.2.1 hd ht (fun q => kt q H locs ls hW hS hl) (fun q => kf q H locs ls hW hS hl)
theorem z_if_ge {g : z_G} {M : z_M} {d pc : Nat} {K : z_K} {L : List (Option Value)} {st : List Value} {sh : z_H} {x : Int32} {off : Int} {tgt : Nat} (cx : z_C g M d K) (ht : (pc : Int) + off = (tgt : Int)) (hd : decode M.2.2.1 pc = .ok (.ifCond .ge off, 3)) (kt : (0 ≤ x) → z_At g M K tgt L st sh) (kf : (¬ (0 ≤ x)) → z_At g M K (pc + 3) L st sh) : z_At g M K pc L (.int x :: st) sh :=
  fun H locs ls hW hS hl => lv_if_ge cx.1 cx.2.1 hd ht (fun q => kt q H locs ls hW hS hl) (fun q => kf q H locs ls hW hS hl)
theorem z_icmp_ge {g : z_G} {M : z_M} {d pc : Nat} {K : z_K} {L : List (Option Value)} {st : List Value} {sh : z_H} {x y : Int32} {off : Int} {tgt : Nat} (cx : z_C g M d K) (ht : (pc : Int) + off = (tgt : Int)) (hd : decode M.2.2.1 pc = .ok (.if_icmp .ge off, 3)) (kt : (y ≤ x) → z_At g M K tgt L st sh) (kf : (¬ (y ≤ x)) → z_At g M K (pc + 3) L st sh) : z_At g M K pc L (.int y :: .int x :: st) sh :=
  fun H locs ls hW hS hl => lv_icmp_ge cx.1 cx.2.1 hd ht (fun q => kt q H locs ls hW hS hl) (fun q => kf q H locs ls hW hS hl)
theorem z_if_gt {g : z_G} {M : z_M} {d pc : Nat} {K : z_K} {L : List (Option Value)} {st : List Value} {sh : z_H} {x : Int32} {off : Int} {tgt : Nat} (cx : z_C g M d K) (ht : (pc : Int) + off = (tgt : Int)) (hd : decode M.2.2.1 pc = .ok (.ifCond .gt off, 3)) (kt : (0 < x) → z_At g M K tgt L st sh) (kf : (¬ (0 < x)) → z_At g M K (pc + 3) L st sh) : z_At g M K pc L (.int x :: st) sh :=
  fun H locs ls hW hS hl => lv_if_gt cx.1 cx.2.1 hd ht (fun q => kt q H locs ls hW hS hl) (fun q => kf q H locs ls hW hS hl)
theorem z_icmp_gt {g : z_G} {M : z_M} {d pc : Nat} {K : z_K} {L : List (Option Value)} {st : List Value} {sh : z_H} {x y : Int32} {off : Int} {tgt : Nat} (cx : z_C g M d K) (ht : (pc : Int) + off = (tgt : Int)) (hd : decode M.2.2.1 pc = .ok (.if_icmp .gt off, 3)) (kt : (y < x) → z_At g M K tgt L st sh) (kf : (¬ (y < x)) → z_At g M K (pc + 3) L st sh) : z_At g M K pc L (.int y :: .int x :: st) sh :=
  fun H locs ls hW hS hl => lv_icmp_gt cx.1 cx.2.1 hd ht (fun q => kt q H locs ls hW hS hl) (fun q => kf q H locs ls hW hS hl)
theorem z_if_le {g : z_G} {M : z_M} {d pc : Nat} {K : z_K} {L : List (Option Value)} {st : List Value} {sh : z_H} {x : Int32} {off : Int} {tgt : Nat} (cx : z_C g M d K) (ht : (pc : Int) + off = (tgt : Int)) (hd : decode M.2.2.1 pc = .ok (.ifCond .le off, 3)) (kt : (x ≤ 0) → z_At g M K tgt L st sh) (kf : (¬ (x ≤ 0)) → z_At g M K (pc + 3) L st sh) : z_At g M K pc L (.int x :: st) sh :=
  fun H locs ls hW hS hl => lv_if_le cx.1 cx.2.1 hd ht (fun q => kt q H locs ls hW hS hl) (fun q => kf q H locs ls hW hS hl)
theorem z_icmp_le {g : z_G} {M : z_M} {d pc : Nat} {K : z_K} {L : List (Option Value)} {st : List Value} {sh : z_H} {x y : Int32} {off : Int} {tgt : Nat} (cx : z_C g M d K) (ht : (pc : Int) + off = (tgt : Int)) (hd : decode M.2.2.1 pc = .ok (.if_icmp .le off, 3)) (kt : (x ≤ y) → z_At g M K tgt L st sh) (kf : (¬ (x ≤ y)) → z_At g M K (pc + 3) L st sh) : z_At g M K pc L (.int y :: .int x :: st) sh :=
  fun H locs ls hW hS hl => lv_icmp_le cx.1 cx.2.1 hd ht (fun q => kt q H locs ls hW hS hl) (fun q => kf q H locs ls hW hS hl)
theorem z_goto {g : z_G} {M : z_M} {d pc : Nat} {K : z_K} {L : List (Option Value)} {st : List Value} {sh : z_H} {off : Int} {tgt : Nat} (cx : z_C g M d K) (ht : (pc : Int) + off = (tgt : Int)) (hd : decode M.2.2.1 pc = .ok (.goto off, 3)) (k : z_At g M K tgt L st sh) : z_At g M K pc L st sh :=
  fun H locs ls hW hS hl => lv_goto cx.1 cx.2.1 hd ht (k H locs ls hW hS hl)
theorem z_tableIn {g : z_G} {M : z_M} {d pc : Nat} {K : z_K} {L : List (Option Value)} {st : List Value} {sh : z_H} {x : Int32} {dflt lo hi off : Int} {offs : Array Int} {len tgt : Nat} (cx : z_C g M d K) (h1 : ¬ x.toInt < lo) (h2 : ¬ hi < x.toInt) (ho : offs[(x.toInt - lo).toNat]? = some off) (ht : (pc : Int) + off = (tgt : Int)) (hd : decode M.2.2.1 pc = .ok (.tableswitch dflt lo hi offs, len)) (k : z_At g M K tgt L st sh) : z_At g M K pc L (.int x :: st) sh :=
  fun H locs ls hW hS hl => lv_tableIn cx.1 cx.2.1 hd h1 h2 ho ht (k H locs ls hW hS hl)
theorem z_tableOut {g : z_G} {M : z_M} {d pc : Nat} {K : z_K} {L : List (Option Value)} {st : List Value} {sh : z_H} {x : Int32} {dflt lo hi : Int} {offs : Array Int} {len tgt : Nat} (cx : z_C g M d K) (h1 : x.toInt < lo ∨ hi < x.toInt) (ht : (pc : Int) + dflt = (tgt : Int)) (hd : decode M.2.2.1 pc = .ok (.tableswitch dflt lo hi offs, len)) (k : z_At g M K tgt L st sh) : z_At g M K pc L (.int x :: st) sh :=
  fun H locs ls hW hS hl => lv_tableOut cx.1 cx.2.1 hd h1 ht (k H locs ls hW hS hl)
theorem z_lookup {g : z_G} {M : z_M} {d pc : Nat} {K : z_K} {L : List (Option Value)} {st : List Value} {sh : z_H} {x : Int32} {dflt off : Int} {ps : Array (Int × Int)} {len tgt : Nat} (cx : z_C g M d K) (hp : (ps.toList.zip (ps.toList.drop 1)).all (fun (a, next) => a.1 < next.1) = true) (ho : Op.lookupswitch.offset ps.toList dflt x.toInt = off) (ht : (pc : Int) + off = (tgt : Int)) (hd : decode M.2.2.1 pc = .ok (.lookupswitch dflt ps, len)) (k : z_At g M K tgt L st sh) : z_At g M K pc L (.int x :: st) sh :=
  fun H locs ls hW hS hl => lv_lookup cx.1 cx.2.1 hd hp ho ht (k H locs ls hW hS hl)
theorem z_weak {g : z_G} {M : z_M} {pc : Nat} {K : z_K} {L : List (Option Value)} {st : List Value} {sh : z_H} {L' : List (Option Value)} (hw : ∀ (j : Nat) (v : Value), L'[j]? = some (some v) → L[j]? = some (some v)) (k : z_At g M K pc L' st sh) : z_At g M K pc L st sh :=
  fun H locs ls hW hS hl => k H locs ls hW hS (hl.weak hw)
theorem z_ldc {g : z_G} {M : z_M} {d pc : Nat} {K : z_K} {L : List (Option Value)} {st : List Value} {sh : z_H} {idx : Nat} {v : Int32} (cx : z_C g M d K) (hc : Cond.constant M.1 idx v ∈ z_TB) (hd : decode M.2.2.1 pc = .ok (.ldc idx, 2)) (k : z_At g M K (pc + 2) L (.int v :: st) sh) : z_At g M K pc L st sh :=
  fun H locs ls hW hS hl => lv_ldc cx.1 cx.2.1 cx.2.2.2.1 (cx.2.2.2.2.1 _ hc) hd (k H locs ls hW hS hl)
theorem z_ldcw {g : z_G} {M : z_M} {d pc : Nat} {K : z_K} {L : List (Option Value)} {st : List Value} {sh : z_H} {idx : Nat} {v : Int32} (cx : z_C g M d K) (hc : Cond.constant M.1 idx v ∈ z_TB) (hd : decode M.2.2.1 pc = .ok (.ldc_w idx, 3)) (k : z_At g M K (pc + 3) L (.int v :: st) sh) : z_At g M K pc L st sh :=
  fun H locs ls hW hS hl => lv_ldcw cx.1 cx.2.1 cx.2.2.2.1 (cx.2.2.2.2.1 _ hc) hd (k H locs ls hW hS hl)
theorem z_ldc2 {g : z_G} {M : z_M} {d pc : Nat} {K : z_K} {L : List (Option Value)} {st : List Value} {sh : z_H} {idx : Nat} {v : Int64} (cx : z_C g M d K) (hc : Cond.constantLong M.1 idx v ∈ z_TB) (hd : decode M.2.2.1 pc = .ok (.ldc2_w idx, 3)) (k : z_At g M K (pc + 3) L (.long v :: st) sh) : z_At g M K pc L st sh :=
  fun H locs ls hW hS hl => lv_ldc2 cx.1 cx.2.1 cx.2.2.2.1 (cx.2.2.2.2.1 _ hc) hd (k H locs ls hW hS hl)
/-- class ci of the list, as the worlds have it -/
def z_cl (ci : Nat) (C : String) (T : u_T) (N : Nat) (ty : Nat → FieldType) : Prop := vwCl[ci]? = some (C, T, N) ∧ (∀ w ∈ u_ws C T N, w ∈ z_TB) ∧ (∀ k, k < N → parseFieldDescriptor (T k).2.2.1 = some (ty k)) ∧ (∀ a, a < N → ∀ b, b < N → a ≠ b → (T a).2.1 ≠ (T b).2.1)
theorem z_getf {g : z_G} {M : z_M} {d pc : Nat} {K : z_K} {L : List (Option Value)} {st : List Value} {sh : z_H} {ci N idx j i : Nat} {C ref : String} {T : u_T} {ty : Nat → FieldType} {fs : List Value} {v : Value} (hcl : z_cl ci C T N ty) (hj : j < N) (hl0 : Cond.fieldLink M.1 idx ref (T j).2.1 (T j).2.2.1 ∈ z_TB) (hr : (T j).1 = ref) (cx : z_C g M d K) (hi : i < NC) (hs : sh i = .inr (ci, fs)) (hv : fs[j]? = some v) (hd : decode M.2.2.1 pc = .ok (.getfield idx, 3)) (k : z_At g M K (pc + 3) L (v :: st) sh) : z_At g M K pc L (.ref (z_ad g i) :: st) sh := by
  intro H locs ls hW hS hl
  subst hr
  exact va_get cx.1 cx.2.1 cx.2.2.2.2.1 hcl.2.1 cx.2.2.2.1 cx.2.2.2.2.2.1.1 hW i (by rw [z_ws_get hi, hs]) hcl.1 j hj (cx.2.2.2.2.1 _ hl0) (fun _ h => h) hv hd (k H locs ls hW hS hl)
theorem z_putf {g : z_G} {M : z_M} {d pc : Nat} {K : z_K} {L : List (Option Value)} {st : List Value} {sh : z_H} {ci N idx j i : Nat} {C ref : String} {T : u_T} {ty : Nat → FieldType} {fs : List Value} {v : Value} (hcl : z_cl ci C T N ty) (hj : j < N) (hl0 : Cond.fieldLink M.1 idx ref (T j).2.1 (T j).2.2.1 ∈ z_TB) (hr : (T j).1 = ref) (hf : (T j).2.2.2 = false) (cx : z_C g M d K) (hn : narrow (ty j) v = v) (hfit : fits (ty j) v = true) (hi : i < NC) (hs : sh i = .inr (ci, fs)) (hlen : j < fs.length) (hd : decode M.2.2.1 pc = .ok (.putfield idx, 3)) (k : z_At g M K (pc + 3) L st (z_u sh i (.inr (ci, fs.set j v)))) : z_At g M K pc L (v :: .ref (z_ad g i) :: st) sh := by
  intro H locs ls hW hS hl
  subst hr
  refine va_put cx.1 cx.2.1 cx.2.2.2.2.1 hcl.2.1 ty hcl.2.2.1 hcl.2.2.2 cx.2.2.2.1 cx.2.2.2.2.2.1.1 hW (z_dis cx.2.2.2.2.2.1 cx.2.2.2.2.2.2.1) hS i (by rw [z_ws_get hi, hs]) hcl.1 j hj (cx.2.2.2.2.1 _ hl0) (fun _ h => h) hf (hcl.2.2.1 j hj) hn hfit hlen hd (fun H1 locs1 hP _ hS1 => ?_)
  rw [z_ws_set] at hP
  exact k H1 locs1 ls hP hS1 hl
theorem z_iald {g : z_G} {M : z_M} {d pc : Nat} {K : z_K} {L : List (Option Value)} {st : List Value} {sh : z_H} {q n : Nat} {f : Nat → Int32} {i : Int32} (cx : z_C g M d K) (hq : q < NC) (hs : sh q = .inl (z_ac g 0, n, .inl f)) (hin : vp_in i n) (hd : decode M.2.2.1 pc = .ok (.iaload, 1)) (k : z_At g M K (pc + 1) L (.int (f i.toNatClampNeg) :: st) sh) : z_At g M K pc L (.int i :: .ref (z_ad g q) :: st) sh :=
  fun H locs ls hW hS hl => va_iald cx.1 cx.2.1 cx.2.2.2.2.2.1.1 hW q 0 (by rw [z_ws_get hq, hs]) rfl hin hd (k H locs ls hW hS hl)
theorem z_zald {g : z_G} {M : z_M} {d pc : Nat} {K : z_K} {L : List (Option Value)} {st : List Value} {sh : z_H} {q n : Nat} {f : Nat → Int32} {i : Int32} (cx : z_C g M d K) (hq : q < NC) (hs : sh q = .inl (z_ac g 2, n, .inl f)) (hin : vp_in i n) (hd : decode M.2.2.1 pc = .ok (.baload, 1)) (k : z_At g M K (pc + 1) L (.int (f i.toNatClampNeg) :: st) sh) : z_At g M K pc L (.int i :: .ref (z_ad g q) :: st) sh :=
  fun H locs ls hW hS hl => va_zald cx.1 cx.2.1 cx.2.2.2.2.2.1.1 hW q 2 (by rw [z_ws_get hq, hs]) rfl hin hd (k H locs ls hW hS hl)
theorem z_lald {g : z_G} {M : z_M} {d pc : Nat} {K : z_K} {L : List (Option Value)} {st : List Value} {sh : z_H} {q n : Nat} {f : Nat → Int64} {i : Int32} (cx : z_C g M d K) (hq : q < NC) (hs : sh q = .inl (z_ac g 1, n, .inr (.inl f))) (hin : vp_in i n) (hd : decode M.2.2.1 pc = .ok (.laload, 1)) (k : z_At g M K (pc + 1) L (.long (f i.toNatClampNeg) :: st) sh) : z_At g M K pc L (.int i :: .ref (z_ad g q) :: st) sh :=
  fun H locs ls hW hS hl => va_lald cx.1 cx.2.1 cx.2.2.2.2.2.1.1 hW q 1 (by rw [z_ws_get hq, hs]) rfl hin hd (k H locs ls hW hS hl)
theorem z_aald_F {g : z_G} {M : z_M} {d pc : Nat} {K : z_K} {L : List (Option Value)} {st : List Value} {sh : z_H} {q n a : Nat} {f : Nat → Option Nat} {i : Int32} (cx : z_C g M d K) (hq : q < NC) (hs : sh q = .inl (z_ac g 3, n, .inr (.inr (.inr (.inr f))))) (hin : vp_in i n) (ha : f i.toNatClampNeg = some a) (hd : decode M.2.2.1 pc = .ok (.aaload, 1)) (k : z_At g M K (pc + 1) L (.ref a :: st) sh) : z_At g M K pc L (.int i :: .ref (z_ad g q) :: st) sh :=
  fun H locs ls hW hS hl => va_aldq cx.1 cx.2.1 cx.2.2.2.2.2.1.1 hW q 3 (by rw [z_ws_get hq, hs]) rfl hin hd (by rw [ha]; exact k H locs ls hW hS hl)
theorem z_aald_S {g : z_G} {M : z_M} {d pc : Nat} {K : z_K} {L : List (Option Value)} {st : List Value} {sh : z_H} {q n a : Nat} {f : Nat → Option Nat} {i : Int32} (cx : z_C g M d K) (hq : q < NC) (hs : sh q = .inl (z_ac g 4, n, .inr (.inr (.inr (.inr f))))) (hin : vp_in i n) (ha : f i.toNatClampNeg = some a) (hd : decode M.2.2.1 pc = .ok (.aaload, 1)) (k : z_At g M K (pc + 1) L (.ref a :: st) sh) : z_At g M K pc L (.int i :: .ref (z_ad g q) :: st) sh :=
  fun H locs ls hW hS hl => va_aldq cx.1 cx.2.1 cx.2.2.2.2.2.1.1 hW q 4 (by rw [z_ws_get hq, hs]) rfl hin hd (by rw [ha]; exact k H locs ls hW hS hl)
theorem z_iast {g : z_G} {M : z_M} {d pc : Nat} {K : z_K} {L : List (Option Value)} {st : List Value} {sh : z_H} {q n : Nat} {f : Nat → Int32} {i : Int32} {x : Int32} (cx : z_C g M d K) (hq : q < NC) (hs : sh q = .inl (z_ac g 0, n, .inl f)) (hin : vp_in i n) (hd : decode M.2.2.1 pc = .ok (.iastore, 1)) (k : z_At g M K (pc + 1) L st (z_u sh q (.inl (z_ac g 0, n, .inl (upd f i.toNatClampNeg x))))) : z_At g M K pc L (.int x :: .int i :: .ref (z_ad g q) :: st) sh := by
  intro H locs ls hW hS hl
  refine va_iast cx.1 cx.2.1 cx.2.2.2.2.2.1.1 hW (z_dis cx.2.2.2.2.2.1 cx.2.2.2.2.2.2.1) hS q 0 (by rw [z_ws_get hq, hs]) rfl hin hd (fun H1 locs1 hP _ hS1 => ?_)
  rw [z_ws_set] at hP
  exact k H1 locs1 ls hP hS1 hl
theorem z_last {g : z_G} {M : z_M} {d pc : Nat} {K : z_K} {L : List (Option Value)} {st : List Value} {sh : z_H} {q n : Nat} {f : Nat → Int64} {i : Int32} {x : Int64} (cx : z_C g M d K) (hq : q < NC) (hs : sh q = .inl (z_ac g 1, n, .inr (.inl f))) (hin : vp_in i n) (hd : decode M.2.2.1 pc = .ok (.lastore, 1)) (k : z_At g M K (pc + 1) L st (z_u sh q (.inl (z_ac g 1, n, .inr (.inl (vp_updL f i.toNatClampNeg x)))))) : z_At g M K pc L (.long x :: .int i :: .ref (z_ad g q) :: st) sh := by
  intro H locs ls hW hS hl
  refine va_last cx.1 cx.2.1 cx.2.2.2.2.2.1.1 hW (z_dis cx.2.2.2.2.2.1 cx.2.2.2.2.2.2.1) hS q 1 (by rw [z_ws_get hq, hs]) rfl hin hd (fun H1 locs1 hP _ hS1 => ?_)
  rw [z_ws_set] at hP
  exact k H1 locs1 ls hP hS1 hl
theorem z_zast {g : z_G} {M : z_M} {d pc : Nat} {K : z_K} {L : List (Option Value)} {st : List Value} {sh : z_H} {q n : Nat} {f : Nat → Int32} {i x : Int32} (cx : z_C g M d K) (hq : q < NC) (hs : sh q = .inl (z_ac g 2, n, .inl f)) (hin : vp_in i n) (hx : vp_nar .boolean x = x) (hd : decode M.2.2.1 pc = .ok (.bastore, 1)) (k : z_At g M K (pc + 1) L st (z_u sh q (.inl (z_ac g 2, n, .inl (upd f i.toNatClampNeg x))))) : z_At g M K pc L (.int x :: .int i :: .ref (z_ad g q) :: st) sh := by
  intro H locs ls hW hS hl
  refine va_zast cx.1 cx.2.1 cx.2.2.2.2.2.1.1 hW (z_dis cx.2.2.2.2.2.1 cx.2.2.2.2.2.2.1) hS q 2 (by rw [z_ws_get hq, hs]) rfl hin hd (fun H1 locs1 hP _ hS1 => ?_)
  rw [hx, z_ws_set] at hP
  exact k H1 locs1 ls hP hS1 hl
theorem z_alen {g : z_G} {M : z_M} {d pc : Nat} {K : z_K} {L : List (Option Value)} {st : List Value} {sh : z_H} {q n t : Nat} {f : Nat → Int32} {v : Int32} (cx : z_C g M d K) (hq : q < NC) (hs : sh q = .inl (z_ac g 0, n, .inl f)) (hv : Int32.ofNat n = v) (hd : decode M.2.2.1 pc = .ok (.arraylength, 1)) (k : z_At g M K (pc + 1) L (.int v :: st) sh) : z_At g M K pc L (.ref (z_ad g q) :: st) sh :=
  fun H locs ls hW hS hl => va_alen cx.1 cx.2.1 cx.2.2.2.2.2.1.1 hW q 0 (by rw [z_ws_get hq, hs]) rfl hv hd (k H locs ls hW hS hl)
theorem z_gets0 {g : z_G} {M : z_M} {d pc : Nat} {K : z_K} {L : List (Option Value)} {st : List Value} {sh : z_H} {idx : Nat} (cx : z_C g M d K) (hl0 : Cond.fieldLink M.1 idx "HasShut$Told" "MOST" "[I" ∈ z_TB) (hd : decode M.2.2.1 pc = .ok (.getstatic idx, 3)) (k : z_At g M K (pc + 3) L (.ref (z_ts g 0) :: st) sh) : z_At g M K pc L st sh :=
  fun H locs ls hW hS hl => va_gets cx.1 cx.2.1 cx.2.2.2.2.2.1.2.1.1.1 hS cx.2.2.2.1 (cx.2.2.2.2.1 _ hl0) (fun _ h => h) hd (k H locs ls hW hS hl)
theorem z_ti0 {g : z_G} {M : z_M} {d pc : Nat} {K : z_K} {L : List (Option Value)} {st : List Value} {sh : z_H} {i : Int32} (cx : z_C g M d K) (hin : vp_in i 10) (hd : decode M.2.2.1 pc = .ok (.iaload, 1)) (k : z_At g M K (pc + 1) L (.int (st_MOST i.toNatClampNeg) :: st) sh) : z_At g M K pc L (.int i :: .ref (z_ts g 0) :: st) sh :=
  fun H locs ls hW hS hl => va_ti cx.1 cx.2.1 cx.2.2.2.2.2.1.2.1.1.2 hS hin rfl hd (k H locs ls hW hS hl)
theorem z_tlen0 {g : z_G} {M : z_M} {d pc : Nat} {K : z_K} {L : List (Option Value)} {st : List Value} {sh : z_H} (cx : z_C g M d K) (hd : decode M.2.2.1 pc = .ok (.arraylength, 1)) (k : z_At g M K (pc + 1) L (.int 10 :: st) sh) : z_At g M K pc L (.ref (z_ts g 0) :: st) sh :=
  fun H locs ls hW hS hl => va_tlen cx.1 cx.2.1 cx.2.2.2.2.2.1.2.1.1.2 hS (v := 10) (by decide +kernel) hd (k H locs ls hW hS hl)
theorem z_gets1 {g : z_G} {M : z_M} {d pc : Nat} {K : z_K} {L : List (Option Value)} {st : List Value} {sh : z_H} {idx : Nat} (cx : z_C g M d K) (hl0 : Cond.fieldLink M.1 idx "HasShut$Goers" "KIND_ABOVE" "[I" ∈ z_TB) (hd : decode M.2.2.1 pc = .ok (.getstatic idx, 3)) (k : z_At g M K (pc + 3) L (.ref (z_ts g 1) :: st) sh) : z_At g M K pc L st sh :=
  fun H locs ls hW hS hl => va_gets cx.1 cx.2.1 cx.2.2.2.2.2.1.2.1.2.1.1 hS cx.2.2.2.1 (cx.2.2.2.2.1 _ hl0) (fun _ h => h) hd (k H locs ls hW hS hl)
theorem z_ti1 {g : z_G} {M : z_M} {d pc : Nat} {K : z_K} {L : List (Option Value)} {st : List Value} {sh : z_H} {i : Int32} (cx : z_C g M d K) (hin : vp_in i 8) (hd : decode M.2.2.1 pc = .ok (.iaload, 1)) (k : z_At g M K (pc + 1) L (.int (st_KA i.toNatClampNeg) :: st) sh) : z_At g M K pc L (.int i :: .ref (z_ts g 1) :: st) sh :=
  fun H locs ls hW hS hl => va_ti cx.1 cx.2.1 cx.2.2.2.2.2.1.2.1.2.1.2 hS hin rfl hd (k H locs ls hW hS hl)
theorem z_tlen1 {g : z_G} {M : z_M} {d pc : Nat} {K : z_K} {L : List (Option Value)} {st : List Value} {sh : z_H} (cx : z_C g M d K) (hd : decode M.2.2.1 pc = .ok (.arraylength, 1)) (k : z_At g M K (pc + 1) L (.int 8 :: st) sh) : z_At g M K pc L (.ref (z_ts g 1) :: st) sh :=
  fun H locs ls hW hS hl => va_tlen cx.1 cx.2.1 cx.2.2.2.2.2.1.2.1.2.1.2 hS (v := 8) (by decide +kernel) hd (k H locs ls hW hS hl)
theorem z_gets2 {g : z_G} {M : z_M} {d pc : Nat} {K : z_K} {L : List (Option Value)} {st : List Value} {sh : z_H} {idx : Nat} (cx : z_C g M d K) (hl0 : Cond.fieldLink M.1 idx "HasShut$Goers" "OWN_BODIES" "[I" ∈ z_TB) (hd : decode M.2.2.1 pc = .ok (.getstatic idx, 3)) (k : z_At g M K (pc + 3) L (.ref (z_ts g 2) :: st) sh) : z_At g M K pc L st sh :=
  fun H locs ls hW hS hl => va_gets cx.1 cx.2.1 cx.2.2.2.2.2.1.2.1.2.2.1 hS cx.2.2.2.1 (cx.2.2.2.2.1 _ hl0) (fun _ h => h) hd (k H locs ls hW hS hl)
theorem z_ti2 {g : z_G} {M : z_M} {d pc : Nat} {K : z_K} {L : List (Option Value)} {st : List Value} {sh : z_H} {i : Int32} (cx : z_C g M d K) (hin : vp_in i 32) (hd : decode M.2.2.1 pc = .ok (.iaload, 1)) (k : z_At g M K (pc + 1) L (.int (st_OB i.toNatClampNeg) :: st) sh) : z_At g M K pc L (.int i :: .ref (z_ts g 2) :: st) sh :=
  fun H locs ls hW hS hl => va_ti cx.1 cx.2.1 cx.2.2.2.2.2.1.2.1.2.2.2 hS hin rfl hd (k H locs ls hW hS hl)
theorem z_tlen2 {g : z_G} {M : z_M} {d pc : Nat} {K : z_K} {L : List (Option Value)} {st : List Value} {sh : z_H} (cx : z_C g M d K) (hd : decode M.2.2.1 pc = .ok (.arraylength, 1)) (k : z_At g M K (pc + 1) L (.int 32 :: st) sh) : z_At g M K pc L (.ref (z_ts g 2) :: st) sh :=
  fun H locs ls hW hS hl => va_tlen cx.1 cx.2.1 cx.2.2.2.2.2.1.2.1.2.2.2 hS (v := 32) (by decide +kernel) hd (k H locs ls hW hS hl)
theorem z_mmin {g : z_G} {M : z_M} {d pc : Nat} {K : z_K} {L : List (Option Value)} {st : List Value} {sh : z_H} {idx : Nat} {x y : Int32} (cx : z_C g M d K) (hl0 : Cond.methodLink M.1 idx Lib.Math.min.name ∈ z_TB) (h1 : Cond.static Lib.Math.min.name ∈ z_TB) (h2 : Cond.initialized "java/lang/Math" ∈ z_TB) (h3 : Cond.code Lib.Math.min.name Lib.Math.min.code 2 (some .int) ∈ z_TB) (h0 : 1 ≤ d) (hr : (st.map fun v => v.category).sum ≤ 8) (hd : decode M.2.2.1 pc = .ok (.invokestatic idx, 3)) (k : z_At g M K (pc + 3) L (.int (if y < x then y else x) :: st) sh) : z_At g M K pc L (.int y :: .int x :: st) sh := by
  intro H locs ls hW hS hl
  have q := cx.2.2.2.2.2.2.2
  exact va_mmin cx.1 cx.2.1 (by rw [cx.2.2.1, hl.1]) cx.2.2.2.1 (cx.2.2.2.2.1 _ hl0) (cx.2.2.2.2.1 _ h1) (cx.2.2.2.2.1 _ h2) (cx.2.2.2.2.1 _ h3) (by omega) (by omega) q.2.2.1 q.2.2.2 hd (k H locs ls hW hS hl)
theorem z_mmax {g : z_G} {M : z_M} {d pc : Nat} {K : z_K} {L : List (Option Value)} {st : List Value} {sh : z_H} {idx : Nat} {x y : Int32} (cx : z_C g M d K) (hl0 : Cond.methodLink M.1 idx Lib.Math.max.name ∈ z_TB) (h1 : Cond.static Lib.Math.max.name ∈ z_TB) (h2 : Cond.initialized "java/lang/Math" ∈ z_TB) (h3 : Cond.code Lib.Math.max.name Lib.Math.max.code 2 (some .int) ∈ z_TB) (h0 : 1 ≤ d) (hr : (st.map fun v => v.category).sum ≤ 8) (hd : decode M.2.2.1 pc = .ok (.invokestatic idx, 3)) (k : z_At g M K (pc + 3) L (.int (if x < y then y else x) :: st) sh) : z_At g M K pc L (.int y :: .int x :: st) sh := by
  intro H locs ls hW hS hl
  have q := cx.2.2.2.2.2.2.2
  exact va_mmax cx.1 cx.2.1 (by rw [cx.2.2.1, hl.1]) cx.2.2.2.1 (cx.2.2.2.2.1 _ hl0) (cx.2.2.2.2.1 _ h1) (cx.2.2.2.2.1 _ h2) (cx.2.2.2.2.1 _ h3) (by omega) (by omega) q.2.2.1 q.2.2.2 hd (k H locs ls hW hS hl)
theorem z_lmin {g : z_G} {M : z_M} {d pc : Nat} {K : z_K} {L : List (Option Value)} {st : List Value} {sh : z_H} {idx : Nat} {x y : Int64} (cx : z_C g M d K) (hl0 : Cond.methodLink M.1 idx Lib.MathLoose.min_long.x ∈ z_TB) (h1 : Cond.static Lib.MathLoose.min_long.x ∈ z_TB) (h2 : Cond.initialized "java/lang/Math" ∈ z_TB) (h3 : Cond.code Lib.MathLoose.min_long.x Lib.MathLoose.min_long.code 4 (some .long) ∈ z_TB) (h0 : 1 ≤ d) (hr : (st.map fun v => v.category).sum ≤ 8) (hd : decode M.2.2.1 pc = .ok (.invokestatic idx, 3)) (k : z_At g M K (pc + 3) L (.long (if y < x then y else x) :: st) sh) : z_At g M K pc L (.long y :: .long x :: st) sh := by
  intro H locs ls hW hS hl
  have q := cx.2.2.2.2.2.2.2
  exact va_mmin_long cx.1 cx.2.1 (by rw [cx.2.2.1, hl.1]) cx.2.2.2.1 (cx.2.2.2.2.1 _ hl0) (cx.2.2.2.2.1 _ h1) (cx.2.2.2.2.1 _ h2) (cx.2.2.2.2.1 _ h3) (by omega) (by omega) q.2.2.1 q.2.2.2 hd (k H locs ls hW hS hl)
theorem z_labs {g : z_G} {M : z_M} {d pc : Nat} {K : z_K} {L : List (Option Value)} {st : List Value} {sh : z_H} {idx : Nat} {x : Int64} (cx : z_C g M d K) (hl0 : Cond.methodLink M.1 idx Lib.MathLoose.abs_long.x ∈ z_TB) (h1 : Cond.static Lib.MathLoose.abs_long.x ∈ z_TB) (h2 : Cond.initialized "java/lang/Math" ∈ z_TB) (h3 : Cond.code Lib.MathLoose.abs_long.x Lib.MathLoose.abs_long.code 2 (some .long) ∈ z_TB) (h0 : 1 ≤ d) (hr : (st.map fun v => v.category).sum ≤ 8) (hd : decode M.2.2.1 pc = .ok (.invokestatic idx, 3)) (k : z_At g M K (pc + 3) L (.long (if 0 < x then x else -x) :: st) sh) : z_At g M K pc L (.long x :: st) sh := by
  intro H locs ls hW hS hl
  have q := cx.2.2.2.2.2.2.2
  exact va_mabs_long cx.1 cx.2.1 (by rw [cx.2.2.1, hl.1]) cx.2.2.2.1 (cx.2.2.2.2.1 _ hl0) (cx.2.2.2.2.1 _ h1) (cx.2.2.2.2.1 _ h2) (cx.2.2.2.2.1 _ h3) (by omega) (by omega) q.2.2.1 q.2.2.2 hd (k H locs ls hW hS hl)
theorem z_copyl {g : z_G} {M : z_M} {d pc : Nat} {K : z_K} {L : List (Option Value)} {st : List Value} {sh : z_H} {idx i j n0 n1 : Nat} {a b n : Int32} {f f1 : Nat → Int64} (cx : z_C g M d K) (hl0 : Cond.methodLink M.1 idx arraycopyName ∈ z_TB) (h1 : Cond.native arraycopyName ∈ z_TB) (h2 : Cond.static arraycopyName ∈ z_TB) (h3 : Cond.initialized "java/lang/System" ∈ z_TB) (hi : i < NC) (hj : j < NC) (hsi : sh i = .inl (z_ac g 1, n0, .inr (.inl f))) (hsj : sh j = .inl (z_ac g 1, n1, .inr (.inl f1))) (ha : ¬ a < 0) (hb : ¬ b < 0) (hn : ¬ n < 0) (q1 : a.toNatClampNeg + n.toNatClampNeg ≤ n0) (q2 : b.toNatClampNeg + n.toNatClampNeg ≤ n1) (h0 : 1 ≤ d) (hr : (st.map fun v => v.category).sum ≤ 8) (hd : decode M.2.2.1 pc = .ok (.invokestatic idx, 3)) (k : z_At g M K (pc + 3) L st (z_u sh j (.inl (z_ac g 1, n1, .inr (.inl (va_cpy f f1 a.toNatClampNeg b.toNatClampNeg n.toNatClampNeg)))))) : z_At g M K pc L (.int n :: .int b :: .ref (z_ad g j) :: .int a :: .ref (z_ad g i) :: st) sh := by
  intro H locs ls hW hS hl
  have q := cx.2.2.2.2.2.2.2
  have hnw : nativeFrameWords "java/lang/System" "arraycopy" 5 = 7 := by decide +kernel
  refine va_copyl cx.1 cx.2.1 (by rw [cx.2.2.1, hl.1]) cx.2.2.2.1 (cx.2.2.2.2.1 _ hl0) (cx.2.2.2.2.1 _ h1) (cx.2.2.2.2.1 _ h2) (cx.2.2.2.2.1 _ h3) cx.2.2.2.2.2.1.1 hW (z_dis cx.2.2.2.2.2.1 cx.2.2.2.2.2.2.1) hS i j 1 1 (ty := .long) (by rw [z_ws_get hi, hsi]) (by rw [z_ws_get hj, hsj]) rfl rfl rfl ha hb hn q1 q2 (fun _ _ => rfl) (by omega) (by rw [hnw]; omega) hd (fun H1 locs1 hP _ hS1 => ?_)
  rw [z_ws_set] at hP
  exact k H1 locs1 ls hP hS1 hl
theorem z_ireturn {g : z_G} {M : z_M} {d pc : Nat} {K : z_K} {L : List (Option Value)} {sh : z_H} {P : Option Value → z_H → Prop} {v : Int32} (cx : z_C g M d K) (ce : z_E' g M P K) (hr : M.2.2.2.2 = some .int) (hp : P (some (.int v)) sh) (hd : decode M.2.2.1 pc = .ok (.ireturn, 1)) : z_At g M K pc L [.int v] sh := by
  intro H locs ls hW hS hl
  rw [ce.2.2.1]
  refine W.iret cx.1 cx.2.1 (ce.1.trans hr) (fun t ht hw => ⟨⟨_, sh, rfl, hp, by rw [ht]; exact hW⟩, by rw [← ce.2.2.2]; exact hS.F ht⟩) hS.2.2 hd ce.2.1
theorem z_zreturn {g : z_G} {M : z_M} {d pc : Nat} {K : z_K} {L : List (Option Value)} {sh : z_H} {P : Option Value → z_H → Prop} {v : Int32} (cx : z_C g M d K) (ce : z_E' g M P K) (hr : M.2.2.2.2 = some .boolean) (hn : vp_nar .boolean v = v) (hp : P (some (.int v)) sh) (hd : decode M.2.2.1 pc = .ok (.ireturn, 1)) : z_At g M K pc L [.int v] sh := by
  intro H locs ls hW hS hl
  rw [ce.2.2.1]
  refine W.zret cx.1 cx.2.1 (ce.1.trans hr) (by simpa [vp_nar, narrow] using congrArg Value.int hn) (fun t ht hw => ⟨⟨_, sh, rfl, hp, by rw [ht]; exact hW⟩, by rw [← ce.2.2.2]; exact hS.F ht⟩) hS.2.2 hd ce.2.1
theorem z_lreturn {g : z_G} {M : z_M} {d pc : Nat} {K : z_K} {L : List (Option Value)} {sh : z_H} {P : Option Value → z_H → Prop} {v : Int64} (cx : z_C g M d K) (ce : z_E' g M P K) (hr : M.2.2.2.2 = some .long) (hp : P (some (.long v)) sh) (hd : decode M.2.2.1 pc = .ok (.lreturn, 1)) : z_At g M K pc L [.long v] sh := by
  intro H locs ls hW hS hl
  rw [ce.2.2.1]
  refine W.lret cx.1 cx.2.1 (ce.1.trans hr) (fun t ht hw => ⟨⟨_, sh, rfl, hp, by rw [ht]; exact hW⟩, by rw [← ce.2.2.2]; exact hS.F ht⟩) hS.2.2 hd ce.2.1
theorem z_return {g : z_G} {M : z_M} {d pc : Nat} {K : z_K} {L : List (Option Value)} {sh : z_H} {P : Option Value → z_H → Prop} (cx : z_C g M d K) (ce : z_E' g M P K) (hr : M.2.2.2.2 = none) (hp : P none sh) (hd : decode M.2.2.1 pc = .ok (.return_, 1)) : z_At g M K pc L [] sh := by
  intro H locs ls hW hS hl
  rw [ce.2.2.1]
  refine W.vret cx.1 cx.2.1 (ce.1.trans hr) (fun t ht hw => ⟨⟨_, sh, rfl, hp, by rw [ht]; exact hW⟩, by rw [← ce.2.2.2]; exact hS.F ht⟩) hS.2.2 hd ce.2.1
/-- a method that can be called: its code stands in the tables, its class is ready; n parameters -/
def z_mo (M : z_M) (n : Nat) : Prop := Cond.code M.2.1 M.2.2.1 M.2.2.2.1 M.2.2.2.2 ∈ z_TB ∧ Cond.initialized M.2.1.cls ∈ z_TB ∧ M.2.1.cls = M.1 ∧ (M.2.1.cls ≠ "java/lang/invoke/MethodHandle" ∧ M.2.1.cls ≠ "java/lang/invoke/VarHandle") ∧ (parseMethodDescriptor M.2.1.desc).map (fun d => d.parameters.length) = some n ∧ M.2.2.2.1 ≤ 31
def z_mv (M : z_M) : Prop := Cond.instanceMethod M.2.1 ∈ z_TB ∧ Cond.selects M.1 M.2.1 M.2.1 ∈ z_TB
def z_ms (M : z_M) : Prop := Cond.static M.2.1 ∈ z_TB
theorem z_callB {g : z_G} {M M' : z_M} {d d' n idx : Nat} {K : z_K} (cx : z_C g M d K) (hm : z_mo M' n) (hl0 : Cond.methodLink M.1 idx M'.2.1 ∈ z_TB) (hdd : d' + 1 ≤ d) : CallB (z_R K) (z_s K) (z_a K) M.1 idx M'.2.1 M'.2.2.1 M'.2.2.2.1 M'.2.2.2.2 (.code M'.2.1 M'.2.2.1 M'.2.2.2.1 M'.2.2.2.2 :: z_TB) (z_rm d') 0 0 n := by
  obtain ⟨h1, h2, -, h4, h5, h6⟩ := hm
  have q := cx.2.2.2.2.2.2.2
  have hT := cx.2.2.2.2.1
  refine ⟨rfl, rfl, by show d' + 1 ≤ _; omega, by show 8 + (_ + 11) + 50 * d' ≤ _; omega, ?_, List.mem_cons_self, hT _ h1, hT _ h2, h4, fun sig h => ?_, hT _ hl0⟩
  · have hp := pay_in hT z_TB_good
    intro w hw
    rcases List.mem_cons.mp hw with rfl | hw
    · exact hp _ h1
    · exact hp _ hw
  · rw [h] at h5
    exact (Option.some.inj h5).symm
theorem z_Pc_blind {g : z_G} {av : List Value} {sh : z_H} : FrameBlind (z_Pc g av sh) := by
  intro a U f mk q
  obtain ⟨q0, q1, q2⟩ := q
  exact ⟨q0, z_E.to (u := U) (U := U.calling f mk a) (H := U.heap) (Vm.Alike.refl U.vm) (fun _ _ _ => rfl) (fun _ h => h) q1, q2⟩
theorem z_pre {g : z_G} {M : z_M} {d : Nat} {K : z_K} {av : List Value} {sh : z_H} {H : Heap} {locs : List Loc} (cx : z_C g M d K) (hW : z_W g sh H) (hS : va_S (z_A K) (z_s K).heap H locs) : ∀ U : State, U.heap = H → (z_s K).WarmedH U.vm → z_Pc g av sh av.toArray U := by
  intro U hU hw
  refine ⟨rfl, ?_, by rw [hU]; exact hW⟩
  rw [hU]
  exact z_E.to hw.alike (fun a h1 h2 => hS.2.1 a h1 h2) (fun q h => by obtain ⟨k, hk, rfl⟩ := h; exact cx.2.2.2.2.2.2.1 k hk) cx.2.2.2.2.2.1
theorem z_back {g : z_G} {M : z_M} {d pc : Nat} {K : z_K} {L : List (Option Value)} {st0 rest : List Value} {P : Option Value → z_H → Prop} {a : Array Value} {H : Heap} {locs : List Loc} {ls : Array Slot} (cx : z_C g M d K)
    (hr : va_Run (z_p K) g.1 (z_e K) (z_R K) (z_s K) (z_m K) (z_a K) (z_b K) (z_me K) (z_c K) H locs (z_ce K) (z_sl K) 0 0 (F0 (z_m K) pc ls st0) rest (z_Qm g P a) (z_Ac g)) (hS : va_S (z_A K) (z_s K).heap H locs) (hl : z_l ls M.2.2.2.1 L)
    (k : ∀ (rv : Option Value) (sh1 : z_H), P rv sh1 → z_At g M K (pc + 3) L (rv.toList ++ rest) sh1) : W (z_p K) g.1 (z_e K) (z_R K) (z_s K) (z_m K) (z_a K) (z_b K) (z_me K) (z_c K) H locs (z_ce K) (z_sl K) (z_Q K) (F0 (z_m K) pc ls st0) := by
  intro T hT X
  have hcells : ∀ q, z_Ac g q → z_A K q := fun q h => by obtain ⟨k, hk, rfl⟩ := h; exact cx.2.2.2.2.2.2.1 k hk
  obtain ⟨v, st₀, t, T', Ls, h0, X', hL, e1, e2, ⟨⟨rv, sh1, hv, hp, hb⟩, hz, hk⟩, st⟩ := hr T hT X
  cases hv
  rw [h0] at hz hk
  obtain ⟨t2, a1, b1⟩ := k v sh1 hp T'.heap (locs ++ Ls) ls (by rw [e1]; exact hb) ⟨Nat.le_trans hS.1 (by rw [e1]; exact hz), fun q h1 h2 => by rw [e1, hk q (Nat.lt_of_lt_of_le h1 hS.1) (fun z => h2 (hcells q z))]; exact hS.2.1 q h1 h2, fun q hq => by
      rcases List.mem_append.mp hq with h | h
      · exact hS.2.2 q h
      · exact hcells _ (hL q h)⟩ hl T' rfl X'
  exact ⟨t2, st t2 a1, b1⟩
theorem z_fix {g : z_G} {M : z_M} {d : Nat} {K : z_K} (cx : z_C g M d K) : CallFix (z_p K) (z_m K) (z_c K) M.2.2.1 M.2.2.2.1 (z_s K) (z_a K) z_TB M.1 := ⟨cx.1, cx.2.1, cx.2.2.1, cx.2.2.2.1, cx.2.2.2.2.1⟩
theorem z_callv {g : z_G} {M M' : z_M} {d d' n idx pc b ci : Nat} {K : z_K} {L : List (Option Value)} {st0 st : List Value} {sh : z_H} {As : List Value} {fs : List Value} {C : String} {T : u_T} {N : Nat} {ty : Nat → FieldType} {P : Option Value → z_H → Prop} (cx : z_C g M d K) (hm : z_mo M' n) (hv : z_mv M') (hcl : z_cl ci C T N ty) (hC : C = M'.1) (hl0 : Cond.methodLink M.1 idx M'.2.1 ∈ z_TB) (hdd : d' + 1 ≤ d) (hn : As.length = n) (hb : b < NC) (hs : sh b = .inr (ci, fs)) (hst : st0 = As.reverse ++ .ref (z_ad g b) :: st) (hr : (st.map fun v => v.category).sum ≤ 8) (hd : decode M.2.2.1 pc = .ok (.invokevirtual idx, 3))
    (hc : z_Ct g M' d' (.ref (z_ad g b) :: As) sh P) (k : ∀ (rv : Option Value) (sh1 : z_H), P rv sh1 → z_At g M K (pc + 3) L (rv.toList ++ st) sh1) : z_At g M K pc L st0 sh := by
  intro H locs ls hW hS hl
  have hT := cx.2.2.2.2.1
  have q := cx.2.2.2.2.2.2.2
  subst hC
  refine z_back cx (va_runV (C := M'.1) (z_fix cx) hc ⟨z_callB cx hm hl0 hdd, hT _ hv.1, hT _ hv.2⟩ ⟨z_Pc_blind, va_recv cx.2.2.2.2.2.1.1 hW (ci := ci) (q0 := b) hcl.1 (by rw [z_ws_get hb, hs]), z_pre cx hW hS⟩ rfl hn hl.1 hst (lv_room hr) hd ⟨q.2.2.1, q.2.2.2⟩) hS hl k
theorem z_calls {g : z_G} {M M' : z_M} {d d' n idx pc : Nat} {K : z_K} {L : List (Option Value)} {st0 st : List Value} {sh : z_H} {As : List Value} {P : Option Value → z_H → Prop} (cx : z_C g M d K) (hm : z_mo M' n) (hv : z_ms M') (hl0 : Cond.methodLink M.1 idx M'.2.1 ∈ z_TB) (hdd : d' + 1 ≤ d) (hn : As.length = n) (hst : st0 = As.reverse ++ st) (hr : (st.map fun v => v.category).sum ≤ 8) (hd : decode M.2.2.1 pc = .ok (.invokestatic idx, 3))
    (hc : z_Ct g M' d' As sh P) (k : ∀ (rv : Option Value) (sh1 : z_H), P rv sh1 → z_At g M K (pc + 3) L (rv.toList ++ st) sh1) : z_At g M K pc L st0 sh := by
  intro H locs ls hW hS hl
  have hT := cx.2.2.2.2.1
  have q := cx.2.2.2.2.2.2.2
  refine z_back cx (va_runS (z_fix cx) hc ⟨z_callB cx hm hl0 hdd, hT _ hv⟩ ⟨z_Pc_blind, z_pre cx hW hS⟩ rfl hn hl.1 hst (lv_room hr) hd ⟨q.2.2.1, q.2.2.2⟩) hS hl k
