/-! WAYS: the orders of rooms, one after the other -/
def pmL : Nat → Nat → List (List Nat)
  | 0, _ => [[]]
  | f + 1, m => if m = 0 then [[]] else (List.range 6).flatMap fun r => if m.testBit r = true then (pmL f (dif m (2 ^ r))).map (fun q => r :: q) else []
def swF (o : Nat → Nat) (i j : Nat) : Nat → Nat := fun x => if x = j then o i else if x = i then o j else o x
def falF (o : Nat → Nat) : Nat → Nat
  | 0 => 0
  | x + 1 => if x + 1 ≤ 1 then x + 1 else if o x ≤ o (x + 1) then x + 1 else falF o x
def morF (o : Nat → Nat) (fa : Nat) : Nat → Nat
  | 0 => 0
  | x + 1 => if x + 1 ≤ fa then x + 1 else if o (fa - 1) ≤ o (x + 1) then x + 1 else morF o fa x
def revF (fa last : Nat) : Nat → Nat → (Nat → Nat) → Nat → Nat
  | 0, _, o => o
  | f + 1, i, o => if last - i ≤ fa + i then o else revF fa last f (i + 1) (swF o (fa + i) (last - i))
def nxF (o : Nat → Nat) (k : Nat) : Option (Nat → Nat) := if falF o k ≤ 1 then none else some (revF (falF o k) k 4 0 (swF o (falF o k - 1) (morF o (falF o k) k)))
def ofP (p : List Nat) : Nat → Nat := fun i => p.getD (i - 1) 0
def toP (o : Nat → Nat) (k : Nat) : List Nat := (List.range k).map (fun i => o (i + 1))
def chk (k : Nat) : List (List Nat) → Bool
  | [] => false
  | [p] => (nxF (ofP p) k).isNone
  | p :: q :: r => (match nxF (ofP p) k with | none => false | some o => decide (toP o k = q)) && chk k (q :: r)
theorem chk_all : ∀ m : Fin 63, chk (pcN m.val) (pmL 6 m.val) = true := by decide +kernel
theorem len_all : ∀ m : Fin 63, (pmL 6 m.val).length ≤ 120 ∧ ∀ p ∈ pmL 6 m.val, p.length = pcN m.val ∧ ∀ r ∈ p, r < 6 := by decide +kernel
def srT (m t : Nat) : List Nat := (List.range t).filter (fun r => m.testBit r)
theorem fst_all : ∀ m : Fin 63, (pmL 6 m.val).head? = some (srT m.val 6) := by decide +kernel
theorem srt_5 : ∀ m : Fin 63, ∀ t : Fin 7, (srT m.val t.val).length = 5 → srT m.val t.val = srT m.val 6 := by decide +kernel
theorem srt_le : ∀ m : Fin 63, ∀ t : Fin 7, (srT m.val t.val).length ≤ 5 ∧ (∀ r ∈ srT m.val t.val, r < 6) := by decide +kernel
theorem pc_5 : ∀ m : Fin 63, pcN m.val ≤ 5 ∧ (srT m.val 6).length = pcN m.val := by decide +kernel
theorem pc_d : ∀ m : Fin 64, ∀ r : Fin 6, m.val.testBit r.val = true → pcN (dif m.val (2 ^ r.val)) + 1 = pcN m.val ∧ dif m.val (2 ^ r.val) < 64 := by decide +kernel
theorem pc_z : ∀ m : Fin 64, pcN m.val = 0 → m.val = 0 := by decide +kernel
/-- what the class's order holds between its ends -/
def repP (f : Nat → Int32) (o : Nat → Nat) (k : Nat) : Prop := ∀ i, 1 ≤ i → i ≤ k → f i = Int32.ofNat (o i) ∧ o i ≤ 5
theorem v7n {i : Nat} (h : i < 7) : ¬ (Int32.ofNat i < 0 ∨ 7 ≤ (Int32.ofNat i).toNatClampNeg) := by
  rw [vp_7]
  have i7 : (7 : Int32).toInt = 7 := rfl
  exact ⟨on_p0 (by omega), by rw [Int32.lt_iff_toInt_lt, on_ti (by omega), i7]; omega⟩
theorem v7m {i : Nat} (h : i < 7) : ¬ (Int32.ofNat i < 0 ∨ 7 ≤ i) := by
  have q := v7n h
  rw [on_tn (by omega)] at q; exact q
theorem on_1 {i : Nat} (h : i ≤ 2000) : (Int32.ofNat i ≤ 1) = (i ≤ 1) := on_le (b := 1) h (by omega)
theorem on_m1 (c : Nat) (h : c ≤ 2000) : Int32.ofNat (c + 1) + (-1) = Int32.ofNat c := by rw [← on_s c h]; lia
theorem e_n9 {F k : Nat} {C : z_Stt} {o : Nat → Nat} (hk : k ≤ 5) (r : repP (C.2.2.1 29) o k) : ∀ (x m : Nat), x ≤ k → x < m → f_X7_nextOrder_9 F m (Int32.ofNat k) (Int32.ofNat x) C = f_X7_nextOrder_37 F (Int32.ofNat k) (Int32.ofNat (falF o x)) C ∧ falF o x ≤ x := by
  intro x
  induction x with
  | zero =>
    intro m hx hm
    obtain ⟨m, rfl⟩ : ∃ q, m = q + 1 := ⟨m - 1, by omega⟩
    exact ⟨by rw [f_X7_nextOrder_9, if_pos (by decide +kernel), falF], by rw [falF]; exact Nat.le_refl _⟩
  | succ x ih =>
    intro m hx hm
    obtain ⟨m, rfl⟩ : ∃ q, m = q + 1 := ⟨m - 1, by omega⟩
    by_cases c : x + 1 ≤ 1
    · rw [f_X7_nextOrder_9, if_pos (by rw [on_1 (by omega)]; exact c), falF, if_pos c]
      exact ⟨rfl, Nat.le_refl _⟩
    · obtain ⟨e1, e2⟩ := r x (by omega) (by omega)
      obtain ⟨e3, e4⟩ := r (x + 1) (by omega) (by omega)
      rw [f_X7_nextOrder_9, if_neg (by rw [on_1 (by omega)]; exact c), on_d x (by omega), if_pos (v7n (by omega)), if_pos (v7n (by omega)), on_tn (by omega), on_tn (by omega), e1, e3, falF, if_neg c]
      by_cases q : o x ≤ o (x + 1)
      · rw [if_pos (by rw [on_le (by omega) (by omega)]; exact q), if_pos q]
        exact ⟨rfl, Nat.le_refl _⟩
      · rw [if_neg (by rw [on_le (by omega) (by omega)]; exact q), if_neg q, on_m1 x (by omega)]
        obtain ⟨z1, z2⟩ := ih m (by omega) (by omega)
        exact ⟨z1, by omega⟩
theorem e_n46 {F k fa : Nat} {C : z_Stt} {o : Nat → Nat} (hk : k ≤ 5) (r : repP (C.2.2.1 29) o k) (h1 : 2 ≤ fa) (h2 : fa ≤ k) : ∀ (x m : Nat), x ≤ k → x < m → f_X7_nextOrder_46 F m (Int32.ofNat k) (Int32.ofNat fa) (Int32.ofNat x) C = f_X7_nextOrder_74 F (Int32.ofNat k) (Int32.ofNat fa) (Int32.ofNat (morF o fa x)) C ∧ morF o fa x ≤ x ∧ (fa ≤ x → fa ≤ morF o fa x) := by
  intro x
  induction x with
  | zero =>
    intro m hx hm
    obtain ⟨m, rfl⟩ : ∃ q, m = q + 1 := ⟨m - 1, by omega⟩
    refine ⟨by rw [f_X7_nextOrder_46, if_pos (by rw [on_le (by omega) (by omega)]; omega), morF], by rw [morF]; exact Nat.le_refl _, fun q => absurd q (by omega)⟩
  | succ x ih =>
    intro m hx hm
    obtain ⟨m, rfl⟩ : ∃ q, m = q + 1 := ⟨m - 1, by omega⟩
    obtain ⟨f, ef⟩ : ∃ f, fa = f + 1 := ⟨fa - 1, by omega⟩
    by_cases c : x + 1 ≤ fa
    · rw [f_X7_nextOrder_46, if_pos (by rw [on_le (by omega) (by omega)]; exact c), morF, if_pos c]
      exact ⟨rfl, Nat.le_refl _, fun q => q⟩
    · obtain ⟨e1, e2⟩ := r (fa - 1) (by omega) (by omega)
      obtain ⟨e3, e4⟩ := r (x + 1) (by omega) (by omega)
      have ed : Int32.ofNat fa - 1 = Int32.ofNat (fa - 1) := by rw [ef]; exact on_d f (by omega)
      rw [f_X7_nextOrder_46, if_neg (by rw [on_le (by omega) (by omega)]; exact c), ed, if_pos (v7n (by omega)), if_pos (v7n (by omega)), on_tn (by omega), on_tn (by omega), e1, e3, morF, if_neg c]
      by_cases q : o (fa - 1) ≤ o (x + 1)
      · rw [if_pos (by rw [on_le (by omega) (by omega)]; exact q), if_pos q]
        exact ⟨rfl, Nat.le_refl _, fun w => w⟩
      · rw [if_neg (by rw [on_le (by omega) (by omega)]; exact q), if_neg q, on_m1 x (by omega)]
        obtain ⟨z1, z2, z3⟩ := ih m (by omega) (by omega)
        exact ⟨z1, by omega, fun w => z3 (by omega)⟩
def swA (f : Nat → Int32) (i j : Nat) : Nat → Int32 := upd (upd f i (f j)) j (f i)
theorem e_swap {C : z_Stt} {i j : Nat} (hi : i < 7) (hj : j < 7) : f_X7_swap (Int32.ofNat i) (Int32.ofNat j) C = some ((), sA C 29 (swA (C.2.2.1 29) i j)) := by
  have e : ∀ f, (sA C 29 f).2.2.1 29 = f := fun _ => rfl
  unfold f_X7_swap
  rw [if_pos (v7n hi), if_pos (v7n hj), if_pos (v7n hi), g_lets, if_pos (v7n hj), g_lets, e, sA_sA, on_tn (by omega), on_tn (by omega)]
  rfl
theorem swA_rep {f : Nat → Int32} {o : Nat → Nat} {k i j : Nat} (r : repP f o k) (hi : 1 ≤ i ∧ i ≤ k) (hj : 1 ≤ j ∧ j ≤ k) : repP (swA f i j) (swF o i j) k ∧ swA f i j 0 = f 0 ∧ swA f i j (k + 1) = f (k + 1) := by
  refine ⟨fun x h1 h2 => ?_, ?_, ?_⟩
  · unfold swA swF upd
    by_cases c : x = j
    · rw [if_pos c, if_pos c]; exact r i hi.1 hi.2
    · rw [if_neg c, if_neg c]
      by_cases d : x = i
      · rw [if_pos d, if_pos d]; exact r j hj.1 hj.2
      · rw [if_neg d, if_neg d]; exact r x h1 h2
  · unfold swA; rw [upd_ne (by omega), upd_ne (by omega)]
  · unfold swA; rw [upd_ne (by omega), upd_ne (by omega)]
theorem e_n85 {F k fa : Nat} (hk : k ≤ 5) (h1 : 2 ≤ fa) (h2 : fa ≤ k) : ∀ (f i m : Nat) (C : z_Stt) (o : Nat → Nat), i + f = 4 → i ≤ 2 → f < m → repP (C.2.2.1 29) o k → ∃ g : Nat → Int32, f_X7_nextOrder_85 F m (Int32.ofNat k) (Int32.ofNat fa) (Int32.ofNat i) C = some (true, sA C 29 g) ∧ repP g (revF fa k f i o) k ∧ g 0 = C.2.2.1 29 0 ∧ g (k + 1) = C.2.2.1 29 (k + 1) := by
  intro f
  induction f with
  | zero => intro i m C o hi hi2; omega
  | succ f ih =>
    intro i m C o hi hi2 hm r
    obtain ⟨m, rfl⟩ : ∃ q, m = q + 1 := ⟨m - 1, by omega⟩
    have s1 : Int32.ofNat k - Int32.ofNat i = Int32.ofNat (k - i) := by
      rw [← Int32.toInt_inj, Int32.toInt_sub, on_ti (by omega), on_ti (by omega), on_ti (by omega)]
      rw [Int.bmod_eq_of_le (by omega) (by omega)]; omega
    have s2 : Int32.ofNat fa + Int32.ofNat i = Int32.ofNat (fa + i) := by
      rw [← Int32.toInt_inj, ti_add (by rw [on_ti (by omega), on_ti (by omega)]; omega), on_ti (by omega), on_ti (by omega), on_ti (by omega)]; omega
    rw [f_X7_nextOrder_85, s1, s2, revF]
    by_cases c : k - i ≤ fa + i
    · rw [if_pos (by rw [on_le (by omega) (by omega)]; exact c), if_pos c]
      exact ⟨C.2.2.1 29, by rw [sA_self], r, rfl, rfl⟩
    · rw [if_neg (by rw [on_le (by omega) (by omega)]; exact c), if_neg c, e_swap (by omega) (by omega), g_bds, on_s i (by omega)]
      obtain ⟨r1, r2, r3⟩ := swA_rep (i := fa + i) (j := k - i) r ⟨by omega, by omega⟩ ⟨by omega, by omega⟩
      obtain ⟨g, z1, z2, z3, z4⟩ := ih (i + 1) m (sA C 29 (swA (C.2.2.1 29) (fa + i) (k - i))) (swF o (fa + i) (k - i)) (by omega) (by omega) (by omega) r1
      rw [sA_sA] at z1
      exact ⟨g, z1, z2, z3.trans r2, z4.trans r3⟩
theorem e_nx {F k : Nat} (hF : 10 < F) {C : z_Stt} {o : Nat → Nat} (hk : k ≤ 5) (hs : C.1 2802 = Int32.ofNat (k + 2)) (r : repP (C.2.2.1 29) o k) : (nxF o k = none → f_X7_nextOrder F C = some (false, C)) ∧ ∀ o', nxF o k = some o' → ∃ g : Nat → Int32, f_X7_nextOrder F C = some (true, sA C 29 g) ∧ repP g o' k ∧ g 0 = C.2.2.1 29 0 ∧ g (k + 1) = C.2.2.1 29 (k + 1) := by
  have e2 : Int32.ofNat (k + 2) - 2 = Int32.ofNat k := by rw [← on_s2 k (by omega)]; lia
  obtain ⟨n1, n2⟩ := e_n9 (F := F) hk r k F (Nat.le_refl _) (by omega)
  have u : f_X7_nextOrder F C = f_X7_nextOrder_37 F (Int32.ofNat k) (Int32.ofNat (falF o k)) C := by
    unfold f_X7_nextOrder
    rw [hs, e2]; exact n1
  have i1 : (1 : Int32).toInt = 1 := rfl
  unfold nxF
  by_cases c : falF o k ≤ 1
  · rw [if_pos c]
    refine ⟨fun _ => ?_, fun o' h => (by cases h)⟩
    rw [u]
    unfold f_X7_nextOrder_37
    rw [if_neg (by rw [Int32.lt_iff_toInt_lt, i1, on_ti (by omega)]; omega)]
  · rw [if_neg c]
    refine ⟨fun h => (by cases h), fun o' h => ?_⟩
    cases h
    obtain ⟨m1, m2, m3⟩ := e_n46 (F := F) hk r (by omega) n2 k F (Nat.le_refl _) (by omega)
    have m4 := m3 n2
    obtain ⟨f, ef⟩ : ∃ f, falF o k = f + 1 := ⟨falF o k - 1, by omega⟩
    have ed : Int32.ofNat (falF o k) - 1 = Int32.ofNat (falF o k - 1) := by rw [ef]; exact on_d f (by omega)
    obtain ⟨r1, r2, r3⟩ := swA_rep (i := falF o k - 1) (j := morF o (falF o k) k) r ⟨by omega, by omega⟩ ⟨by omega, by omega⟩
    obtain ⟨g, z1, z2, z3, z4⟩ := e_n85 (F := F) hk (by omega) n2 4 0 F (sA C 29 (swA (C.2.2.1 29) (falF o k - 1) (morF o (falF o k) k))) _ (by omega) (by omega) (by omega) r1
    rw [sA_sA] at z1
    refine ⟨g, ?_, z2, z3.trans r2, z4.trans r3⟩
    rw [u]
    unfold f_X7_nextOrder_37
    rw [if_pos (by rw [Int32.lt_iff_toInt_lt, i1, on_ti (by omega)]; omega), m1]
    unfold f_X7_nextOrder_74
    rw [ed, e_swap (by omega) (by omega), g_bds]
    exact z1
