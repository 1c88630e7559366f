/-! WAYS: the class finds the shortest -/
theorem srT_s (m t : Nat) : srT m (t + 1) = srT m t ++ (if m.testBit t = true then [t] else []) := by
  unfold srT
  rw [List.range_succ, List.filter_append]
  by_cases c : m.testBit t = true
  · rw [if_pos c]; simp [c]
  · rw [if_neg c]; simp [c]
theorem ofP_l {q : List Nat} {t i : Nat} (h : i ≤ q.length) (h1 : 1 ≤ i) : ofP (q ++ [t]) i = ofP q i := by
  unfold ofP
  simp [List.getD, List.getElem?_append_left (show i - 1 < q.length by omega)]
theorem ofP_e (q : List Nat) (t : Nat) : ofP (q ++ [t]) (q.length + 1) = t := by
  unfold ofP
  simp [List.getD]
theorem e_bg80 {C : z_Stt} {F a z len : Nat} {q : List Nat} (hq : q.length = len) (hl : len ≤ 5) (hs : C.1 2802 = Int32.ofNat (1 + len)) (h0 : C.2.2.1 29 0 = Int32.ofNat a) (hr : ∀ i, 1 ≤ i → i ≤ len → C.2.2.1 29 i = Int32.ofNat (ofP q i)) : ∃ C', f_X7_begin_80 F (Int32.ofNat z) C = some ((), C') ∧ C'.1 2802 = Int32.ofNat (len + 2) ∧ repL (C'.2.2.1 29) (full a q z) := by
  refine ⟨sI (sA C 29 (upd (C.2.2.1 29) (1 + len) (Int32.ofNat z))) 2802 (Int32.ofNat (len + 2)), ?_, rI_same _ _ _, ?_⟩
  · have e : (sA C 29 (upd (C.2.2.1 29) (1 + len) (Int32.ofNat z))).1 2802 = Int32.ofNat (1 + len) := hs
    unfold f_X7_begin_80
    rw [hs, if_pos (v7n (by omega)), g_lets, on_tn (by omega), e, g_lets, on_s _ (by omega), show 1 + len + 1 = len + 2 by omega]
  · refine full_rep ?_ (fun i h1 h2 => ?_) ?_
    · show upd (C.2.2.1 29) (1 + len) (Int32.ofNat z) 0 = _
      rw [upd_ne (by omega)]; exact h0
    · show upd (C.2.2.1 29) (1 + len) (Int32.ofNat z) i = _
      rw [upd_ne (by omega)]; exact hr i h1 (by omega)
    · show upd (C.2.2.1 29) (1 + len) (Int32.ofNat z) (q.length + 1) = _
      rw [hq, show len + 1 = 1 + len by omega, upd_same]
theorem e_bg {F a z R m : Nat} (ha : a < 6) (hz : z < 6) (hR : R < 64) (hm : m < 63) (hb : ∀ t, t < 6 → (m.testBit t = true ↔ R.testBit t = true ∧ ¬ t = a ∧ ¬ t = z)) : ∀ (j t mm : Nat) (C : z_Stt), t + j = 6 → j < mm → C.1 2802 = Int32.ofNat (1 + (srT m t).length) → C.2.2.1 29 0 = Int32.ofNat a → (∀ i, 1 ≤ i → i ≤ (srT m t).length → C.2.2.1 29 i = Int32.ofNat (ofP (srT m t) i)) → ∃ C', f_X7_begin_15 F mm (Int32.ofNat a) (Int32.ofNat z) (Int32.ofNat R) (Int32.ofNat t) C = some ((), C') ∧ C'.1 2802 = Int32.ofNat ((srT m 6).length + 2) ∧ repL (C'.2.2.1 29) (full a (srT m 6) z) := by
  intro j
  induction j with
  | zero =>
    intro t mm C ht hmm hs h0 hr
    obtain ⟨mm, rfl⟩ : ∃ q, mm = q + 1 := ⟨mm - 1, by omega⟩
    have e6 : t = 6 := by omega
    subst e6
    obtain ⟨l1, -⟩ := srt_le ⟨m, hm⟩ ⟨6, by decide⟩
    obtain ⟨C', z1, z2, z3⟩ := e_bg80 (F := F) (z := z) (q := srT m 6) rfl l1 hs h0 hr
    exact ⟨C', by rw [f_X7_begin_15, if_pos (by decide +kernel)]; exact z1, z2, z3⟩
  | succ j ih =>
    intro t mm C ht hmm hs h0 hr
    obtain ⟨mm, rfl⟩ : ∃ q, mm = q + 1 := ⟨mm - 1, by omega⟩
    have t6 : t < 6 := by omega
    obtain ⟨l1, -⟩ := srt_le ⟨m, hm⟩ ⟨t, by omega⟩
    have l1' : (srT m t).length ≤ 5 := l1
    have n6 : ¬ 6 ≤ Int32.ofNat t := by rw [on_6le (by omega)]; omega
    by_cases c : 6 ≤ 1 + (srT m t).length
    · have l5 : (srT m t).length = 5 := by omega
      have es : srT m t = srT m 6 := srt_5 ⟨m, hm⟩ ⟨t, by omega⟩ l5
      rw [es] at hs hr l1'
      obtain ⟨C', z1, z2, z3⟩ := e_bg80 (F := F) (z := z) (q := srT m 6) rfl l1' hs h0 hr
      refine ⟨C', ?_, z2, z3⟩
      rw [es] at c
      rw [f_X7_begin_15, if_neg n6, hs, if_pos (by rw [on_6le (by omega)]; exact c)]
      exact z1
    · have sk : ¬ m.testBit t = true → f_X7_begin_15 F (mm + 1) (Int32.ofNat a) (Int32.ofNat z) (Int32.ofNat R) (Int32.ofNat t) C = f_X7_begin_74 F (f_X7_begin_15 F mm) (Int32.ofNat a) (Int32.ofNat z) (Int32.ofNat R) (Int32.ofNat t) C := by
        intro nb
        rw [f_X7_begin_15, if_neg n6, hs, if_neg (by rw [on_6le (by omega)]; exact c)]
        by_cases r1 : R.testBit t = true
        · rw [if_pos ((inN hR t6).mpr r1)]
          by_cases r2 : t = a
          · rw [if_pos (by rw [on_ij (by omega) (by omega)]; exact r2)]
          · rw [if_neg (by rw [on_ij (by omega) (by omega)]; exact r2)]
            by_cases r3 : t = z
            · rw [if_pos (by rw [on_ij (by omega) (by omega)]; exact r3)]
            · exact absurd ((hb t t6).mpr ⟨r1, r2, r3⟩) nb
        · rw [if_neg (fun q => r1 ((inN hR t6).mp q))]
      by_cases b : m.testBit t = true
      · obtain ⟨r1, r2, r3⟩ := (hb t t6).mp b
        have es := srT_s m t
        rw [if_pos b] at es
        have el : (srT m (t + 1)).length = (srT m t).length + 1 := by rw [es]; simp
        obtain ⟨C', z1, z2⟩ := ih (t + 1) mm (sI (sA C 29 (upd (C.2.2.1 29) (1 + (srT m t).length) (Int32.ofNat t))) 2802 (Int32.ofNat (1 + (srT m t).length + 1))) (by omega) (by omega) (by rw [rI_same, el]; congr 1) (by
            show upd (C.2.2.1 29) (1 + (srT m t).length) (Int32.ofNat t) 0 = _
            rw [upd_ne (by omega)]; exact h0) (fun i h1 h2 => by
            show upd (C.2.2.1 29) (1 + (srT m t).length) (Int32.ofNat t) i = _
            rw [el] at h2
            by_cases e : i = 1 + (srT m t).length
            · rw [e, upd_same, es, show 1 + (srT m t).length = (srT m t).length + 1 by omega, ofP_e]
            · rw [upd_ne e, es, ofP_l (by omega) h1]; exact hr i h1 (by omega))
        refine ⟨C', ?_, z2⟩
        have e2 : (sA C 29 (upd (C.2.2.1 29) (1 + (srT m t).length) (Int32.ofNat t))).1 2802 = Int32.ofNat (1 + (srT m t).length) := hs
        rw [f_X7_begin_15, if_neg n6, hs, if_neg (by rw [on_6le (by omega)]; exact c), if_pos ((inN hR t6).mpr r1), if_neg (by rw [on_ij (by omega) (by omega)]; exact r2), if_neg (by rw [on_ij (by omega) (by omega)]; exact r3), if_pos (v7n (by omega)), g_lets, on_tn (by omega), e2, g_lets, f_X7_begin_74, on_s t (by omega), on_s (1 + (srT m t).length) (by omega)]
        exact z1
      · have es := srT_s m t
        rw [if_neg b, List.append_nil] at es
        obtain ⟨C', z1, z2⟩ := ih (t + 1) mm C (by omega) (by omega) (by rw [es]; exact hs) h0 (by rw [es]; exact hr)
        refine ⟨C', ?_, z2⟩
        rw [sk b, f_X7_begin_74, on_s t (by omega)]
        exact z1
theorem q_bg {F a z R m : Nat} (hF : 10 < F) (ha : a < 6) (hz : z < 6) (hR : R < 64) (hm : m < 63) (hb : ∀ t, t < 6 → (m.testBit t = true ↔ R.testBit t = true ∧ ¬ t = a ∧ ¬ t = z)) (C : z_Stt) : ∃ C', f_X7_begin F (Int32.ofNat a) (Int32.ofNat z) (Int32.ofNat R) C = some ((), C') ∧ C'.1 2802 = Int32.ofNat ((srT m 6).length + 2) ∧ repL (C'.2.2.1 29) (full a (srT m 6) z) := by
  have l7 : ¬ ((0 : Int32) < 0 ∨ 7 ≤ (0 : Int32).toNatClampNeg) := by decide +kernel
  obtain ⟨C', z1, z2⟩ := e_bg (F := F) ha hz hR hm hb 6 0 F (sI (sA C 29 (upd (C.2.2.1 29) 0 (Int32.ofNat a))) 2802 1) (by omega) (by omega) (rI_same _ _ _) (upd_same (C.2.2.1 29) 0 (Int32.ofNat a)) (fun i h1 h2 => absurd h2 (by have e : (srT m 0).length = 0 := rfl; omega))
  refine ⟨C', ?_, z2⟩
  unfold f_X7_begin
  rw [if_pos l7, g_lets, g_lets]
  exact z1
/-- the better of what is known and one order more -/
def bfF (S : z_Stt) (a z : Nat) (st : Int32 × List Nat) (p : List Nat) : Int32 × List Nat := if st.1 ≤ ydL S 0 (full a p z) then st else (ydL S 0 (full a p z), full a p z)
theorem ofP_6 {p : List Nat} (h : all6 p) (i : Nat) : ofP p i ≤ 5 := by
  have := get6 h (i - 1)
  unfold ofP; omega
theorem toP_g {o : Nat → Nat} {k i : Nat} (h1 : 1 ≤ i) (h2 : i ≤ k) : ofP (toP o k) i = o i := by
  unfold ofP toP
  simp [List.getD, List.getElem?_range (show i - 1 < k by omega)]
  congr 1; omega
theorem e_f24 {S : z_Stt} {F a z k : Nat} (hF : 10 < F) (ha : a < 6) (hz : z < 6) (hk : k ≤ 5) : ∀ (rest : List (List Nat)) (p : List Nat) (i m : Nat) (C : z_Stt) (st : Int32 × List Nat), chk k (p :: rest) = true → (∀ q ∈ p :: rest, q.length = k ∧ all6 q) → i + rest.length ≤ 120 → rest.length < m → agQ S C → C.1 2802 = Int32.ofNat (k + 2) → repL (C.2.2.1 29) (full a p z) → C.1 2803 = st.1 → repL (C.2.2.1 30) st.2 → ∃ C', f_X7_find_24 F m (Int32.ofNat i) C = some ((), C') ∧ C'.1 2803 = (rest.foldl (bfF S a z) st).1 ∧ repL (C'.2.2.1 30) (rest.foldl (bfF S a z) st).2 ∧ C'.1 2802 = Int32.ofNat (k + 2) := by
  intro rest
  induction rest with
  | nil =>
    intro p i m C st hc hl hi hm ag hs hp hy hb
    obtain ⟨m, rfl⟩ : ∃ q, m = q + 1 := ⟨m - 1, by omega⟩
    have pl := (hl p (by simp)).1
    have p6 := (hl p (by simp)).2
    obtain ⟨f1, f2, f3⟩ := rep_full hp
    have rp : repP (C.2.2.1 29) (ofP p) k := fun i h1 h2 => ⟨f2 i h1 (by omega), ofP_6 p6 i⟩
    have nn : nxF (ofP p) k = none := by
      have : (nxF (ofP p) k).isNone = true := hc
      cases e : nxF (ofP p) k with
      | none => rfl
      | some o => rw [e] at this; cases this
    refine ⟨C, ?_, hy, hb, hs⟩
    by_cases c : 120 ≤ i
    · rw [f_X7_find_24, if_pos (by rw [on_120 (by omega)]; exact c)]
    · rw [f_X7_find_24, if_neg (by rw [on_120 (by omega)]; exact c), (e_nx hF hk hs rp).1 nn, g_bds, if_neg (by decide)]
  | cons q r ih =>
    intro p i m C st hc hl hi hm ag hs hp hy hb
    obtain ⟨m, rfl⟩ : ∃ q, m = q + 1 := ⟨m - 1, by omega⟩
    have lr : (q :: r).length = r.length + 1 := rfl
    have pl := (hl p (by simp)).1
    have p6 := (hl p (by simp)).2
    have ql := (hl q (by simp)).1
    have q6 := (hl q (by simp)).2
    obtain ⟨f1, f2, f3⟩ := rep_full hp
    have rp : repP (C.2.2.1 29) (ofP p) k := fun i h1 h2 => ⟨f2 i h1 (by omega), ofP_6 p6 i⟩
    have hc' : ((match nxF (ofP p) k with | none => false | some o => decide (toP o k = q)) && chk k (q :: r)) = true := hc
    rw [Bool.and_eq_true] at hc'
    obtain ⟨hc1, hc2⟩ := hc'
    cases e : nxF (ofP p) k with
    | none => rw [e] at hc1; cases hc1
    | some o =>
      rw [e] at hc1
      have eq : toP o k = q := of_decide_eq_true hc1
      obtain ⟨g, n1, n2, n3, n4⟩ := (e_nx (F := F) hF hk hs rp).2 o e
      have a1 := ag.trans (fq_X7_nextOrder _ n1)
      have rq : repL g (full a q z) := by
        refine full_rep (n3.trans f1) (fun i h1 h2 => ?_) ?_
        · rw [ql] at h2
          rw [(n2 i h1 h2).1, ← eq, toP_g h1 h2]
        · rw [ql, n4, ← pl]; exact f3
      have yl := q_yo (F := F) a1 (full_6 ha hz q6) (by rw [full_len]; omega) (by rw [full_len, ql]; omega) (by rw [full_len, ql]; exact hs) rq hF
      have n120 : ¬ 120 ≤ Int32.ofNat i := by rw [on_120 (by omega)]; omega
      have y3 : (sA C 29 g).1 2803 = st.1 := hy
      have fo : (q :: r).foldl (bfF S a z) st = r.foldl (bfF S a z) (bfF S a z st q) := rfl
      rw [fo]
      by_cases c : st.1 ≤ ydL S 0 (full a q z)
      · have eb : bfF S a z st q = st := by unfold bfF; rw [if_pos c]
        rw [eb]
        obtain ⟨C', z1, z2⟩ := ih q (i + 1) m (sA C 29 g) st hc2 (fun w hw => hl w (by simp at hw ⊢; exact Or.inr hw)) (by omega) (by omega) a1 hs rq y3 hb
        refine ⟨C', ?_, z2⟩
        rw [f_X7_find_24, if_neg n120, n1, g_bds, if_pos rfl, yl, g_bds, y3, if_pos c, f_X7_find_64, on_s i (by omega)]
        exact z1
      · have eb : bfF S a z st q = (ydL S 0 (full a q z), full a q z) := by unfold bfF; rw [if_neg c]
        rw [eb]
        have kp := q_ko hF (sI (sA C 29 g) 2803 (ydL S 0 (full a q z)))
        have a2 : agQ S (sI (sA C 29 g) 2803 (ydL S 0 (full a q z))) := a1.lsI rfl (by decide)
        have a3 := a2.trans (fq_X7_keepOrder _ kp)
        obtain ⟨C', z1, z2⟩ := ih q (i + 1) m _ (ydL S 0 (full a q z), full a q z) hc2 (fun w hw => hl w (by simp at hw ⊢; exact Or.inr hw)) (by omega) (by omega) a3 hs rq rfl (ko_rep (by rw [full_len, ql]; omega) rq)
        refine ⟨C', ?_, z2⟩
        rw [f_X7_find_24, if_neg n120, n1, g_bds, if_pos rfl, yl, g_bds, y3, if_neg c, g_lets, kp, g_bds, f_X7_find_64, on_s i (by omega)]
        exact z1
