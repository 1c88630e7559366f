/-! SHORTEST -/
def btw (a z R : Nat) : Nat := dif R (2 ^ a ||| 2 ^ z)
theorem bt_all : ∀ a z : Fin 6, ∀ R : Fin 64, (Int32.ofNat R.val &&& (((1 <<< (Int32.ofNat a.val &&& 31)) ||| (1 <<< (Int32.ofNat z.val &&& 31))) ^^^ (-1))) = Int32.ofNat (btw a.val z.val R.val) ∧ btw a.val z.val R.val < 63 ∧ ∀ t : Fin 6, ((btw a.val z.val R.val).testBit t.val = true ↔ R.val.testBit t.val = true ∧ ¬ t.val = a.val ∧ ¬ t.val = z.val) := by decide +kernel
theorem ydL_ok {S : z_Stt} (h : Inv S) : ∀ (l : List Nat) (acc : Int32) (c : Nat), all6 l → c + l.length ≤ 100 → 0 ≤ acc.toInt → acc.toInt ≤ 99 * c → 0 ≤ (ydL S acc l).toInt
  | [], _, _, _, _, h0, _ => h0
  | [_], _, _, _, _, h0, _ => h0
  | x :: y :: r, acc, c, h6, hl, h0, h1 => by
    have w := wy_ok h (h6 x (by simp)) (h6 y (by simp))
    have l2 : (x :: y :: r).length = (y :: r).length + 1 := rfl
    have e : (acc + wy S x y).toInt = acc.toInt + (wy S x y).toInt := ti_add (by omega)
    exact ydL_ok h (y :: r) (acc + wy S x y) (c + 1) (fun q hq => h6 q (by simp at hq ⊢; exact Or.inr hq)) (by omega) (by rw [e]; omega) (by rw [e]; omega)
theorem cost_0 {S : z_Stt} (h : Inv S) {a z k : Nat} (ha : a < 6) (hz : z < 6) {p : List Nat} (p6 : all6 p) (hl : p.length = k) (hk : k ≤ 5) : 0 ≤ (ydL S 0 (full a p z)).toInt := by
  refine ydL_ok h _ 0 0 (full_6 ha hz p6) (by rw [full_len]; omega) (by decide +kernel) (by decide +kernel)
theorem fold_rel {S : z_Stt} (h : Inv S) {a z k : Nat} (ha : a < 6) (hz : z < 6) (hk : k ≤ 5) : ∀ (tail : List (List Nat)) (y : Int32) (p : List Nat), (∀ q ∈ tail, q.length = k ∧ all6 q) → (p.length = k ∧ all6 p) → 0 ≤ y.toInt → tail.foldl (bfF S a z) (y, full a p z) = ((tail.foldl (rfF S a z) (y, p)).1, full a (tail.foldl (rfF S a z) (y, p)).2 z) ∧ 0 ≤ (tail.foldl (rfF S a z) (y, p)).1.toInt ∧ (tail.foldl (rfF S a z) (y, p)).2.length = k ∧ all6 (tail.foldl (rfF S a z) (y, p)).2 := by
  intro tail
  induction tail with
  | nil => intro y p _ hp hy; exact ⟨rfl, hy, hp.1, hp.2⟩
  | cons q r ih =>
    intro y p hl hp hy
    have ql := hl q (by simp)
    have c0 := cost_0 h ha hz ql.2 ql.1 hk
    have n0 : ¬ y < 0 := by rw [Int32.lt_iff_toInt_lt, z0_32]; omega
    show r.foldl (bfF S a z) (bfF S a z (y, full a p z) q) = ((r.foldl (rfF S a z) (rfF S a z (y, p) q)).1, full a (r.foldl (rfF S a z) (rfF S a z (y, p) q)).2 z) ∧ 0 ≤ (r.foldl (rfF S a z) (rfF S a z (y, p) q)).1.toInt ∧ (r.foldl (rfF S a z) (rfF S a z (y, p) q)).2.length = k ∧ all6 (r.foldl (rfF S a z) (rfF S a z (y, p) q)).2
    have hr : ∀ w ∈ r, w.length = k ∧ all6 w := fun w hw => hl w (by simp; exact Or.inr hw)
    by_cases c : y ≤ ydL S 0 (full a q z)
    · have e1 : bfF S a z (y, full a p z) q = (y, full a p z) := by unfold bfF; rw [if_pos c]
      have e2 : rfF S a z (y, p) q = (y, p) := by unfold rfF; rw [if_neg n0, if_pos c]
      rw [e1, e2]
      exact ih y p hr hp hy
    · have e1 : bfF S a z (y, full a p z) q = (ydL S 0 (full a q z), full a q z) := by unfold bfF; rw [if_neg c]
      have e2 : rfF S a z (y, p) q = (ydL S 0 (full a q z), q) := by unfold rfF; rw [if_neg n0, if_neg c]
      rw [e1, e2]
      exact ih _ q hr ql c0
/-- the shortest way of both: its yards, its order -/
theorem q_way {S : z_Stt} (h : Inv S) {F : Nat} (hF : 130 < F) {a z R : Nat} (ha : a < 6) (hz : z < 6) (hR : R < 64) : ∃ (v : Int32) (bp : List Nat), bp.length = pcN (btw a z R) ∧ (∀ C, agQ S C → ∃ C', f_X7_find F (Int32.ofNat a) (Int32.ofNat z) (Int32.ofNat R) C = some ((), C') ∧ C'.1 2803 = v ∧ repL (C'.2.2.1 30) (full a bp z) ∧ C'.1 2802 = Int32.ofNat (pcN (btw a z R) + 2)) ∧ ∀ T, agQ S T → ∃ T', f_X11_shortestOf F (Int32.ofNat a) (Int32.ofNat z) (Int32.ofNat R) T = some (v, T') ∧ agQ S T' ∧ repL (T'.2.2.1 61) bp := by
  obtain ⟨b1, b2, b3⟩ := bt_all ⟨a, ha⟩ ⟨z, hz⟩ ⟨R, hR⟩
  have b1' : (Int32.ofNat R &&& (((1 <<< (Int32.ofNat a &&& 31)) ||| (1 <<< (Int32.ofNat z &&& 31))) ^^^ (-1))) = Int32.ofNat (btw a z R) := b1
  have b2' : btw a z R < 63 := b2
  have b3' : ∀ t, t < 6 → ((btw a z R).testBit t = true ↔ R.testBit t = true ∧ ¬ t = a ∧ ¬ t = z) := fun t ht => b3 ⟨t, ht⟩
  obtain ⟨m, em⟩ : ∃ m, m = btw a z R := ⟨_, rfl⟩
  rw [← em] at b1' b2' b3' ⊢
  have k5 : pcN m ≤ 5 := (pc_5 ⟨m, b2'⟩).1
  have sl : (srT m 6).length = pcN m := (pc_5 ⟨m, b2'⟩).2
  have ck : chk (pcN m) (pmL 6 m) = true := chk_all ⟨m, b2'⟩
  have ln : (pmL 6 m).length ≤ 120 := (len_all ⟨m, b2'⟩).1
  have la : ∀ p ∈ pmL 6 m, p.length = pcN m ∧ all6 p := (len_all ⟨m, b2'⟩).2
  have fs : (pmL 6 m).head? = some (srT m 6) := fst_all ⟨m, b2'⟩
  cases eL : pmL 6 m with
  | nil => rw [eL] at fs; cases fs
  | cons p0 tail =>
    rw [eL] at fs ck ln la
    have e0 : p0 = srT m 6 := by simp at fs; exact fs
    have l0 := la p0 (by simp)
    have c0 := cost_0 h ha hz l0.2 l0.1 k5
    have ltail : (p0 :: tail).length = tail.length + 1 := rfl
    obtain ⟨fr1, fr2, fr3, fr4⟩ := fold_rel h ha hz k5 tail (ydL S 0 (full a p0 z)) p0 (fun w hw => la w (by simp; exact Or.inr hw)) l0 c0
    refine ⟨(tail.foldl (rfF S a z) (ydL S 0 (full a p0 z), p0)).1, (tail.foldl (rfF S a z) (ydL S 0 (full a p0 z), p0)).2, fr3, fun C ag => ?_, fun T ag => ?_⟩
    · obtain ⟨C1, g1, g2, g3⟩ := q_bg (F := F) (by omega) ha hz hR b2' b3' C
      rw [sl] at g2
      rw [← e0] at g3
      have a1 := ag.trans (fq_X7_begin _ _ _ _ g1)
      have yl := q_yo (F := F) a1 (full_6 ha hz l0.2) (by rw [full_len]; omega) (by rw [full_len, l0.1]; omega) (by rw [full_len, l0.1]; exact g2) g3 (by omega)
      have kp := q_ko (F := F) (by omega) (sI C1 2803 (ydL S 0 (full a p0 z)))
      have a2 : agQ S (sI C1 2803 (ydL S 0 (full a p0 z))) := a1.lsI rfl (by decide)
      have a3 := a2.trans (fq_X7_keepOrder _ kp)
      obtain ⟨C', z1, z2, z3, z4⟩ := e_f24 (S := S) (F := F) (by omega) ha hz k5 tail p0 1 F _ (ydL S 0 (full a p0 z), full a p0 z) ck la (by omega) (by omega) a3 g2 g3 rfl (ko_rep (by rw [full_len, l0.1]; omega) g3)
      rw [fr1] at z2 z3
      refine ⟨C', ?_, z2, z3, z4⟩
      unfold f_X7_find
      rw [g1, g_bds, yl, g_bds, g_lets, kp, g_bds]
      exact z1
    · obtain ⟨T', z1, z2, z3, z4⟩ := e_oo h (F := F) (by omega) ha hz k5 6 m [] 64 (sI T 4828 (-1)) (-1, []) (by omega) (by omega) (by omega) (by simp) (fun r hr => by cases hr) (ag.lsI rfl (by decide)) (fun i hi => absurd hi (Nat.not_lt_zero i)) ⟨rfl, fun q => absurd (by decide +kernel) q⟩
      have ef : ((pmL 6 m).map (fun q => [] ++ q)).foldl (rfF S a z) (-1, []) = tail.foldl (rfF S a z) (ydL S 0 (full a p0 z), p0) := by
        rw [eL]
        have e1 : (p0 :: tail).map (fun q => [] ++ q) = p0 :: tail := by
          show (p0 :: tail).map (fun q => q) = _
          exact List.map_id' _
        rw [e1]
        show tail.foldl (rfF S a z) (rfF S a z (-1, []) p0) = _
        have e2 : rfF S a z (-1, []) p0 = (ydL S 0 (full a p0 z), p0) := by unfold rfF; rw [if_pos (by decide +kernel)]
        rw [e2]
      rw [ef] at z4
      have n0 : ¬ (tail.foldl (rfF S a z) (ydL S 0 (full a p0 z), p0)).1 < 0 := by rw [Int32.lt_iff_toInt_lt, z0_32]; omega
      refine ⟨T', ?_, z2, (z4.2 n0).1⟩
      unfold f_X11_shortestOf
      rw [g_lets, b1']
      have z1' : (g_X11_ordersOn F 64) (Int32.ofNat a) (Int32.ofNat z) (Int32.ofNat m) 0 0 (sI T 4828 (-1)) = some ((), T') := z1
      rw [z1', g_bds, z4.1]
