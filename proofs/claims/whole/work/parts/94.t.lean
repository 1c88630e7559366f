/-! WAYS OF DECIDING, of both -/
theorem frac144 {nn bb : Int64} (hn : 0 ≤ nn.toInt ∧ nn.toInt ≤ 1728) (hb : 0 < bb) : 144 * (nn / gV nn bb) / (bb / gV nn bb) = 144 * nn / bb := by
  obtain ⟨g, n, c, gp, ea, eb, eg, en, ec, n0, n1, c0, c1⟩ := divg hn.1 hb
  have i144 : (144 : Int64).toInt = 144 := rfl
  have m1 : (144 * (nn / gV nn bb)).toInt = 144 * n := by rw [tj_mul (by rw [i144, en]; omega), i144, en]
  have m2 : (144 * nn).toInt = 144 * nn.toInt := by rw [tj_mul (by rw [i144]; omega), i144]
  have l : (144 * (nn / gV nn bb) / (bb / gV nn bb)).toInt = ((144 * n).tdiv c).bmod (2 ^ 64) := by rw [Int64.toInt_div, m1, ec]
  have r : (144 * nn / bb).toInt = ((144 * (g * n)).tdiv (g * c)).bmod (2 ^ 64) := by rw [Int64.toInt_div, m2, ea, eb]
  have e : 144 * (g * n) = g * (144 * n) := by grind
  rw [← Int64.toInt_inj, l, r, e, Int.mul_tdiv_mul_of_pos _ _ gp]
def o144 (S : z_Stt) (t r : Int32) : Int32 := if 0 < opB S t r then (144 * opN S t r / opB S t r).toInt32 else 0
theorem e_of144 (S : z_Stt) {x y : Int64} (hy : 0 < y) : f_X4_of144 17 (sJ (sJ S (100 * 17 + 0) x) (100 * 17 + 1) y) = some ((144 * x / y).toInt32, sJ (sJ S (100 * 17 + 0) x) (100 * 17 + 1) y) := by
  have e0 : (sJ (sJ S (100 * 17 + 0) x) (100 * 17 + 1) y).2.1 (100 * 17 + 0) = x := rKa S x y
  have e1 : (sJ (sJ S (100 * 17 + 0) x) (100 * 17 + 1) y).2.1 (100 * 17 + 1) = y := rKb S x y
  unfold f_X4_of144
  rw [e0, e1, if_neg (by rw [cmple]; exact Int64.not_le.mpr hy), if_pos (lt0n hy)]
/-- what the class finds, and in 144 parts -/
theorem q_find {n : Nat} (hn : 92 < n) {S S' : z_Stt} (h : Inv S) (a : agQ S S') {t r : Int32} (ht : 0 ≤ t ∧ t < S.1 101) : ∃ (S'' : z_Stt) (x y : Int64), f_X10_findOpen n t r 17 S' = some (decide (0 < opB S t r), S'') ∧ S'' = sJ (sJ S' (100 * 17 + 0) x) (100 * 17 + 1) y ∧ agQ S S'' ∧ f_X4_of144 17 S'' = some (o144 S t r, S'') ∧ (0 < opB S t r → x = opN S t r / gV (opN S t r) (opB S t r) ∧ y = opB S t r / gV (opN S t r) (opB S t r)) ∧ (¬ 0 < opB S t r → x = 0 ∧ y = 1) := by
  have t6 : 0 ≤ t ∧ t < 6 := ⟨ht.1, lt_of6 ht.2 h.1.1.1.2⟩
  have nb := opN_ok h r t6
  have fo := e_findOpen (n := n) (o := 17) (m := r) (S := S') (t := t) (by rw [q_101 a]; exact ht) t6.2
  rw [q_opN a, q_opB a] at fo
  unfold o144
  generalize opN S t r = nn at *
  generalize opB S t r = bb at *
  by_cases c : 0 < bb
  · have f := fo.trans (e_become4 hn (by omega) c S')
    have f' := f
    rw [← decide_eq_true c] at f'
    obtain ⟨g, n', c', gp, ea, eb, eg, en, ec, n0, n1, c0, c1⟩ := divg nb.1 c
    refine ⟨_, _, _, f', rfl, a.trans (fq_X10_findOpen _ _ _ _ f), ?_, fun _ => ⟨rfl, rfl⟩, fun q => absurd c q⟩
    rw [e_of144 _ (by rw [i64lt, ec]; exact c0), frac144 nb c, if_pos c]
  · have f := fo.trans (e_becomeN c S')
    have f' := f
    rw [← decide_eq_false c] at f'
    refine ⟨_, _, _, f', rfl, a.trans (fq_X10_findOpen _ _ _ _ f), ?_, fun q => absurd q c, fun _ => ⟨rfl, rfl⟩⟩
    rw [e_of144 _ (by decide +kernel), if_neg c]
    rfl
theorem q_parts {S T : z_Stt} (h : Inv S) (a : agQ S T) {t : Int32} (r : Int32) (ht : 0 ≤ t ∧ t < 6) : ∃ T', f_X11_partsOf t r T = some (o144 S t r, T') ∧ T'.1 4829 = T.1 4829 := by
  have k := q_ask h a r ht
  unfold f_X11_partsOf o144
  rw [k, g_bds]
  by_cases c : opB S t r ≤ 0
  · rw [decide_eq_false (fun z => z c), if_neg (by decide), if_neg (Int64.not_lt.mpr c)]
    exact ⟨_, rfl, rfl⟩
  · rw [decide_eq_true c, if_pos rfl, rJa, rJb, if_pos (fun q => c (by rw [q]; decide +kernel)), if_pos (Int64.not_le.mp c)]
    exact ⟨_, rfl, rfl⟩
theorem tr_div {t r : Int32} (ht : 0 ≤ t ∧ t < 6) (hr : 0 ≤ r ∧ r ≤ 1) : (10 * t + r) / 10 = t ∧ (10 * t + r) % 10 = r := by
  have c : r = 0 ∨ r = 1 := by lia
  rcases cs06 ht with rfl | rfl | rfl | rfl | rfl | rfl <;> rcases c with rfl | rfl <;> decide +kernel
theorem q_decides {S : z_Stt} (h : Inv S) {w t r y : Int32} (hw : 0 ≤ w ∧ w ≤ 4) (ht : 0 ≤ t ∧ t < S.1 101) (hr : 0 ≤ r ∧ r ≤ 1) (hy : 0 ≤ y ∧ y ≤ 99) : ∃ b : Bool, (∀ S', agQ S S' → ∃ S'', f_X10_decides FUEL w t r y S' = some (b, S'')) ∧ ∀ T, agQ S T → ∃ T', f_X11_goesBack FUEL w t r y T = some (b, T') ∧ T'.1 4829 = T.1 4829 := by
  have hn : 92 < FUEL := by decide +kernel
  have t6 : 0 ≤ t ∧ t < 6 := ⟨ht.1, lt_of6 ht.2 h.1.1.1.2⟩
  have cw : w = 0 ∨ w = 1 ∨ w = 2 ∨ w = 3 ∨ w = 4 := by lia
  rcases cw with rfl | rfl | rfl | rfl | rfl
  · refine ⟨false, fun S' _ => ⟨S', ?_⟩, fun T _ => ⟨T, ?_, rfl⟩⟩
    · unfold f_X10_decides
      rw [if_neg (by decide +kernel), if_neg (by decide +kernel), if_neg (by decide +kernel), if_neg (by decide +kernel)]
    · unfold f_X11_goesBack
      rw [if_pos rfl]
  · refine ⟨true, fun S' _ => ⟨S', ?_⟩, fun T _ => ⟨T, ?_, rfl⟩⟩
    · unfold f_X10_decides
      rw [if_pos rfl]
    · unfold f_X11_goesBack
      rw [if_neg (by decide +kernel), if_pos rfl]
  · refine ⟨decide (r = 0), fun S' _ => ⟨S', ?_⟩, fun T _ => ⟨T, ?_, rfl⟩⟩
    · unfold f_X10_decides
      rw [if_neg (by decide +kernel), if_pos rfl]
      by_cases c : r = 0
      · rw [if_pos c, decide_eq_true c]
      · rw [if_neg c, decide_eq_false c]
    · unfold f_X11_goesBack
      rw [if_neg (by decide +kernel), if_neg (by decide +kernel), if_pos rfl]
      by_cases c : r = 0
      · rw [if_pos c, decide_eq_true c]
      · rw [if_neg c, decide_eq_false c]
  · have nb := opN_ok h r t6
    have bk := opB_ok h r t6
    have hv := rg (hV_ok h t6)
    have pv := prV_ok h hy
    have i999 : (999 : Int32).toInt = 999 := rfl
    rw [z0_32, i999] at hv
    obtain ⟨d1, d2⟩ := tr_div t6 hr
    refine ⟨decide (0 < opB S t r ∧ ¬ opN S t r * (vAt S (6 * 3 + t)).toInt64 - (prV S y).toInt64 * opB S t r ≤ 0), fun S' a => ?_, fun T a => ?_⟩
    · obtain ⟨S'', x, z, f, e, a2, o, g1, g2⟩ := q_find (r := r) hn h a ht
      have pb := e_paysBy (t := t) (a1 := y) (S := S') (x := x) (y := z) (by rw [q_101 a]; exact ht)
      rw [q_prV a, q_vAt a, ← e] at pb
      refine ⟨S'', ?_⟩
      unfold f_X10_decides
      rw [if_neg (by decide +kernel), if_neg (by decide +kernel), if_pos rfl, f, g_bds, pb, g_bds]
      refine some_ext ?_ rfl
      by_cases c : 0 < opB S t r
      · have ps := pays_same (h := (vAt S (6 * 3 + t)).toInt64) (k := (prV S y).toInt64) nb c bk.2 (by rw [Int32.toInt_toInt64]; exact hv) (by rw [Int32.toInt_toInt64]; exact pv)
        obtain ⟨gx, gz⟩ := g1 c
        rw [gx, gz]
        exact decide_eq_decide.mpr (by rw [ps]; exact ⟨fun q => ⟨c, q⟩, fun q => q.2⟩)
      · obtain ⟨gx, gz⟩ := g2 c
        rw [gx, gz]
        refine (decide_eq_false (fun q => q ?_)).trans (decide_eq_false (fun q => c q.1)).symm
        rw [lg_cmp_ge, Int64.mul_one, Int64.zero_mul, Int64.le_iff_toInt_le, z0_64, Int32.toInt_toInt64]
        exact pv.1
    · have wwq := q_ww h a (a0 := 10 * t + r) y (by rw [d1]; exact t6)
      unfold wwV at wwq
      rw [d1, d2] at wwq
      unfold f_X11_goesBack
      rw [if_neg (by decide +kernel), if_neg (by decide +kernel), if_neg (by decide +kernel), if_pos rfl, wwq, g_bds, rJb]
      generalize opN S t r * (vAt S (6 * 3 + t)).toInt64 - (prV S y).toInt64 * opB S t r = W
      simp only [cmple]
      by_cases c : W ≤ 0
      · rw [if_pos c, decide_eq_false (fun q => q.2 c)]; exact ⟨_, rfl, rfl⟩
      · rw [if_neg c]
        by_cases c2 : opB S t r ≤ 0
        · rw [if_pos c2, decide_eq_false (fun q => absurd c2 (Int64.not_le.mpr q.1))]; exact ⟨_, rfl, rfl⟩
        · rw [if_neg c2, decide_eq_true ⟨Int64.not_le.mp c2, c⟩]; exact ⟨_, rfl, rfl⟩
  · obtain ⟨b, s1, s2⟩ := q_says h (o144 S t r) (vAt S (6 * 3 + t)) y 1
    refine ⟨b, fun S' a => ?_, fun T a => ?_⟩
    · obtain ⟨S'', x, z, f, e, a2, o, g1, g2⟩ := q_find (r := r) hn h a ht
      obtain ⟨S3, l⟩ := s1 S'' a2
      have u : f_X9_ofThing 3 t S'' = some (vAt S (6 * 3 + t), S'') := by
        rw [e_ofT (S := S'') 3 (by rw [q_101 a2]; exact ht), q_vAt a2]
      refine ⟨S3, ?_⟩
      unfold f_X10_decides
      rw [if_neg (by decide +kernel), if_neg (by decide +kernel), if_neg (by decide +kernel), if_pos rfl, f, g_bds, o, g_bds, u, g_bds, e_price, g_bds, l, g_bds]
    · obtain ⟨T', p, p9⟩ := q_parts h a r t6
      have a2 := a.trans (fq_X11_partsOf _ _ _ p)
      obtain ⟨T2, l, l9⟩ := s2 T' a2
      refine ⟨T2, ?_, l9.trans p9⟩
      unfold f_X11_goesBack
      rw [if_neg (by decide +kernel), if_neg (by decide +kernel), if_neg (by decide +kernel), if_neg (by decide +kernel), p, g_bds, e_nrG (q_49 h a2) (k := 3) (by decide +kernel) t6, g_bds, l, g_bds]
