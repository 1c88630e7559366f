abbrev M_X2_has : z_M := (RX2, yX2_has, cX2_has, 2, some .boolean)
theorem mo_X2_has : z_mo M_X2_has 1 := ⟨tb_602, tb_37, rfl, ⟨by decide +kernel, by decide +kernel⟩, by decide +kernel, by decide⟩
theorem mv_X2_has : z_mv M_X2_has := ⟨tb_600, tb_601⟩
def f_X2_has (a0 : Int32) (S : z_Stt) : Option (Bool × z_Stt) :=
  if ((S.1 1800) >>> (a0 &&& 31)) &&& 1 = 1 then
    some (true, S)
  else
    some (false, S)
set_option maxHeartbeats 4000000 in
set_option maxRecDepth 100000 in
theorem t_X2_has {g : z_G} {K : z_K} {v : Bool} {S' : z_Stt} (cx : z_C g M_X2_has 0 K) (ce : z_E' g M_X2_has (z_P g (some (.int (bI v))) S') K) (a0 : Int32) (S : z_Stt) (h : f_X2_has a0 S = some (v, S')) : z_At g M_X2_has K 0 [some (.ref (z_ad g 18)), some (.int a0)] [] (hp g S) := by
  unfold f_X2_has at h
  refine z_aload_n cx rfl rfl dX2_has_0 ?_
  refine q_getI (k := 18) (n := 1800) cx z_cl2 (j := 0) (by decide) tb_99 rfl (by decide) rfl rfl rfl dX2_has_1 ?_
  refine z_iload_n cx rfl rfl dX2_has_4 ?_
  refine z_ishr cx dX2_has_5 ?_
  refine z_iconst (v := 1) cx (by decide +kernel) dX2_has_6 ?_
  refine z_iand cx dX2_has_7 ?_
  refine z_iconst (v := 1) cx (by decide +kernel) dX2_has_8 ?_
  refine z_icmp_ne (tgt := 16) cx (by decide) dX2_has_9 (fun c1 => ?_) (fun c1 => ?_)
  · have h := g_f c1 h
    refine z_iconst (v := 0) cx (by decide +kernel) dX2_has_16 ?_
    obtain ⟨rfl, rfl⟩ := g_some h
    exact z_zreturn cx ce rfl (by decide +kernel) ⟨rfl, rfl⟩ dX2_has_17
  · have h := g_t c1 h
    refine z_iconst (v := 1) cx (by decide +kernel) dX2_has_12 ?_
    refine z_goto (tgt := 17) cx (by decide) dX2_has_13 ?_
    obtain ⟨rfl, rfl⟩ := g_some h
    exact z_zreturn cx ce rfl (by decide +kernel) ⟨rfl, rfl⟩ dX2_has_17
theorem c_X2_has {g : z_G} (a0 : Int32) (S : z_Stt) {v : Bool} {S' : z_Stt} (h : f_X2_has a0 S = some (v, S')) : z_Ct g M_X2_has 0 [.ref (z_ad g 18), .int a0] (hp g S) (z_P g (some (.int (bI v))) S') :=
  z_Ct.of (by decide +kernel) rfl (Nat.le_of_ble_eq_true rfl) (fun K cx ce => q_weak (L' := [some (.ref (z_ad g 18)), some (.int a0)]) (z_wk_s (z_wk_s (z_wk_0))) (t_X2_has cx ce a0 S h))
abbrev M_X2_chance : z_M := (RX2, yX2_chance, cX2_chance, 6, some .long)
theorem mo_X2_chance : z_mo M_X2_chance 2 := ⟨tb_612, tb_37, rfl, ⟨by decide +kernel, by decide +kernel⟩, by decide +kernel, by decide⟩
theorem mv_X2_chance : z_mv M_X2_chance := ⟨tb_610, tb_611⟩
def f_X2_chance (a0 : Int32) (a1 : Int64) (S : z_Stt) : Option (Int64 × z_Stt) :=
  if ¬ (a0 < 0 ∨ 6 ≤ a0.toNatClampNeg) then
    if lg_cmp (S.2.1 (100 * (22 + a0.toNatClampNeg) + 1)) 0 ≤ 0 then
      some (0, S)
    else
      if ¬ (a0 < 0 ∨ 6 ≤ a0.toNatClampNeg) then
        if ¬ S.2.1 (100 * (22 + a0.toNatClampNeg) + 1) = 0 then
          some ((S.2.1 (100 * (22 + a0.toNatClampNeg) + 0)) * (a1 / (S.2.1 (100 * (22 + a0.toNatClampNeg) + 1))), S)
        else none
      else none
  else none
set_option maxHeartbeats 4000000 in
set_option maxRecDepth 100000 in
theorem t_X2_chance {g : z_G} {K : z_K} {v : Int64} {S' : z_Stt} (cx : z_C g M_X2_chance 0 K) (ce : z_E' g M_X2_chance (z_P g (some (.long v)) S') K) (a0 : Int32) (a1 : Int64) (S : z_Stt) (h : f_X2_chance a0 a1 S = some (v, S')) : z_At g M_X2_chance K 0 [some (.ref (z_ad g 18)), some (.int a0), some (.long a1), none, none, none] [] (hp g S) := by
  unfold f_X2_chance at h
  refine z_aload_n cx rfl rfl dX2_chance_0 ?_
  refine q_getF (k := 18) (n := 19) (r := 1) cx z_cl2 (j := 1) (by decide) tb_101 rfl (by decide) rfl rfl rfl dX2_chance_1 ?_
  refine z_iload_n cx rfl rfl dX2_chance_4 ?_
  obtain ⟨c1, h⟩ := g_if h
  refine q_aald_F cx (by decide) rfl c1 dX2_chance_5 ?_
  refine q_getJ (k := 22 + a0.toNatClampNeg) (n := 100 * (22 + a0.toNatClampNeg) + 1) cx z_cl4 (j := 1) (by decide) tb_607 rfl (wp4_of c1).1 (wp4_of c1).2 rfl rfl dX2_chance_6 ?_
  refine z_lstore (L' := [some (.ref (z_ad g 18)), some (.int a0), some (.long a1), none, some (.long (S.2.1 (100 * (22 + a0.toNatClampNeg) + 1))), none]) cx (by decide) rfl dX2_chance_9 ?_
  refine z_lload cx rfl dX2_chance_11 ?_
  refine z_lconst (v := 0) cx (by decide +kernel) dX2_chance_13 ?_
  refine z_lcmp cx dX2_chance_14 ?_
  refine z_if_le (tgt := 35) cx (by decide) dX2_chance_15 (fun c2 => ?_) (fun c2 => ?_)
  · have h := g_t c2 h
    refine z_lconst (v := 0) cx (by decide +kernel) dX2_chance_35 ?_
    obtain ⟨rfl, rfl⟩ := g_some h
    exact z_lreturn cx ce rfl ⟨rfl, rfl⟩ dX2_chance_36
  · have h := g_f c2 h
    refine z_aload_n cx rfl rfl dX2_chance_18 ?_
    refine q_getF (k := 18) (n := 19) (r := 1) cx z_cl2 (j := 1) (by decide) tb_101 rfl (by decide) rfl rfl rfl dX2_chance_19 ?_
    refine z_iload_n cx rfl rfl dX2_chance_22 ?_
    obtain ⟨c3, h⟩ := g_if h
    refine q_aald_F cx (by decide) rfl c3 dX2_chance_23 ?_
    refine q_getJ (k := 22 + a0.toNatClampNeg) (n := 100 * (22 + a0.toNatClampNeg) + 0) cx z_cl4 (j := 0) (by decide) tb_613 rfl (wp4_of c3).1 (wp4_of c3).2 rfl rfl dX2_chance_24 ?_
    refine z_lload_n cx rfl rfl dX2_chance_27 ?_
    refine z_lload cx rfl dX2_chance_28 ?_
    obtain ⟨c4, h⟩ := g_if h
    refine z_ldiv cx c4 dX2_chance_30 ?_
    refine z_lmul cx dX2_chance_31 ?_
    refine z_goto (tgt := 36) cx (by decide) dX2_chance_32 ?_
    obtain ⟨rfl, rfl⟩ := g_some h
    exact z_lreturn cx ce rfl ⟨rfl, rfl⟩ dX2_chance_36
theorem c_X2_chance {g : z_G} (a0 : Int32) (a1 : Int64) (S : z_Stt) {v : Int64} {S' : z_Stt} (h : f_X2_chance a0 a1 S = some (v, S')) : z_Ct g M_X2_chance 0 [.ref (z_ad g 18), .int a0, .long a1] (hp g S) (z_P g (some (.long v)) S') :=
  z_Ct.of (by decide +kernel) rfl (Nat.le_of_ble_eq_true rfl) (fun K cx ce => q_weak (L' := [some (.ref (z_ad g 18)), some (.int a0), some (.long a1), none, none, none]) (z_wk_s (z_wk_s (z_wk_s (z_wk_n (z_wk_e (z_wk_e (z_wk_0))))))) (t_X2_chance cx ce a0 a1 S h))
abbrev M_X2_weigh : z_M := (RX2, yX2_weigh, cX2_weigh, 2, none)
theorem mo_X2_weigh : z_mo M_X2_weigh 0 := ⟨tb_606, tb_37, rfl, ⟨by decide +kernel, by decide +kernel⟩, by decide +kernel, by decide⟩
theorem mv_X2_weigh : z_mv M_X2_weigh := ⟨tb_604, tb_605⟩
def f_X2_weigh_96 (n : Nat) (k56 : Int32 → z_Stt → Option (Unit × z_Stt)) (x1 : Int32) (y0 : Int64) (y1 : Int32) (S : z_Stt) : Option (Unit × z_Stt) :=
  if ¬ (y1 < 0 ∨ 6 ≤ y1.toNatClampNeg) then
    g_let (sE S 21 (vp_updL (S.2.2.2.1 21) y1.toNatClampNeg y0)) fun S2 =>
    if ¬ (x1 < 0 ∨ 6 ≤ x1.toNatClampNeg) then
      g_let (sJ S2 1805 ((S2.2.1 1805) + (S2.2.2.2.1 21 x1.toNatClampNeg))) fun S5 =>
      k56 (x1 + 1) S5
    else none
  else none
set_option maxHeartbeats 4000000 in
set_option maxRecDepth 100000 in
theorem t_X2_weigh_96 {g : z_G} {K : z_K} (n : Nat) {v : Unit} {S' : z_Stt} (cx : z_C g M_X2_weigh 1 K) (ce : z_E' g M_X2_weigh (z_P g (none) S') K) (k56 : Int32 → z_Stt → Option (Unit × z_Stt)) (hk56 : ∀ (x1 : Int32) (S : z_Stt), k56 x1 S = some (v, S') → z_At g M_X2_weigh K 56 [some (.ref (z_ad g 18)), some (.int x1)] [] (hp g S)) (x1 : Int32) (y0 : Int64) (y1 : Int32) (S : z_Stt) (h : f_X2_weigh_96 n k56 x1 y0 y1 S = some (v, S')) : z_At g M_X2_weigh K 96 [some (.ref (z_ad g 18)), some (.int x1)] [.long y0, .int y1, .ref (z_ad g 21)] (hp g S) := by
  unfold f_X2_weigh_96 at h
  obtain ⟨c1, h⟩ := g_if h
  refine q_last cx (by decide) rfl c1 dX2_weigh_96 ?_
  obtain ⟨S2, e3, h⟩ := g_let_ex h
  rw [← e3]
  refine z_aload_n cx rfl rfl dX2_weigh_97 ?_
  refine z_dup cx rfl dX2_weigh_98 ?_
  refine q_getJ (k := 18) (n := 1805) cx z_cl2 (j := 5) (by decide) tb_106 rfl (by decide) rfl rfl rfl dX2_weigh_99 ?_
  refine z_aload_n cx rfl rfl dX2_weigh_102 ?_
  refine q_getF (k := 18) (n := 21) (r := 3) cx z_cl2 (j := 3) (by decide) tb_104 rfl (by decide) rfl rfl rfl dX2_weigh_103 ?_
  refine z_iload_n cx rfl rfl dX2_weigh_106 ?_
  obtain ⟨c4, h⟩ := g_if h
  refine q_lald cx (by decide) rfl c4 dX2_weigh_107 ?_
  refine z_ladd cx dX2_weigh_108 ?_
  refine q_putJ (k := 18) (n := 1805) cx z_cl2 (j := 5) (by decide) tb_106 rfl rfl rfl (by decide) rfl rfl rfl (by decide) (by decide) dX2_weigh_109 ?_
  obtain ⟨S5, e6, h⟩ := g_let_ex h
  rw [← e6]
  refine z_iinc (c := 1) (L' := [some (.ref (z_ad g 18)), some (.int (x1 + 1))]) cx rfl (by decide +kernel) (by decide) rfl dX2_weigh_112 ?_
  refine z_goto (tgt := 56) cx (by decide) dX2_weigh_115 ?_
  exact q_weak (z_wk_s (z_wk_s (z_wk_0))) (hk56 (x1 + 1) S5 h)
def f_X2_weigh_56 (n : Nat) : Nat → Int32 → z_Stt → Option (Unit × z_Stt)
  | 0, _, _ => none
  | m + 1, x1, S =>
    if 6 ≤ x1 then
      some ((), S)
    else
      g_bd (f_X2_has x1 S) fun v2 S3 =>
      if v2 = true then
        if ¬ (x1 < 0 ∨ 6 ≤ x1.toNatClampNeg) then
          g_bd (f_X2_chance x1 (S3.2.1 1804) S3) fun v7 S8 =>
          f_X2_weigh_96 n (f_X2_weigh_56 n m) x1 ((Int32.toInt64 (S3.2.2.1 20 x1.toNatClampNeg)) * v7) x1 S8
        else none
      else
        f_X2_weigh_96 n (f_X2_weigh_56 n m) x1 0 x1 S3
set_option maxHeartbeats 4000000 in
set_option maxRecDepth 100000 in
theorem t_X2_weigh_56 {g : z_G} {K : z_K} (n : Nat) {v : Unit} {S' : z_Stt} (cx : z_C g M_X2_weigh 1 K) (ce : z_E' g M_X2_weigh (z_P g (none) S') K) : ∀ (m : Nat) (x1 : Int32) (S : z_Stt) (h : f_X2_weigh_56 n m x1 S = some (v, S')), z_At g M_X2_weigh K 56 [some (.ref (z_ad g 18)), some (.int x1)] [] (hp g S) := by
  intro m
  induction m with
  | zero => intro x1 S h; simp [f_X2_weigh_56] at h
  | succ m ih =>
    intro x1 S h
    rw [f_X2_weigh_56] at h
    refine z_iload_n cx rfl rfl dX2_weigh_56 ?_
    refine z_bipush (v := 6) cx (by decide +kernel) dX2_weigh_57 ?_
    refine z_icmp_ge (tgt := 118) cx (by decide) dX2_weigh_59 (fun c1 => ?_) (fun c1 => ?_)
    · have h := g_t c1 h
      obtain ⟨rfl, rfl⟩ := g_some h
      exact z_return cx ce rfl ⟨rfl, rfl⟩ dX2_weigh_118
    · have h := g_f c1 h
      refine z_aload_n cx rfl rfl dX2_weigh_62 ?_
      refine q_getF (k := 18) (n := 21) (r := 3) cx z_cl2 (j := 3) (by decide) tb_104 rfl (by decide) rfl rfl rfl dX2_weigh_63 ?_
      refine z_iload_n cx rfl rfl dX2_weigh_66 ?_
      refine z_aload_n cx rfl rfl dX2_weigh_67 ?_
      refine z_iload_n cx rfl rfl dX2_weigh_68 ?_
      obtain ⟨v2, S3, e4, h⟩ := g_bd_ex h
      refine q_cvi (As := [.int x1]) cx mo_X2_has mv_X2_has z_cl2 rfl tb_608 (by decide) rfl (by decide) rfl rfl (Nat.le_of_ble_eq_true rfl) dX2_weigh_69 (c_X2_has x1 _ e4) ?_
      refine q_ifb_eq (tgt := 95) cx (by decide) dX2_weigh_72 (fun c5 => ?_) (fun c5 => ?_)
      · have h := g_f (Bool.eq_false_iff.mp c5) h
        refine z_lconst (v := 0) cx (by decide +kernel) dX2_weigh_95 ?_
        exact q_weak (z_wk_s (z_wk_s (z_wk_0))) (t_X2_weigh_96 n cx ce (f_X2_weigh_56 n m) ih x1 0 x1 S3 h)
      · have h := g_t c5 h
        refine z_aload_n cx rfl rfl dX2_weigh_75 ?_
        refine q_getF (k := 18) (n := 20) (r := 2) cx z_cl2 (j := 2) (by decide) tb_102 rfl (by decide) rfl rfl rfl dX2_weigh_76 ?_
        refine z_iload_n cx rfl rfl dX2_weigh_79 ?_
        obtain ⟨c6, h⟩ := g_if h
        refine q_iald cx (by decide) rfl c6 dX2_weigh_80 ?_
        refine z_i2l cx dX2_weigh_81 ?_
        refine z_aload_n cx rfl rfl dX2_weigh_82 ?_
        refine z_iload_n cx rfl rfl dX2_weigh_83 ?_
        refine z_aload_n cx rfl rfl dX2_weigh_84 ?_
        refine q_getJ (k := 18) (n := 1804) cx z_cl2 (j := 4) (by decide) tb_105 rfl (by decide) rfl rfl rfl dX2_weigh_85 ?_
        obtain ⟨v7, S8, e9, h⟩ := g_bd_ex h
        refine q_cvl (As := [.int x1, .long (S3.2.1 1804)]) cx mo_X2_chance mv_X2_chance z_cl2 rfl tb_609 (by decide) rfl (by decide) rfl rfl (Nat.le_of_ble_eq_true rfl) dX2_weigh_88 (c_X2_chance x1 (S3.2.1 1804) _ e9) ?_
        refine z_lmul cx dX2_weigh_91 ?_
        refine z_goto (tgt := 96) cx (by decide) dX2_weigh_92 ?_
        exact q_weak (z_wk_s (z_wk_s (z_wk_0))) (t_X2_weigh_96 n cx ce (f_X2_weigh_56 n m) ih x1 ((Int32.toInt64 (S3.2.2.1 20 x1.toNatClampNeg)) * v7) x1 S8 h)
def f_X2_weigh_39 (n : Nat) (k7 : Int32 → z_Stt → Option (Unit × z_Stt)) (x1 : Int32) (y0 : Int64) (y1 : Int64) (S : z_Stt) : Option (Unit × z_Stt) :=
  g_let (sJ S 1804 (y1 * y0)) fun S1 =>
  k7 (x1 + 1) S1
set_option maxHeartbeats 4000000 in
set_option maxRecDepth 100000 in
theorem t_X2_weigh_39 {g : z_G} {K : z_K} (n : Nat) {v : Unit} {S' : z_Stt} (cx : z_C g M_X2_weigh 1 K) (ce : z_E' g M_X2_weigh (z_P g (none) S') K) (k7 : Int32 → z_Stt → Option (Unit × z_Stt)) (hk7 : ∀ (x1 : Int32) (S : z_Stt), k7 x1 S = some (v, S') → z_At g M_X2_weigh K 7 [some (.ref (z_ad g 18)), some (.int x1)] [] (hp g S)) (x1 : Int32) (y0 : Int64) (y1 : Int64) (S : z_Stt) (h : f_X2_weigh_39 n k7 x1 y0 y1 S = some (v, S')) : z_At g M_X2_weigh K 39 [some (.ref (z_ad g 18)), some (.int x1)] [.long y0, .long y1, .ref (z_ad g 18)] (hp g S) := by
  unfold f_X2_weigh_39 at h
  refine z_lmul cx dX2_weigh_39 ?_
  refine q_putJ (k := 18) (n := 1804) cx z_cl2 (j := 4) (by decide) tb_105 rfl rfl rfl (by decide) rfl rfl rfl (by decide) (by decide) dX2_weigh_40 ?_
  obtain ⟨S1, e2, h⟩ := g_let_ex h
  rw [← e2]
  refine z_iinc (c := 1) (L' := [some (.ref (z_ad g 18)), some (.int (x1 + 1))]) cx rfl (by decide +kernel) (by decide) rfl dX2_weigh_43 ?_
  refine z_goto (tgt := 7) cx (by decide) dX2_weigh_46 ?_
  exact q_weak (z_wk_s (z_wk_s (z_wk_0))) (hk7 (x1 + 1) S1 h)
def f_X2_weigh_7 (n : Nat) : Nat → Int32 → z_Stt → Option (Unit × z_Stt)
  | 0, _, _ => none
  | m + 1, x1, S =>
    if 6 ≤ x1 then
      g_let (sJ S 1805 0) fun S2 =>
      f_X2_weigh_56 n n 0 S2
    else
      g_bd (f_X2_has x1 S) fun v4 S5 =>
      if v4 = true then
        if ¬ (x1 < 0 ∨ 6 ≤ x1.toNatClampNeg) then
          f_X2_weigh_39 n (f_X2_weigh_7 n m) x1 (S5.2.1 (100 * (22 + x1.toNatClampNeg) + 1)) (S.2.1 1804) S5
        else none
      else
        f_X2_weigh_39 n (f_X2_weigh_7 n m) x1 1 (S.2.1 1804) S5
set_option maxHeartbeats 4000000 in
set_option maxRecDepth 100000 in
theorem t_X2_weigh_7 {g : z_G} {K : z_K} (n : Nat) {v : Unit} {S' : z_Stt} (cx : z_C g M_X2_weigh 1 K) (ce : z_E' g M_X2_weigh (z_P g (none) S') K) : ∀ (m : Nat) (x1 : Int32) (S : z_Stt) (h : f_X2_weigh_7 n m x1 S = some (v, S')), z_At g M_X2_weigh K 7 [some (.ref (z_ad g 18)), some (.int x1)] [] (hp g S) := by
  intro m
  induction m with
  | zero => intro x1 S h; simp [f_X2_weigh_7] at h
  | succ m ih =>
    intro x1 S h
    rw [f_X2_weigh_7] at h
    refine z_iload_n cx rfl rfl dX2_weigh_7 ?_
    refine z_bipush (v := 6) cx (by decide +kernel) dX2_weigh_8 ?_
    refine z_icmp_ge (tgt := 49) cx (by decide) dX2_weigh_10 (fun c1 => ?_) (fun c1 => ?_)
    · have h := g_t c1 h
      refine z_aload_n cx rfl rfl dX2_weigh_49 ?_
      refine z_lconst (v := 0) cx (by decide +kernel) dX2_weigh_50 ?_
      refine q_putJ (k := 18) (n := 1805) cx z_cl2 (j := 5) (by decide) tb_106 rfl rfl rfl (by decide) rfl rfl rfl (by decide) (by decide) dX2_weigh_51 ?_
      obtain ⟨S2, e3, h⟩ := g_let_ex h
      rw [← e3]
      refine z_iconst (v := 0) cx (by decide +kernel) dX2_weigh_54 ?_
      refine z_istore_n (L' := [some (.ref (z_ad g 18)), some (.int 0)]) cx rfl (by decide) rfl dX2_weigh_55 ?_
      exact q_weak (z_wk_s (z_wk_s (z_wk_0))) (t_X2_weigh_56 n cx ce n 0 S2 h)
    · have h := g_f c1 h
      refine z_aload_n cx rfl rfl dX2_weigh_13 ?_
      refine z_dup cx rfl dX2_weigh_14 ?_
      refine q_getJ (k := 18) (n := 1804) cx z_cl2 (j := 4) (by decide) tb_105 rfl (by decide) rfl rfl rfl dX2_weigh_15 ?_
      refine z_aload_n cx rfl rfl dX2_weigh_18 ?_
      refine z_iload_n cx rfl rfl dX2_weigh_19 ?_
      obtain ⟨v4, S5, e6, h⟩ := g_bd_ex h
      refine q_cvi (As := [.int x1]) cx mo_X2_has mv_X2_has z_cl2 rfl tb_608 (by decide) rfl (by decide) rfl rfl (Nat.le_of_ble_eq_true rfl) dX2_weigh_20 (c_X2_has x1 _ e6) ?_
      refine q_ifb_eq (tgt := 38) cx (by decide) dX2_weigh_23 (fun c7 => ?_) (fun c7 => ?_)
      · have h := g_f (Bool.eq_false_iff.mp c7) h
        refine z_lconst (v := 1) cx (by decide +kernel) dX2_weigh_38 ?_
        exact q_weak (z_wk_s (z_wk_s (z_wk_0))) (t_X2_weigh_39 n cx ce (f_X2_weigh_7 n m) ih x1 1 (S.2.1 1804) S5 h)
      · have h := g_t c7 h
        refine z_aload_n cx rfl rfl dX2_weigh_26 ?_
        refine q_getF (k := 18) (n := 19) (r := 1) cx z_cl2 (j := 1) (by decide) tb_101 rfl (by decide) rfl rfl rfl dX2_weigh_27 ?_
        refine z_iload_n cx rfl rfl dX2_weigh_30 ?_
        obtain ⟨c8, h⟩ := g_if h
        refine q_aald_F cx (by decide) rfl c8 dX2_weigh_31 ?_
        refine q_getJ (k := 22 + x1.toNatClampNeg) (n := 100 * (22 + x1.toNatClampNeg) + 1) cx z_cl4 (j := 1) (by decide) tb_607 rfl (wp4_of c8).1 (wp4_of c8).2 rfl rfl dX2_weigh_32 ?_
        refine z_goto (tgt := 39) cx (by decide) dX2_weigh_35 ?_
        exact q_weak (z_wk_s (z_wk_s (z_wk_0))) (t_X2_weigh_39 n cx ce (f_X2_weigh_7 n m) ih x1 (S5.2.1 (100 * (22 + x1.toNatClampNeg) + 1)) (S.2.1 1804) S5 h)
def f_X2_weigh (n : Nat) (S : z_Stt) : Option (Unit × z_Stt) :=
  g_let (sJ S 1804 1) fun S1 =>
  f_X2_weigh_7 n n 0 S1
set_option maxHeartbeats 4000000 in
set_option maxRecDepth 100000 in
theorem t_X2_weigh {g : z_G} {K : z_K} (n : Nat) {v : Unit} {S' : z_Stt} (cx : z_C g M_X2_weigh 1 K) (ce : z_E' g M_X2_weigh (z_P g (none) S') K) (S : z_Stt) (h : f_X2_weigh n S = some (v, S')) : z_At g M_X2_weigh K 0 [some (.ref (z_ad g 18)), none] [] (hp g S) := by
  unfold f_X2_weigh at h
  refine z_aload_n cx rfl rfl dX2_weigh_0 ?_
  refine z_lconst (v := 1) cx (by decide +kernel) dX2_weigh_1 ?_
  refine q_putJ (k := 18) (n := 1804) cx z_cl2 (j := 4) (by decide) tb_105 rfl rfl rfl (by decide) rfl rfl rfl (by decide) (by decide) dX2_weigh_2 ?_
  obtain ⟨S1, e2, h⟩ := g_let_ex h
  rw [← e2]
  refine z_iconst (v := 0) cx (by decide +kernel) dX2_weigh_5 ?_
  refine z_istore_n (L' := [some (.ref (z_ad g 18)), some (.int 0)]) cx rfl (by decide) rfl dX2_weigh_6 ?_
  exact q_weak (z_wk_s (z_wk_s (z_wk_0))) (t_X2_weigh_7 n cx ce n 0 S1 h)
theorem c_X2_weigh {g : z_G} {n : Nat} (S : z_Stt) {v : Unit} {S' : z_Stt} (h : f_X2_weigh n S = some (v, S')) : z_Ct g M_X2_weigh 1 [.ref (z_ad g 18)] (hp g S) (z_P g (none) S') :=
  z_Ct.of (by decide +kernel) rfl (Nat.le_of_ble_eq_true rfl) (fun K cx ce => q_weak (L' := [some (.ref (z_ad g 18)), none]) (z_wk_s (z_wk_e (z_wk_0))) (t_X2_weigh n cx ce S h))
abbrev M_X2_costOf : z_M := (RX2, yX2_costOf, cX2_costOf, 8, some .long)
theorem mo_X2_costOf : z_mo M_X2_costOf 3 := ⟨tb_625, tb_37, rfl, ⟨by decide +kernel, by decide +kernel⟩, by decide +kernel, by decide⟩
theorem mv_X2_costOf : z_mv M_X2_costOf := ⟨tb_623, tb_624⟩
def f_X2_costOf_56 (n : Nat) (k28 : Int32 → Int64 → Int32 → z_Stt → Option (Int64 × z_Stt)) (x1 : Int32) (x5 : Int64) (x7 : Int32) (S : z_Stt) : Option (Int64 × z_Stt) :=
  k28 x1 x5 (x7 + 1) S
set_option maxHeartbeats 4000000 in
set_option maxRecDepth 100000 in
theorem t_X2_costOf_56 {g : z_G} {K : z_K} (n : Nat) {v : Int64} {S' : z_Stt} (cx : z_C g M_X2_costOf 1 K) (ce : z_E' g M_X2_costOf (z_P g (some (.long v)) S') K) (k28 : Int32 → Int64 → Int32 → z_Stt → Option (Int64 × z_Stt)) (hk28 : ∀ (x1 : Int32) (x5 : Int64) (x7 : Int32) (S : z_Stt), k28 x1 x5 x7 S = some (v, S') → z_At g M_X2_costOf K 28 [some (.ref (z_ad g 18)), some (.int x1), none, none, none, some (.long x5), none, some (.int x7)] [] (hp g S)) (x1 : Int32) (x5 : Int64) (x7 : Int32) (S : z_Stt) (h : f_X2_costOf_56 n k28 x1 x5 x7 S = some (v, S')) : z_At g M_X2_costOf K 56 [some (.ref (z_ad g 18)), some (.int x1), none, none, none, some (.long x5), none, some (.int x7)] [] (hp g S) := by
  unfold f_X2_costOf_56 at h
  refine z_iinc (c := 1) (L' := [some (.ref (z_ad g 18)), some (.int x1), none, none, none, some (.long x5), none, some (.int (x7 + 1))]) cx rfl (by decide +kernel) (by decide) rfl dX2_costOf_56 ?_
  refine z_goto (tgt := 28) cx (by decide) dX2_costOf_59 ?_
  exact q_weak (z_wk_s (z_wk_s (z_wk_n (z_wk_n (z_wk_n (z_wk_s (z_wk_n (z_wk_s (z_wk_0))))))))) (hk28 x1 x5 (x7 + 1) S h)
def f_X2_costOf_28 (n : Nat) : Nat → Int32 → Int64 → Int32 → z_Stt → Option (Int64 × z_Stt)
  | 0, _, _, _, _ => none
  | m + 1, x1, x5, x7, S =>
    if 6 ≤ x7 then
      some (x5, S)
    else
      if (x1 >>> (x7 &&& 31)) &&& 1 = 0 then
        if ¬ (x7 < 0 ∨ 6 ≤ x7.toNatClampNeg) then
          f_X2_costOf_56 n (f_X2_costOf_28 n m) x1 (x5 + (S.2.2.2.1 21 x7.toNatClampNeg)) x7 S
        else none
      else
        f_X2_costOf_56 n (f_X2_costOf_28 n m) x1 x5 x7 S
set_option maxHeartbeats 4000000 in
set_option maxRecDepth 100000 in
theorem t_X2_costOf_28 {g : z_G} {K : z_K} (n : Nat) {v : Int64} {S' : z_Stt} (cx : z_C g M_X2_costOf 1 K) (ce : z_E' g M_X2_costOf (z_P g (some (.long v)) S') K) : ∀ (m : Nat) (x1 : Int32) (x5 : Int64) (x7 : Int32) (S : z_Stt) (h : f_X2_costOf_28 n m x1 x5 x7 S = some (v, S')), z_At g M_X2_costOf K 28 [some (.ref (z_ad g 18)), some (.int x1), none, none, none, some (.long x5), none, some (.int x7)] [] (hp g S) := by
  intro m
  induction m with
  | zero => intro x1 x5 x7 S h; simp [f_X2_costOf_28] at h
  | succ m ih =>
    intro x1 x5 x7 S h
    rw [f_X2_costOf_28] at h
    refine z_iload cx rfl dX2_costOf_28 ?_
    refine z_bipush (v := 6) cx (by decide +kernel) dX2_costOf_30 ?_
    refine z_icmp_ge (tgt := 62) cx (by decide) dX2_costOf_32 (fun c1 => ?_) (fun c1 => ?_)
    · have h := g_t c1 h
      refine z_lload cx rfl dX2_costOf_62 ?_
      obtain ⟨rfl, rfl⟩ := g_some h
      exact z_lreturn cx ce rfl ⟨rfl, rfl⟩ dX2_costOf_64
    · have h := g_f c1 h
      refine z_iload_n cx rfl rfl dX2_costOf_35 ?_
      refine z_iload cx rfl dX2_costOf_36 ?_
      refine z_ishr cx dX2_costOf_38 ?_
      refine z_iconst (v := 1) cx (by decide +kernel) dX2_costOf_39 ?_
      refine z_iand cx dX2_costOf_40 ?_
      refine z_if_ne (tgt := 56) cx (by decide) dX2_costOf_41 (fun c2 => ?_) (fun c2 => ?_)
      · have h := g_f c2 h
        exact q_weak (z_wk_s (z_wk_s (z_wk_n (z_wk_n (z_wk_n (z_wk_s (z_wk_n (z_wk_s (z_wk_0))))))))) (t_X2_costOf_56 n cx ce (f_X2_costOf_28 n m) ih x1 x5 x7 S h)
      · have h := g_t c2 h
        refine z_lload cx rfl dX2_costOf_44 ?_
        refine z_aload_n cx rfl rfl dX2_costOf_46 ?_
        refine q_getF (k := 18) (n := 21) (r := 3) cx z_cl2 (j := 3) (by decide) tb_104 rfl (by decide) rfl rfl rfl dX2_costOf_47 ?_
        refine z_iload cx rfl dX2_costOf_50 ?_
        obtain ⟨c3, h⟩ := g_if h
        refine q_lald cx (by decide) rfl c3 dX2_costOf_52 ?_
        refine z_ladd cx dX2_costOf_53 ?_
        refine z_lstore (L' := [some (.ref (z_ad g 18)), some (.int x1), none, none, none, some (.long (x5 + (S.2.2.2.1 21 x7.toNatClampNeg))), none, some (.int x7)]) cx (by decide) rfl dX2_costOf_54 ?_
        exact q_weak (z_wk_s (z_wk_s (z_wk_n (z_wk_n (z_wk_n (z_wk_s (z_wk_n (z_wk_s (z_wk_0))))))))) (t_X2_costOf_56 n cx ce (f_X2_costOf_28 n m) ih x1 (x5 + (S.2.2.2.1 21 x7.toNatClampNeg)) x7 S h)
def f_X2_costOf_23 (n : Nat) (x1 : Int32) (y0 : Int64) (S : z_Stt) : Option (Int64 × z_Stt) :=
  f_X2_costOf_28 n n x1 y0 0 S
set_option maxHeartbeats 4000000 in
set_option maxRecDepth 100000 in
theorem t_X2_costOf_23 {g : z_G} {K : z_K} (n : Nat) {v : Int64} {S' : z_Stt} (cx : z_C g M_X2_costOf 1 K) (ce : z_E' g M_X2_costOf (z_P g (some (.long v)) S') K) (x1 : Int32) (y0 : Int64) (S : z_Stt) (h : f_X2_costOf_23 n x1 y0 S = some (v, S')) : z_At g M_X2_costOf K 23 [some (.ref (z_ad g 18)), some (.int x1), none, none, none, none, none, none] [.long y0] (hp g S) := by
  unfold f_X2_costOf_23 at h
  refine z_lstore (L' := [some (.ref (z_ad g 18)), some (.int x1), none, none, none, some (.long y0), none, none]) cx (by decide) rfl dX2_costOf_23 ?_
  refine z_iconst (v := 0) cx (by decide +kernel) dX2_costOf_25 ?_
  refine z_istore (L' := [some (.ref (z_ad g 18)), some (.int x1), none, none, none, some (.long y0), none, some (.int 0)]) cx (by decide) rfl dX2_costOf_26 ?_
  exact q_weak (z_wk_s (z_wk_s (z_wk_n (z_wk_n (z_wk_n (z_wk_s (z_wk_n (z_wk_s (z_wk_0))))))))) (t_X2_costOf_28 n cx ce n x1 y0 0 S h)
def f_X2_costOf (n : Nat) (a0 : Int32) (a1 : Int64) (a2 : Int32) (S : z_Stt) : Option (Int64 × z_Stt) :=
  if a0 = 0 then
    f_X2_costOf_23 n a0 0 S
  else
    g_bd (f_J6_bitCount_0f7a4 a0 S) fun v2 S3 =>
    f_X2_costOf_23 n a0 ((S.2.1 1804) * (a1 + (Int32.toInt64 (a2 * v2)))) S3
set_option maxHeartbeats 4000000 in
set_option maxRecDepth 100000 in
theorem t_X2_costOf {g : z_G} {K : z_K} (n : Nat) {v : Int64} {S' : z_Stt} (cx : z_C g M_X2_costOf 1 K) (ce : z_E' g M_X2_costOf (z_P g (some (.long v)) S') K) (a0 : Int32) (a1 : Int64) (a2 : Int32) (S : z_Stt) (h : f_X2_costOf n a0 a1 a2 S = some (v, S')) : z_At g M_X2_costOf K 0 [some (.ref (z_ad g 18)), some (.int a0), some (.long a1), none, some (.int a2), none, none, none] [] (hp g S) := by
  unfold f_X2_costOf at h
  refine z_iload_n cx rfl rfl dX2_costOf_0 ?_
  refine z_if_ne (tgt := 8) cx (by decide) dX2_costOf_1 (fun c1 => ?_) (fun c1 => ?_)
  · have h := g_f c1 h
    refine z_aload_n cx rfl rfl dX2_costOf_8 ?_
    refine q_getJ (k := 18) (n := 1804) cx z_cl2 (j := 4) (by decide) tb_105 rfl (by decide) rfl rfl rfl dX2_costOf_9 ?_
    refine z_lload_n cx rfl rfl dX2_costOf_12 ?_
    refine z_iload cx rfl dX2_costOf_13 ?_
    refine z_iload_n cx rfl rfl dX2_costOf_15 ?_
    obtain ⟨v2, S3, e4, h⟩ := g_bd_ex h
    refine q_csi (As := [.int a0]) cx mo_J6_bitCount_0f7a4 ms_J6_bitCount_0f7a4 tb_626 (by decide) rfl rfl (Nat.le_of_ble_eq_true rfl) dX2_costOf_16 (c_J6_bitCount_0f7a4 a0 _ e4) ?_
    refine z_imul cx dX2_costOf_19 ?_
    refine z_i2l cx dX2_costOf_20 ?_
    refine z_ladd cx dX2_costOf_21 ?_
    refine z_lmul cx dX2_costOf_22 ?_
    exact q_weak (z_wk_s (z_wk_s (z_wk_n (z_wk_n (z_wk_n (z_wk_n (z_wk_n (z_wk_n (z_wk_0))))))))) (t_X2_costOf_23 n cx ce a0 ((S.2.1 1804) * (a1 + (Int32.toInt64 (a2 * v2)))) S3 h)
  · have h := g_t c1 h
    refine z_lconst (v := 0) cx (by decide +kernel) dX2_costOf_4 ?_
    refine z_goto (tgt := 23) cx (by decide) dX2_costOf_5 ?_
    exact q_weak (z_wk_s (z_wk_s (z_wk_n (z_wk_n (z_wk_n (z_wk_n (z_wk_n (z_wk_n (z_wk_0))))))))) (t_X2_costOf_23 n cx ce a0 0 S h)
theorem c_X2_costOf {g : z_G} {n : Nat} (a0 : Int32) (a1 : Int64) (a2 : Int32) (S : z_Stt) {v : Int64} {S' : z_Stt} (h : f_X2_costOf n a0 a1 a2 S = some (v, S')) : z_Ct g M_X2_costOf 1 [.ref (z_ad g 18), .int a0, .long a1, .int a2] (hp g S) (z_P g (some (.long v)) S') :=
  z_Ct.of (by decide +kernel) rfl (Nat.le_of_ble_eq_true rfl) (fun K cx ce => q_weak (L' := [some (.ref (z_ad g 18)), some (.int a0), some (.long a1), none, some (.int a2), none, none, none]) (z_wk_s (z_wk_s (z_wk_s (z_wk_n (z_wk_s (z_wk_e (z_wk_e (z_wk_e (z_wk_0))))))))) (t_X2_costOf n cx ce a0 a1 a2 S h))
abbrev M_X2_bestLooks : z_M := (RX2, yX2_bestLooks, cX2_bestLooks, 8, some .int)
theorem mo_X2_bestLooks : z_mo M_X2_bestLooks 2 := ⟨tb_621, tb_37, rfl, ⟨by decide +kernel, by decide +kernel⟩, by decide +kernel, by decide⟩
theorem mv_X2_bestLooks : z_mv M_X2_bestLooks := ⟨tb_619, tb_620⟩
def f_X2_bestLooks_59 (n : Nat) (k12 : Int64 → Int32 → Int32 → Int64 → Int32 → z_Stt → Option (Int32 × z_Stt)) (x1 : Int64) (x3 : Int32) (x4 : Int32) (x5 : Int64) (x7 : Int32) (S : z_Stt) : Option (Int32 × z_Stt) :=
  k12 x1 x3 x4 x5 (x7 + 1) S
set_option maxHeartbeats 4000000 in
set_option maxRecDepth 100000 in
theorem t_X2_bestLooks_59 {g : z_G} {K : z_K} (n : Nat) {v : Int32} {S' : z_Stt} (cx : z_C g M_X2_bestLooks 2 K) (ce : z_E' g M_X2_bestLooks (z_P g (some (.int v)) S') K) (k12 : Int64 → Int32 → Int32 → Int64 → Int32 → z_Stt → Option (Int32 × z_Stt)) (hk12 : ∀ (x1 : Int64) (x3 : Int32) (x4 : Int32) (x5 : Int64) (x7 : Int32) (S : z_Stt), k12 x1 x3 x4 x5 x7 S = some (v, S') → z_At g M_X2_bestLooks K 12 [some (.ref (z_ad g 18)), some (.long x1), none, some (.int x3), some (.int x4), some (.long x5), none, some (.int x7)] [] (hp g S)) (x1 : Int64) (x3 : Int32) (x4 : Int32) (x5 : Int64) (x7 : Int32) (S : z_Stt) (h : f_X2_bestLooks_59 n k12 x1 x3 x4 x5 x7 S = some (v, S')) : z_At g M_X2_bestLooks K 59 [some (.ref (z_ad g 18)), some (.long x1), none, some (.int x3), some (.int x4), some (.long x5), none, some (.int x7)] [] (hp g S) := by
  unfold f_X2_bestLooks_59 at h
  refine z_iinc (c := 1) (L' := [some (.ref (z_ad g 18)), some (.long x1), none, some (.int x3), some (.int x4), some (.long x5), none, some (.int (x7 + 1))]) cx rfl (by decide +kernel) (by decide) rfl dX2_bestLooks_59 ?_
  refine z_goto (tgt := 12) cx (by decide) dX2_bestLooks_62 ?_
  exact q_weak (z_wk_s (z_wk_s (z_wk_n (z_wk_s (z_wk_s (z_wk_s (z_wk_n (z_wk_s (z_wk_0))))))))) (hk12 x1 x3 x4 x5 (x7 + 1) S h)
def f_X2_bestLooks_12 (n : Nat) : Nat → Int64 → Int32 → Int32 → Int64 → Int32 → z_Stt → Option (Int32 × z_Stt)
  | 0, _, _, _, _, _, _ => none
  | m + 1, x1, x3, x4, x5, x7, S =>
    if 63 < x7 then
      some (x4, S)
    else
      if x7 &&& ((S.1 1800) ^^^ (-1)) = 0 then
        g_bd (f_X2_costOf n x7 x1 x3 S) fun v3 S4 =>
        if 0 ≤ lg_cmp v3 x5 then
          f_X2_bestLooks_59 n (f_X2_bestLooks_12 n m) x1 x3 x4 x5 x7 S4
        else
          g_bd (f_X2_costOf n x7 x1 x3 S4) fun v7 S8 =>
          f_X2_bestLooks_59 n (f_X2_bestLooks_12 n m) x1 x3 x7 v7 x7 S8
      else
        f_X2_bestLooks_59 n (f_X2_bestLooks_12 n m) x1 x3 x4 x5 x7 S
set_option maxHeartbeats 4000000 in
set_option maxRecDepth 100000 in
theorem t_X2_bestLooks_12 {g : z_G} {K : z_K} (n : Nat) {v : Int32} {S' : z_Stt} (cx : z_C g M_X2_bestLooks 2 K) (ce : z_E' g M_X2_bestLooks (z_P g (some (.int v)) S') K) : ∀ (m : Nat) (x1 : Int64) (x3 : Int32) (x4 : Int32) (x5 : Int64) (x7 : Int32) (S : z_Stt) (h : f_X2_bestLooks_12 n m x1 x3 x4 x5 x7 S = some (v, S')), z_At g M_X2_bestLooks K 12 [some (.ref (z_ad g 18)), some (.long x1), none, some (.int x3), some (.int x4), some (.long x5), none, some (.int x7)] [] (hp g S) := by
  intro m
  induction m with
  | zero => intro x1 x3 x4 x5 x7 S h; simp [f_X2_bestLooks_12] at h
  | succ m ih =>
    intro x1 x3 x4 x5 x7 S h
    rw [f_X2_bestLooks_12] at h
    refine z_iload cx rfl dX2_bestLooks_12 ?_
    refine z_bipush (v := 63) cx (by decide +kernel) dX2_bestLooks_14 ?_
    refine z_icmp_gt (tgt := 65) cx (by decide) dX2_bestLooks_16 (fun c1 => ?_) (fun c1 => ?_)
    · have h := g_t c1 h
      refine z_iload cx rfl dX2_bestLooks_65 ?_
      obtain ⟨rfl, rfl⟩ := g_some h
      exact z_ireturn cx ce rfl ⟨rfl, rfl⟩ dX2_bestLooks_67
    · have h := g_f c1 h
      refine z_iload cx rfl dX2_bestLooks_19 ?_
      refine z_aload_n cx rfl rfl dX2_bestLooks_21 ?_
      refine q_getI (k := 18) (n := 1800) cx z_cl2 (j := 0) (by decide) tb_99 rfl (by decide) rfl rfl rfl dX2_bestLooks_22 ?_
      refine z_iconst (v := (-1)) cx (by decide +kernel) dX2_bestLooks_25 ?_
      refine z_ixor cx dX2_bestLooks_26 ?_
      refine z_iand cx dX2_bestLooks_27 ?_
      refine z_if_ne (tgt := 59) cx (by decide) dX2_bestLooks_28 (fun c2 => ?_) (fun c2 => ?_)
      · have h := g_f c2 h
        exact q_weak (z_wk_s (z_wk_s (z_wk_n (z_wk_s (z_wk_s (z_wk_s (z_wk_n (z_wk_s (z_wk_0))))))))) (t_X2_bestLooks_59 n cx ce (f_X2_bestLooks_12 n m) ih x1 x3 x4 x5 x7 S h)
      · have h := g_t c2 h
        refine z_aload_n cx rfl rfl dX2_bestLooks_31 ?_
        refine z_iload cx rfl dX2_bestLooks_32 ?_
        refine z_lload_n cx rfl rfl dX2_bestLooks_34 ?_
        refine z_iload_n cx rfl rfl dX2_bestLooks_35 ?_
        obtain ⟨v3, S4, e5, h⟩ := g_bd_ex h
        refine q_cvl (As := [.int x7, .long x1, .int x3]) cx mo_X2_costOf mv_X2_costOf z_cl2 rfl tb_622 (by decide) rfl (by decide) rfl rfl (Nat.le_of_ble_eq_true rfl) dX2_bestLooks_36 (c_X2_costOf x7 x1 x3 _ e5) ?_
        refine z_lload cx rfl dX2_bestLooks_39 ?_
        refine z_lcmp cx dX2_bestLooks_41 ?_
        refine z_if_ge (tgt := 59) cx (by decide) dX2_bestLooks_42 (fun c6 => ?_) (fun c6 => ?_)
        · have h := g_t c6 h
          exact q_weak (z_wk_s (z_wk_s (z_wk_n (z_wk_s (z_wk_s (z_wk_s (z_wk_n (z_wk_s (z_wk_0))))))))) (t_X2_bestLooks_59 n cx ce (f_X2_bestLooks_12 n m) ih x1 x3 x4 x5 x7 S4 h)
        · have h := g_f c6 h
          refine z_iload cx rfl dX2_bestLooks_45 ?_
          refine z_istore (L' := [some (.ref (z_ad g 18)), some (.long x1), none, some (.int x3), some (.int x7), some (.long x5), none, some (.int x7)]) cx (by decide) rfl dX2_bestLooks_47 ?_
          refine z_aload_n cx rfl rfl dX2_bestLooks_49 ?_
          refine z_iload cx rfl dX2_bestLooks_50 ?_
          refine z_lload_n cx rfl rfl dX2_bestLooks_52 ?_
          refine z_iload_n cx rfl rfl dX2_bestLooks_53 ?_
          obtain ⟨v7, S8, e9, h⟩ := g_bd_ex h
          refine q_cvl (As := [.int x7, .long x1, .int x3]) cx mo_X2_costOf mv_X2_costOf z_cl2 rfl tb_622 (by decide) rfl (by decide) rfl rfl (Nat.le_of_ble_eq_true rfl) dX2_bestLooks_54 (c_X2_costOf x7 x1 x3 _ e9) ?_
          refine z_lstore (L' := [some (.ref (z_ad g 18)), some (.long x1), none, some (.int x3), some (.int x7), some (.long v7), none, some (.int x7)]) cx (by decide) rfl dX2_bestLooks_57 ?_
          exact q_weak (z_wk_s (z_wk_s (z_wk_n (z_wk_s (z_wk_s (z_wk_s (z_wk_n (z_wk_s (z_wk_0))))))))) (t_X2_bestLooks_59 n cx ce (f_X2_bestLooks_12 n m) ih x1 x3 x7 v7 x7 S8 h)
def f_X2_bestLooks (n : Nat) (a0 : Int64) (a1 : Int32) (S : z_Stt) : Option (Int32 × z_Stt) :=
  f_X2_bestLooks_12 n n a0 a1 0 (S.2.1 1805) 1 S
set_option maxHeartbeats 4000000 in
set_option maxRecDepth 100000 in
theorem t_X2_bestLooks {g : z_G} {K : z_K} (n : Nat) {v : Int32} {S' : z_Stt} (cx : z_C g M_X2_bestLooks 2 K) (ce : z_E' g M_X2_bestLooks (z_P g (some (.int v)) S') K) (a0 : Int64) (a1 : Int32) (S : z_Stt) (h : f_X2_bestLooks n a0 a1 S = some (v, S')) : z_At g M_X2_bestLooks K 0 [some (.ref (z_ad g 18)), some (.long a0), none, some (.int a1), none, none, none, none] [] (hp g S) := by
  unfold f_X2_bestLooks at h
  refine z_iconst (v := 0) cx (by decide +kernel) dX2_bestLooks_0 ?_
  refine z_istore (L' := [some (.ref (z_ad g 18)), some (.long a0), none, some (.int a1), some (.int 0), none, none, none]) cx (by decide) rfl dX2_bestLooks_1 ?_
  refine z_aload_n cx rfl rfl dX2_bestLooks_3 ?_
  refine q_getJ (k := 18) (n := 1805) cx z_cl2 (j := 5) (by decide) tb_106 rfl (by decide) rfl rfl rfl dX2_bestLooks_4 ?_
  refine z_lstore (L' := [some (.ref (z_ad g 18)), some (.long a0), none, some (.int a1), some (.int 0), some (.long (S.2.1 1805)), none, none]) cx (by decide) rfl dX2_bestLooks_7 ?_
  refine z_iconst (v := 1) cx (by decide +kernel) dX2_bestLooks_9 ?_
  refine z_istore (L' := [some (.ref (z_ad g 18)), some (.long a0), none, some (.int a1), some (.int 0), some (.long (S.2.1 1805)), none, some (.int 1)]) cx (by decide) rfl dX2_bestLooks_10 ?_
  exact q_weak (z_wk_s (z_wk_s (z_wk_n (z_wk_s (z_wk_s (z_wk_s (z_wk_n (z_wk_s (z_wk_0))))))))) (t_X2_bestLooks_12 n cx ce n a0 a1 0 (S.2.1 1805) 1 S h)
theorem c_X2_bestLooks {g : z_G} {n : Nat} (a0 : Int64) (a1 : Int32) (S : z_Stt) {v : Int32} {S' : z_Stt} (h : f_X2_bestLooks n a0 a1 S = some (v, S')) : z_Ct g M_X2_bestLooks 2 [.ref (z_ad g 18), .long a0, .int a1] (hp g S) (z_P g (some (.int v)) S') :=
  z_Ct.of (by decide +kernel) rfl (Nat.le_of_ble_eq_true rfl) (fun K cx ce => q_weak (L' := [some (.ref (z_ad g 18)), some (.long a0), none, some (.int a1), none, none, none, none]) (z_wk_s (z_wk_s (z_wk_n (z_wk_s (z_wk_e (z_wk_e (z_wk_e (z_wk_e (z_wk_0))))))))) (t_X2_bestLooks n cx ce a0 a1 S h))
abbrev M_X2_worst : z_M := (RX2, yX2_worst, cX2_worst, 3, some .int)
theorem mo_X2_worst : z_mo M_X2_worst 0 := ⟨tb_662, tb_37, rfl, ⟨by decide +kernel, by decide +kernel⟩, by decide +kernel, by decide⟩
theorem mv_X2_worst : z_mv M_X2_worst := ⟨tb_660, tb_661⟩
def f_X2_worst_59 (n : Nat) (k4 : Int32 → Int32 → z_Stt → Option (Int32 × z_Stt)) (x1 : Int32) (x2 : Int32) (S : z_Stt) : Option (Int32 × z_Stt) :=
  k4 x1 (x2 + 1) S
set_option maxHeartbeats 4000000 in
set_option maxRecDepth 100000 in
theorem t_X2_worst_59 {g : z_G} {K : z_K} (n : Nat) {v : Int32} {S' : z_Stt} (cx : z_C g M_X2_worst 1 K) (ce : z_E' g M_X2_worst (z_P g (some (.int v)) S') K) (k4 : Int32 → Int32 → z_Stt → Option (Int32 × z_Stt)) (hk4 : ∀ (x1 : Int32) (x2 : Int32) (S : z_Stt), k4 x1 x2 S = some (v, S') → z_At g M_X2_worst K 4 [some (.ref (z_ad g 18)), some (.int x1), some (.int x2)] [] (hp g S)) (x1 : Int32) (x2 : Int32) (S : z_Stt) (h : f_X2_worst_59 n k4 x1 x2 S = some (v, S')) : z_At g M_X2_worst K 59 [some (.ref (z_ad g 18)), some (.int x1), some (.int x2)] [] (hp g S) := by
  unfold f_X2_worst_59 at h
  refine z_iinc (c := 1) (L' := [some (.ref (z_ad g 18)), some (.int x1), some (.int (x2 + 1))]) cx rfl (by decide +kernel) (by decide) rfl dX2_worst_59 ?_
  refine z_goto (tgt := 4) cx (by decide) dX2_worst_62 ?_
  exact q_weak (z_wk_s (z_wk_s (z_wk_s (z_wk_0)))) (hk4 x1 (x2 + 1) S h)
def f_X2_worst_57 (n : Nat) (k4 : Int32 → Int32 → z_Stt → Option (Int32 × z_Stt)) (x2 : Int32) (S : z_Stt) : Option (Int32 × z_Stt) :=
  f_X2_worst_59 n k4 x2 x2 S
set_option maxHeartbeats 4000000 in
set_option maxRecDepth 100000 in
theorem t_X2_worst_57 {g : z_G} {K : z_K} (n : Nat) {v : Int32} {S' : z_Stt} (cx : z_C g M_X2_worst 1 K) (ce : z_E' g M_X2_worst (z_P g (some (.int v)) S') K) (k4 : Int32 → Int32 → z_Stt → Option (Int32 × z_Stt)) (hk4 : ∀ (x1 : Int32) (x2 : Int32) (S : z_Stt), k4 x1 x2 S = some (v, S') → z_At g M_X2_worst K 4 [some (.ref (z_ad g 18)), some (.int x1), some (.int x2)] [] (hp g S)) (x2 : Int32) (S : z_Stt) (h : f_X2_worst_57 n k4 x2 S = some (v, S')) : z_At g M_X2_worst K 57 [some (.ref (z_ad g 18)), none, some (.int x2)] [] (hp g S) := by
  unfold f_X2_worst_57 at h
  refine z_iload_n cx rfl rfl dX2_worst_57 ?_
  refine z_istore_n (L' := [some (.ref (z_ad g 18)), some (.int x2), some (.int x2)]) cx rfl (by decide) rfl dX2_worst_58 ?_
  exact q_weak (z_wk_s (z_wk_s (z_wk_s (z_wk_0)))) (t_X2_worst_59 n cx ce k4 hk4 x2 x2 S h)
def f_X2_worst_4 (n : Nat) : Nat → Int32 → Int32 → z_Stt → Option (Int32 × z_Stt)
  | 0, _, _, _ => none
  | m + 1, x1, x2, S =>
    if 6 ≤ x2 then
      some (x1, S)
    else
      g_bd (f_X2_has x2 S) fun v2 S3 =>
      if v2 = true then
        if x1 < 0 then
          f_X2_worst_57 n (f_X2_worst_4 n m) x2 S3
        else
          if ¬ (x2 < 0 ∨ 6 ≤ x2.toNatClampNeg) then
            g_bd (f_X4_of144 (22 + x2.toNatClampNeg) S3) fun v8 S9 =>
            if ¬ (x2 < 0 ∨ 6 ≤ x2.toNatClampNeg) then
              if ¬ (x1 < 0 ∨ 6 ≤ x1.toNatClampNeg) then
                g_bd (f_X4_of144 (22 + x1.toNatClampNeg) S9) fun v13 S14 =>
                if ¬ (x1 < 0 ∨ 6 ≤ x1.toNatClampNeg) then
                  if v8 * (S9.2.2.1 20 x2.toNatClampNeg) ≤ v13 * (S14.2.2.1 20 x1.toNatClampNeg) then
                    f_X2_worst_59 n (f_X2_worst_4 n m) x1 x2 S14
                  else
                    f_X2_worst_57 n (f_X2_worst_4 n m) x2 S14
                else none
              else none
            else none
          else none
      else
        f_X2_worst_59 n (f_X2_worst_4 n m) x1 x2 S3
set_option maxHeartbeats 4000000 in
set_option maxRecDepth 100000 in
theorem t_X2_worst_4 {g : z_G} {K : z_K} (n : Nat) {v : Int32} {S' : z_Stt} (cx : z_C g M_X2_worst 1 K) (ce : z_E' g M_X2_worst (z_P g (some (.int v)) S') K) : ∀ (m : Nat) (x1 : Int32) (x2 : Int32) (S : z_Stt) (h : f_X2_worst_4 n m x1 x2 S = some (v, S')), z_At g M_X2_worst K 4 [some (.ref (z_ad g 18)), some (.int x1), some (.int x2)] [] (hp g S) := by
  intro m
  induction m with
  | zero => intro x1 x2 S h; simp [f_X2_worst_4] at h
  | succ m ih =>
    intro x1 x2 S h
    rw [f_X2_worst_4] at h
    refine z_iload_n cx rfl rfl dX2_worst_4 ?_
    refine z_bipush (v := 6) cx (by decide +kernel) dX2_worst_5 ?_
    refine z_icmp_ge (tgt := 65) cx (by decide) dX2_worst_7 (fun c1 => ?_) (fun c1 => ?_)
    · have h := g_t c1 h
      refine z_iload_n cx rfl rfl dX2_worst_65 ?_
      obtain ⟨rfl, rfl⟩ := g_some h
      exact z_ireturn cx ce rfl ⟨rfl, rfl⟩ dX2_worst_66
    · have h := g_f c1 h
      refine z_aload_n cx rfl rfl dX2_worst_10 ?_
      refine z_iload_n cx rfl rfl dX2_worst_11 ?_
      obtain ⟨v2, S3, e4, h⟩ := g_bd_ex h
      refine q_cvi (As := [.int x2]) cx mo_X2_has mv_X2_has z_cl2 rfl tb_608 (by decide) rfl (by decide) rfl rfl (Nat.le_of_ble_eq_true rfl) dX2_worst_12 (c_X2_has x2 _ e4) ?_
      refine q_ifb_eq (tgt := 59) cx (by decide) dX2_worst_15 (fun c5 => ?_) (fun c5 => ?_)
      · have h := g_f (Bool.eq_false_iff.mp c5) h
        exact q_weak (z_wk_s (z_wk_s (z_wk_s (z_wk_0)))) (t_X2_worst_59 n cx ce (f_X2_worst_4 n m) ih x1 x2 S3 h)
      · have h := g_t c5 h
        refine z_iload_n cx rfl rfl dX2_worst_18 ?_
        refine z_if_lt (tgt := 57) cx (by decide) dX2_worst_19 (fun c6 => ?_) (fun c6 => ?_)
        · have h := g_t c6 h
          exact q_weak (z_wk_s (z_wk_n (z_wk_s (z_wk_0)))) (t_X2_worst_57 n cx ce (f_X2_worst_4 n m) ih x2 S3 h)
        · have h := g_f c6 h
          refine z_aload_n cx rfl rfl dX2_worst_22 ?_
          refine q_getF (k := 18) (n := 19) (r := 1) cx z_cl2 (j := 1) (by decide) tb_101 rfl (by decide) rfl rfl rfl dX2_worst_23 ?_
          refine z_iload_n cx rfl rfl dX2_worst_26 ?_
          obtain ⟨c7, h⟩ := g_if h
          refine q_aald_F cx (by decide) rfl c7 dX2_worst_27 ?_
          obtain ⟨v8, S9, e10, h⟩ := g_bd_ex h
          refine q_cvi (As := []) cx mo_X4_of144 mv_X4_of144 z_cl4 rfl tb_663 (by decide) rfl (wp4_of c7).1 (wp4_of c7).2 rfl (Nat.le_of_ble_eq_true rfl) dX2_worst_28 (c_X4_of144 (22 + x2.toNatClampNeg) _ (wp4_of c7) e10) ?_
          refine z_aload_n cx rfl rfl dX2_worst_31 ?_
          refine q_getF (k := 18) (n := 20) (r := 2) cx z_cl2 (j := 2) (by decide) tb_102 rfl (by decide) rfl rfl rfl dX2_worst_32 ?_
          refine z_iload_n cx rfl rfl dX2_worst_35 ?_
          obtain ⟨c11, h⟩ := g_if h
          refine q_iald cx (by decide) rfl c11 dX2_worst_36 ?_
          refine z_imul cx dX2_worst_37 ?_
          refine z_aload_n cx rfl rfl dX2_worst_38 ?_
          refine q_getF (k := 18) (n := 19) (r := 1) cx z_cl2 (j := 1) (by decide) tb_101 rfl (by decide) rfl rfl rfl dX2_worst_39 ?_
          refine z_iload_n cx rfl rfl dX2_worst_42 ?_
          obtain ⟨c12, h⟩ := g_if h
          refine q_aald_F cx (by decide) rfl c12 dX2_worst_43 ?_
          obtain ⟨v13, S14, e15, h⟩ := g_bd_ex h
          refine q_cvi (As := []) cx mo_X4_of144 mv_X4_of144 z_cl4 rfl tb_663 (by decide) rfl (wp4_of c12).1 (wp4_of c12).2 rfl (Nat.le_of_ble_eq_true rfl) dX2_worst_44 (c_X4_of144 (22 + x1.toNatClampNeg) _ (wp4_of c12) e15) ?_
          refine z_aload_n cx rfl rfl dX2_worst_47 ?_
          refine q_getF (k := 18) (n := 20) (r := 2) cx z_cl2 (j := 2) (by decide) tb_102 rfl (by decide) rfl rfl rfl dX2_worst_48 ?_
          refine z_iload_n cx rfl rfl dX2_worst_51 ?_
          obtain ⟨c16, h⟩ := g_if h
          refine q_iald cx (by decide) rfl c16 dX2_worst_52 ?_
          refine z_imul cx dX2_worst_53 ?_
          refine z_icmp_le (tgt := 59) cx (by decide) dX2_worst_54 (fun c17 => ?_) (fun c17 => ?_)
          · have h := g_t c17 h
            exact q_weak (z_wk_s (z_wk_s (z_wk_s (z_wk_0)))) (t_X2_worst_59 n cx ce (f_X2_worst_4 n m) ih x1 x2 S14 h)
          · have h := g_f c17 h
            exact q_weak (z_wk_s (z_wk_n (z_wk_s (z_wk_0)))) (t_X2_worst_57 n cx ce (f_X2_worst_4 n m) ih x2 S14 h)
def f_X2_worst (n : Nat) (S : z_Stt) : Option (Int32 × z_Stt) :=
  f_X2_worst_4 n n (-1) 0 S
set_option maxHeartbeats 4000000 in
set_option maxRecDepth 100000 in
theorem t_X2_worst {g : z_G} {K : z_K} (n : Nat) {v : Int32} {S' : z_Stt} (cx : z_C g M_X2_worst 1 K) (ce : z_E' g M_X2_worst (z_P g (some (.int v)) S') K) (S : z_Stt) (h : f_X2_worst n S = some (v, S')) : z_At g M_X2_worst K 0 [some (.ref (z_ad g 18)), none, none] [] (hp g S) := by
  unfold f_X2_worst at h
  refine z_iconst (v := (-1)) cx (by decide +kernel) dX2_worst_0 ?_
  refine z_istore_n (L' := [some (.ref (z_ad g 18)), some (.int (-1)), none]) cx rfl (by decide) rfl dX2_worst_1 ?_
  refine z_iconst (v := 0) cx (by decide +kernel) dX2_worst_2 ?_
  refine z_istore_n (L' := [some (.ref (z_ad g 18)), some (.int (-1)), some (.int 0)]) cx rfl (by decide) rfl dX2_worst_3 ?_
  exact q_weak (z_wk_s (z_wk_s (z_wk_s (z_wk_0)))) (t_X2_worst_4 n cx ce n (-1) 0 S h)
theorem c_X2_worst {g : z_G} {n : Nat} (S : z_Stt) {v : Int32} {S' : z_Stt} (h : f_X2_worst n S = some (v, S')) : z_Ct g M_X2_worst 1 [.ref (z_ad g 18)] (hp g S) (z_P g (some (.int v)) S') :=
  z_Ct.of (by decide +kernel) rfl (Nat.le_of_ble_eq_true rfl) (fun K cx ce => q_weak (L' := [some (.ref (z_ad g 18)), none, none]) (z_wk_s (z_wk_e (z_wk_e (z_wk_0)))) (t_X2_worst n cx ce S h))
abbrev M_X2_costOfRinging : z_M := (RX2, yX2_costOfRinging, cX2_costOfRinging, 11, some .long)
theorem mo_X2_costOfRinging : z_mo M_X2_costOfRinging 4 := ⟨tb_694, tb_37, rfl, ⟨by decide +kernel, by decide +kernel⟩, by decide +kernel, by decide⟩
theorem mv_X2_costOfRinging : z_mv M_X2_costOfRinging := ⟨tb_692, tb_693⟩
def f_X2_costOfRinging_140 (n : Nat) (k92 : Int64 → Int32 → Int32 → Int32 → Int64 → Int64 → Int32 → z_Stt → Option (Int64 × z_Stt)) (x1 : Int64) (x3 : Int32) (x4 : Int32) (x5 : Int32) (x6 : Int64) (x8 : Int64) (x10 : Int32) (S : z_Stt) : Option (Int64 × z_Stt) :=
  k92 x1 x3 x4 x5 x6 x8 (x10 + 1) S
set_option maxHeartbeats 4000000 in
set_option maxRecDepth 100000 in
theorem t_X2_costOfRinging_140 {g : z_G} {K : z_K} (n : Nat) {v : Int64} {S' : z_Stt} (cx : z_C g M_X2_costOfRinging 1 K) (ce : z_E' g M_X2_costOfRinging (z_P g (some (.long v)) S') K) (k92 : Int64 → Int32 → Int32 → Int32 → Int64 → Int64 → Int32 → z_Stt → Option (Int64 × z_Stt)) (hk92 : ∀ (x1 : Int64) (x3 : Int32) (x4 : Int32) (x5 : Int32) (x6 : Int64) (x8 : Int64) (x10 : Int32) (S : z_Stt), k92 x1 x3 x4 x5 x6 x8 x10 S = some (v, S') → z_At g M_X2_costOfRinging K 92 [some (.ref (z_ad g 18)), some (.long x1), none, some (.int x3), some (.int x4), some (.int x5), some (.long x6), none, some (.long x8), none, some (.int x10)] [] (hp g S)) (x1 : Int64) (x3 : Int32) (x4 : Int32) (x5 : Int32) (x6 : Int64) (x8 : Int64) (x10 : Int32) (S : z_Stt) (h : f_X2_costOfRinging_140 n k92 x1 x3 x4 x5 x6 x8 x10 S = some (v, S')) : z_At g M_X2_costOfRinging K 140 [some (.ref (z_ad g 18)), some (.long x1), none, some (.int x3), some (.int x4), some (.int x5), some (.long x6), none, some (.long x8), none, some (.int x10)] [] (hp g S) := by
  unfold f_X2_costOfRinging_140 at h
  refine z_iinc (c := 1) (L' := [some (.ref (z_ad g 18)), some (.long x1), none, some (.int x3), some (.int x4), some (.int x5), some (.long x6), none, some (.long x8), none, some (.int (x10 + 1))]) cx rfl (by decide +kernel) (by decide) rfl dX2_costOfRinging_140 ?_
  refine z_goto (tgt := 92) cx (by decide) dX2_costOfRinging_143 ?_
  exact q_weak (z_wk_s (z_wk_s (z_wk_n (z_wk_s (z_wk_s (z_wk_s (z_wk_s (z_wk_n (z_wk_s (z_wk_n (z_wk_s (z_wk_0)))))))))))) (hk92 x1 x3 x4 x5 x6 x8 (x10 + 1) S h)
def f_X2_costOfRinging_92 (n : Nat) : Nat → Int64 → Int32 → Int32 → Int32 → Int64 → Int64 → Int32 → z_Stt → Option (Int64 × z_Stt)
  | 0, _, _, _, _, _, _, _, _ => none
  | m + 1, x1, x3, x4, x5, x6, x8, x10, S =>
    if 6 ≤ x10 then
      some ((((12 * (S.2.1 1804)) * (Int32.toInt64 x3)) + ((Int32.toInt64 x4) * x8)) + ((Int32.toInt64 (12 - x4)) * (if x1 * (S.2.1 1804) < S.2.1 1805 then x1 * (S.2.1 1804) else S.2.1 1805)), S)
    else
      g_bd (f_X2_has x10 S) fun v2 S3 =>
      if v2 = true then
        if (x5 >>> (x10 &&& 31)) &&& 1 = 0 then
          if ¬ (x10 < 0 ∨ 6 ≤ x10.toNatClampNeg) then
            g_bd (f_X2_chance x10 x6 S3) fun v8 S9 =>
            f_X2_costOfRinging_140 n (f_X2_costOfRinging_92 n m) x1 x3 x4 x5 x6 (x8 + ((Int32.toInt64 (S3.2.2.1 20 x10.toNatClampNeg)) * v8)) x10 S9
          else none
        else
          f_X2_costOfRinging_140 n (f_X2_costOfRinging_92 n m) x1 x3 x4 x5 x6 x8 x10 S3
      else
        f_X2_costOfRinging_140 n (f_X2_costOfRinging_92 n m) x1 x3 x4 x5 x6 x8 x10 S3
set_option maxHeartbeats 4000000 in
set_option maxRecDepth 100000 in
theorem t_X2_costOfRinging_92 {g : z_G} {K : z_K} (n : Nat) {v : Int64} {S' : z_Stt} (cx : z_C g M_X2_costOfRinging 1 K) (ce : z_E' g M_X2_costOfRinging (z_P g (some (.long v)) S') K) : ∀ (m : Nat) (x1 : Int64) (x3 : Int32) (x4 : Int32) (x5 : Int32) (x6 : Int64) (x8 : Int64) (x10 : Int32) (S : z_Stt) (h : f_X2_costOfRinging_92 n m x1 x3 x4 x5 x6 x8 x10 S = some (v, S')), z_At g M_X2_costOfRinging K 92 [some (.ref (z_ad g 18)), some (.long x1), none, some (.int x3), some (.int x4), some (.int x5), some (.long x6), none, some (.long x8), none, some (.int x10)] [] (hp g S) := by
  intro m
  induction m with
  | zero => intro x1 x3 x4 x5 x6 x8 x10 S h; simp [f_X2_costOfRinging_92] at h
  | succ m ih =>
    intro x1 x3 x4 x5 x6 x8 x10 S h
    rw [f_X2_costOfRinging_92] at h
    refine z_iload cx rfl dX2_costOfRinging_92 ?_
    refine z_bipush (v := 6) cx (by decide +kernel) dX2_costOfRinging_94 ?_
    refine z_icmp_ge (tgt := 146) cx (by decide) dX2_costOfRinging_96 (fun c1 => ?_) (fun c1 => ?_)
    · have h := g_t c1 h
      refine z_ldc2 cx tb_695 dX2_costOfRinging_146 ?_
      refine z_aload_n cx rfl rfl dX2_costOfRinging_149 ?_
      refine q_getJ (k := 18) (n := 1804) cx z_cl2 (j := 4) (by decide) tb_105 rfl (by decide) rfl rfl rfl dX2_costOfRinging_150 ?_
      refine z_lmul cx dX2_costOfRinging_153 ?_
      refine z_iload_n cx rfl rfl dX2_costOfRinging_154 ?_
      refine z_i2l cx dX2_costOfRinging_155 ?_
      refine z_lmul cx dX2_costOfRinging_156 ?_
      refine z_iload cx rfl dX2_costOfRinging_157 ?_
      refine z_i2l cx dX2_costOfRinging_159 ?_
      refine z_lload cx rfl dX2_costOfRinging_160 ?_
      refine z_lmul cx dX2_costOfRinging_162 ?_
      refine z_ladd cx dX2_costOfRinging_163 ?_
      refine z_bipush (v := 12) cx (by decide +kernel) dX2_costOfRinging_164 ?_
      refine z_iload cx rfl dX2_costOfRinging_166 ?_
      refine z_isub cx dX2_costOfRinging_168 ?_
      refine z_i2l cx dX2_costOfRinging_169 ?_
      refine z_aload_n cx rfl rfl dX2_costOfRinging_170 ?_
      refine q_getJ (k := 18) (n := 1805) cx z_cl2 (j := 5) (by decide) tb_106 rfl (by decide) rfl rfl rfl dX2_costOfRinging_171 ?_
      refine z_lload_n cx rfl rfl dX2_costOfRinging_174 ?_
      refine z_aload_n cx rfl rfl dX2_costOfRinging_175 ?_
      refine q_getJ (k := 18) (n := 1804) cx z_cl2 (j := 4) (by decide) tb_105 rfl (by decide) rfl rfl rfl dX2_costOfRinging_176 ?_
      refine z_lmul cx dX2_costOfRinging_179 ?_
      refine z_lmin cx tb_696 tb_697 tb_239 tb_698 (by decide) (Nat.le_of_ble_eq_true rfl) dX2_costOfRinging_180 ?_
      refine z_lmul cx dX2_costOfRinging_183 ?_
      refine z_ladd cx dX2_costOfRinging_184 ?_
      obtain ⟨rfl, rfl⟩ := g_some h
      exact z_lreturn cx ce rfl ⟨rfl, rfl⟩ dX2_costOfRinging_185
    · have h := g_f c1 h
      refine z_aload_n cx rfl rfl dX2_costOfRinging_99 ?_
      refine z_iload cx rfl dX2_costOfRinging_100 ?_
      obtain ⟨v2, S3, e4, h⟩ := g_bd_ex h
      refine q_cvi (As := [.int x10]) cx mo_X2_has mv_X2_has z_cl2 rfl tb_608 (by decide) rfl (by decide) rfl rfl (Nat.le_of_ble_eq_true rfl) dX2_costOfRinging_102 (c_X2_has x10 _ e4) ?_
      refine q_ifb_eq (tgt := 140) cx (by decide) dX2_costOfRinging_105 (fun c5 => ?_) (fun c5 => ?_)
      · have h := g_f (Bool.eq_false_iff.mp c5) h
        exact q_weak (z_wk_s (z_wk_s (z_wk_n (z_wk_s (z_wk_s (z_wk_s (z_wk_s (z_wk_n (z_wk_s (z_wk_n (z_wk_s (z_wk_0)))))))))))) (t_X2_costOfRinging_140 n cx ce (f_X2_costOfRinging_92 n m) ih x1 x3 x4 x5 x6 x8 x10 S3 h)
      · have h := g_t c5 h
        refine z_iload cx rfl dX2_costOfRinging_108 ?_
        refine z_iload cx rfl dX2_costOfRinging_110 ?_
        refine z_ishr cx dX2_costOfRinging_112 ?_
        refine z_iconst (v := 1) cx (by decide +kernel) dX2_costOfRinging_113 ?_
        refine z_iand cx dX2_costOfRinging_114 ?_
        refine z_if_ne (tgt := 140) cx (by decide) dX2_costOfRinging_115 (fun c6 => ?_) (fun c6 => ?_)
        · have h := g_f c6 h
          exact q_weak (z_wk_s (z_wk_s (z_wk_n (z_wk_s (z_wk_s (z_wk_s (z_wk_s (z_wk_n (z_wk_s (z_wk_n (z_wk_s (z_wk_0)))))))))))) (t_X2_costOfRinging_140 n cx ce (f_X2_costOfRinging_92 n m) ih x1 x3 x4 x5 x6 x8 x10 S3 h)
        · have h := g_t c6 h
          refine z_lload cx rfl dX2_costOfRinging_118 ?_
          refine z_aload_n cx rfl rfl dX2_costOfRinging_120 ?_
          refine q_getF (k := 18) (n := 20) (r := 2) cx z_cl2 (j := 2) (by decide) tb_102 rfl (by decide) rfl rfl rfl dX2_costOfRinging_121 ?_
          refine z_iload cx rfl dX2_costOfRinging_124 ?_
          obtain ⟨c7, h⟩ := g_if h
          refine q_iald cx (by decide) rfl c7 dX2_costOfRinging_126 ?_
          refine z_i2l cx dX2_costOfRinging_127 ?_
          refine z_aload_n cx rfl rfl dX2_costOfRinging_128 ?_
          refine z_iload cx rfl dX2_costOfRinging_129 ?_
          refine z_lload cx rfl dX2_costOfRinging_131 ?_
          obtain ⟨v8, S9, e10, h⟩ := g_bd_ex h
          refine q_cvl (As := [.int x10, .long x6]) cx mo_X2_chance mv_X2_chance z_cl2 rfl tb_609 (by decide) rfl (by decide) rfl rfl (Nat.le_of_ble_eq_true rfl) dX2_costOfRinging_133 (c_X2_chance x10 x6 _ e10) ?_
          refine z_lmul cx dX2_costOfRinging_136 ?_
          refine z_ladd cx dX2_costOfRinging_137 ?_
          refine z_lstore (L' := [some (.ref (z_ad g 18)), some (.long x1), none, some (.int x3), some (.int x4), some (.int x5), some (.long x6), none, some (.long (x8 + ((Int32.toInt64 (S3.2.2.1 20 x10.toNatClampNeg)) * v8))), none, some (.int x10)]) cx (by decide) rfl dX2_costOfRinging_138 ?_
          exact q_weak (z_wk_s (z_wk_s (z_wk_n (z_wk_s (z_wk_s (z_wk_s (z_wk_s (z_wk_n (z_wk_s (z_wk_n (z_wk_s (z_wk_0)))))))))))) (t_X2_costOfRinging_140 n cx ce (f_X2_costOfRinging_92 n m) ih x1 x3 x4 x5 x6 (x8 + ((Int32.toInt64 (S3.2.2.1 20 x10.toNatClampNeg)) * v8)) x10 S9 h)
def f_X2_costOfRinging_72 (n : Nat) (k6 : Int64 → Int32 → Int32 → Int32 → Int64 → Int32 → z_Stt → Option (Int64 × z_Stt)) (x1 : Int64) (x3 : Int32) (x4 : Int32) (x5 : Int32) (x6 : Int64) (x8 : Int32) (S : z_Stt) : Option (Int64 × z_Stt) :=
  k6 x1 x3 x4 x5 x6 (x8 + 1) S
set_option maxHeartbeats 4000000 in
set_option maxRecDepth 100000 in
theorem t_X2_costOfRinging_72 {g : z_G} {K : z_K} (n : Nat) {v : Int64} {S' : z_Stt} (cx : z_C g M_X2_costOfRinging 1 K) (ce : z_E' g M_X2_costOfRinging (z_P g (some (.long v)) S') K) (k6 : Int64 → Int32 → Int32 → Int32 → Int64 → Int32 → z_Stt → Option (Int64 × z_Stt)) (hk6 : ∀ (x1 : Int64) (x3 : Int32) (x4 : Int32) (x5 : Int32) (x6 : Int64) (x8 : Int32) (S : z_Stt), k6 x1 x3 x4 x5 x6 x8 S = some (v, S') → z_At g M_X2_costOfRinging K 6 [some (.ref (z_ad g 18)), some (.long x1), none, some (.int x3), some (.int x4), some (.int x5), some (.long x6), none, some (.int x8), none, none] [] (hp g S)) (x1 : Int64) (x3 : Int32) (x4 : Int32) (x5 : Int32) (x6 : Int64) (x8 : Int32) (S : z_Stt) (h : f_X2_costOfRinging_72 n k6 x1 x3 x4 x5 x6 x8 S = some (v, S')) : z_At g M_X2_costOfRinging K 72 [some (.ref (z_ad g 18)), some (.long x1), none, some (.int x3), some (.int x4), some (.int x5), some (.long x6), none, some (.int x8), none, none] [] (hp g S) := by
  unfold f_X2_costOfRinging_72 at h
  refine z_iinc (c := 1) (L' := [some (.ref (z_ad g 18)), some (.long x1), none, some (.int x3), some (.int x4), some (.int x5), some (.long x6), none, some (.int (x8 + 1)), none, none]) cx rfl (by decide +kernel) (by decide) rfl dX2_costOfRinging_72 ?_
  refine z_goto (tgt := 6) cx (by decide) dX2_costOfRinging_75 ?_
  exact q_weak (z_wk_s (z_wk_s (z_wk_n (z_wk_s (z_wk_s (z_wk_s (z_wk_s (z_wk_n (z_wk_s (z_wk_n (z_wk_n (z_wk_0)))))))))))) (hk6 x1 x3 x4 x5 x6 (x8 + 1) S h)
def f_X2_costOfRinging_69 (n : Nat) (k6 : Int64 → Int32 → Int32 → Int32 → Int64 → Int32 → z_Stt → Option (Int64 × z_Stt)) (x1 : Int64) (x3 : Int32) (x4 : Int32) (x5 : Int32) (x8 : Int32) (y0 : Int64) (y1 : Int64) (S : z_Stt) : Option (Int64 × z_Stt) :=
  f_X2_costOfRinging_72 n k6 x1 x3 x4 x5 (y1 * y0) x8 S
set_option maxHeartbeats 4000000 in
set_option maxRecDepth 100000 in
theorem t_X2_costOfRinging_69 {g : z_G} {K : z_K} (n : Nat) {v : Int64} {S' : z_Stt} (cx : z_C g M_X2_costOfRinging 1 K) (ce : z_E' g M_X2_costOfRinging (z_P g (some (.long v)) S') K) (k6 : Int64 → Int32 → Int32 → Int32 → Int64 → Int32 → z_Stt → Option (Int64 × z_Stt)) (hk6 : ∀ (x1 : Int64) (x3 : Int32) (x4 : Int32) (x5 : Int32) (x6 : Int64) (x8 : Int32) (S : z_Stt), k6 x1 x3 x4 x5 x6 x8 S = some (v, S') → z_At g M_X2_costOfRinging K 6 [some (.ref (z_ad g 18)), some (.long x1), none, some (.int x3), some (.int x4), some (.int x5), some (.long x6), none, some (.int x8), none, none] [] (hp g S)) (x1 : Int64) (x3 : Int32) (x4 : Int32) (x5 : Int32) (x8 : Int32) (y0 : Int64) (y1 : Int64) (S : z_Stt) (h : f_X2_costOfRinging_69 n k6 x1 x3 x4 x5 x8 y0 y1 S = some (v, S')) : z_At g M_X2_costOfRinging K 69 [some (.ref (z_ad g 18)), some (.long x1), none, some (.int x3), some (.int x4), some (.int x5), none, none, some (.int x8), none, none] [.long y0, .long y1] (hp g S) := by
  unfold f_X2_costOfRinging_69 at h
  refine z_lmul cx dX2_costOfRinging_69 ?_
  refine z_lstore (L' := [some (.ref (z_ad g 18)), some (.long x1), none, some (.int x3), some (.int x4), some (.int x5), some (.long (y1 * y0)), none, some (.int x8), none, none]) cx (by decide) rfl dX2_costOfRinging_70 ?_
  exact q_weak (z_wk_s (z_wk_s (z_wk_n (z_wk_s (z_wk_s (z_wk_s (z_wk_s (z_wk_n (z_wk_s (z_wk_n (z_wk_n (z_wk_0)))))))))))) (t_X2_costOfRinging_72 n cx ce k6 hk6 x1 x3 x4 x5 (y1 * y0) x8 S h)
def f_X2_costOfRinging_6 (n : Nat) : Nat → Int64 → Int32 → Int32 → Int32 → Int64 → Int32 → z_Stt → Option (Int64 × z_Stt)
  | 0, _, _, _, _, _, _, _ => none
  | m + 1, x1, x3, x4, x5, x6, x8, S =>
    if 6 ≤ x8 then
      f_X2_costOfRinging_92 n n x1 x3 x4 x5 x6 (x1 * ((S.2.1 1804) - x6)) 0 S
    else
      g_bd (f_X2_has x8 S) fun v2 S3 =>
      if v2 = true then
        if (x5 >>> (x8 &&& 31)) &&& 1 = 1 then
          if ¬ (x8 < 0 ∨ 6 ≤ x8.toNatClampNeg) then
            if ¬ (x8 < 0 ∨ 6 ≤ x8.toNatClampNeg) then
              f_X2_costOfRinging_69 n (f_X2_costOfRinging_6 n m) x1 x3 x4 x5 x8 ((S3.2.1 (100 * (22 + x8.toNatClampNeg) + 1)) - (S3.2.1 (100 * (22 + x8.toNatClampNeg) + 0))) x6 S3
            else none
          else none
        else
          if ¬ (x8 < 0 ∨ 6 ≤ x8.toNatClampNeg) then
            f_X2_costOfRinging_69 n (f_X2_costOfRinging_6 n m) x1 x3 x4 x5 x8 (S3.2.1 (100 * (22 + x8.toNatClampNeg) + 1)) x6 S3
          else none
      else
        f_X2_costOfRinging_72 n (f_X2_costOfRinging_6 n m) x1 x3 x4 x5 x6 x8 S3
set_option maxHeartbeats 4000000 in
set_option maxRecDepth 100000 in
theorem t_X2_costOfRinging_6 {g : z_G} {K : z_K} (n : Nat) {v : Int64} {S' : z_Stt} (cx : z_C g M_X2_costOfRinging 1 K) (ce : z_E' g M_X2_costOfRinging (z_P g (some (.long v)) S') K) : ∀ (m : Nat) (x1 : Int64) (x3 : Int32) (x4 : Int32) (x5 : Int32) (x6 : Int64) (x8 : Int32) (S : z_Stt) (h : f_X2_costOfRinging_6 n m x1 x3 x4 x5 x6 x8 S = some (v, S')), z_At g M_X2_costOfRinging K 6 [some (.ref (z_ad g 18)), some (.long x1), none, some (.int x3), some (.int x4), some (.int x5), some (.long x6), none, some (.int x8), none, none] [] (hp g S) := by
  intro m
  induction m with
  | zero => intro x1 x3 x4 x5 x6 x8 S h; simp [f_X2_costOfRinging_6] at h
  | succ m ih =>
    intro x1 x3 x4 x5 x6 x8 S h
    rw [f_X2_costOfRinging_6] at h
    refine z_iload cx rfl dX2_costOfRinging_6 ?_
    refine z_bipush (v := 6) cx (by decide +kernel) dX2_costOfRinging_8 ?_
    refine z_icmp_ge (tgt := 78) cx (by decide) dX2_costOfRinging_10 (fun c1 => ?_) (fun c1 => ?_)
    · have h := g_t c1 h
      refine z_lload_n cx rfl rfl dX2_costOfRinging_78 ?_
      refine z_aload_n cx rfl rfl dX2_costOfRinging_79 ?_
      refine q_getJ (k := 18) (n := 1804) cx z_cl2 (j := 4) (by decide) tb_105 rfl (by decide) rfl rfl rfl dX2_costOfRinging_80 ?_
      refine z_lload cx rfl dX2_costOfRinging_83 ?_
      refine z_lsub cx dX2_costOfRinging_85 ?_
      refine z_lmul cx dX2_costOfRinging_86 ?_
      refine z_lstore (L' := [some (.ref (z_ad g 18)), some (.long x1), none, some (.int x3), some (.int x4), some (.int x5), some (.long x6), none, some (.long (x1 * ((S.2.1 1804) - x6))), none, none]) cx (by decide) rfl dX2_costOfRinging_87 ?_
      refine z_iconst (v := 0) cx (by decide +kernel) dX2_costOfRinging_89 ?_
      refine z_istore (L' := [some (.ref (z_ad g 18)), some (.long x1), none, some (.int x3), some (.int x4), some (.int x5), some (.long x6), none, some (.long (x1 * ((S.2.1 1804) - x6))), none, some (.int 0)]) cx (by decide) rfl dX2_costOfRinging_90 ?_
      exact q_weak (z_wk_s (z_wk_s (z_wk_n (z_wk_s (z_wk_s (z_wk_s (z_wk_s (z_wk_n (z_wk_s (z_wk_n (z_wk_s (z_wk_0)))))))))))) (t_X2_costOfRinging_92 n cx ce n x1 x3 x4 x5 x6 (x1 * ((S.2.1 1804) - x6)) 0 S h)
    · have h := g_f c1 h
      refine z_aload_n cx rfl rfl dX2_costOfRinging_13 ?_
      refine z_iload cx rfl dX2_costOfRinging_14 ?_
      obtain ⟨v2, S3, e4, h⟩ := g_bd_ex h
      refine q_cvi (As := [.int x8]) cx mo_X2_has mv_X2_has z_cl2 rfl tb_608 (by decide) rfl (by decide) rfl rfl (Nat.le_of_ble_eq_true rfl) dX2_costOfRinging_16 (c_X2_has x8 _ e4) ?_
      refine q_ifb_eq (tgt := 72) cx (by decide) dX2_costOfRinging_19 (fun c5 => ?_) (fun c5 => ?_)
      · have h := g_f (Bool.eq_false_iff.mp c5) h
        exact q_weak (z_wk_s (z_wk_s (z_wk_n (z_wk_s (z_wk_s (z_wk_s (z_wk_s (z_wk_n (z_wk_s (z_wk_n (z_wk_n (z_wk_0)))))))))))) (t_X2_costOfRinging_72 n cx ce (f_X2_costOfRinging_6 n m) ih x1 x3 x4 x5 x6 x8 S3 h)
      · have h := g_t c5 h
        refine z_lload cx rfl dX2_costOfRinging_22 ?_
        refine z_iload cx rfl dX2_costOfRinging_24 ?_
        refine z_iload cx rfl dX2_costOfRinging_26 ?_
        refine z_ishr cx dX2_costOfRinging_28 ?_
        refine z_iconst (v := 1) cx (by decide +kernel) dX2_costOfRinging_29 ?_
        refine z_iand cx dX2_costOfRinging_30 ?_
        refine z_iconst (v := 1) cx (by decide +kernel) dX2_costOfRinging_31 ?_
        refine z_icmp_ne (tgt := 59) cx (by decide) dX2_costOfRinging_32 (fun c6 => ?_) (fun c6 => ?_)
        · have h := g_f c6 h
          refine z_aload_n cx rfl rfl dX2_costOfRinging_59 ?_
          refine q_getF (k := 18) (n := 19) (r := 1) cx z_cl2 (j := 1) (by decide) tb_101 rfl (by decide) rfl rfl rfl dX2_costOfRinging_60 ?_
          refine z_iload cx rfl dX2_costOfRinging_63 ?_
          obtain ⟨c7, h⟩ := g_if h
          refine q_aald_F cx (by decide) rfl c7 dX2_costOfRinging_65 ?_
          refine q_getJ (k := 22 + x8.toNatClampNeg) (n := 100 * (22 + x8.toNatClampNeg) + 1) cx z_cl4 (j := 1) (by decide) tb_607 rfl (wp4_of c7).1 (wp4_of c7).2 rfl rfl dX2_costOfRinging_66 ?_
          exact q_weak (z_wk_s (z_wk_s (z_wk_n (z_wk_s (z_wk_s (z_wk_s (z_wk_n (z_wk_n (z_wk_s (z_wk_n (z_wk_n (z_wk_0)))))))))))) (t_X2_costOfRinging_69 n cx ce (f_X2_costOfRinging_6 n m) ih x1 x3 x4 x5 x8 (S3.2.1 (100 * (22 + x8.toNatClampNeg) + 1)) x6 S3 h)
        · have h := g_t c6 h
          refine z_aload_n cx rfl rfl dX2_costOfRinging_35 ?_
          refine q_getF (k := 18) (n := 19) (r := 1) cx z_cl2 (j := 1) (by decide) tb_101 rfl (by decide) rfl rfl rfl dX2_costOfRinging_36 ?_
          refine z_iload cx rfl dX2_costOfRinging_39 ?_
          obtain ⟨c8, h⟩ := g_if h
          refine q_aald_F cx (by decide) rfl c8 dX2_costOfRinging_41 ?_
          refine q_getJ (k := 22 + x8.toNatClampNeg) (n := 100 * (22 + x8.toNatClampNeg) + 1) cx z_cl4 (j := 1) (by decide) tb_607 rfl (wp4_of c8).1 (wp4_of c8).2 rfl rfl dX2_costOfRinging_42 ?_
          refine z_aload_n cx rfl rfl dX2_costOfRinging_45 ?_
          refine q_getF (k := 18) (n := 19) (r := 1) cx z_cl2 (j := 1) (by decide) tb_101 rfl (by decide) rfl rfl rfl dX2_costOfRinging_46 ?_
          refine z_iload cx rfl dX2_costOfRinging_49 ?_
          obtain ⟨c9, h⟩ := g_if h
          refine q_aald_F cx (by decide) rfl c9 dX2_costOfRinging_51 ?_
          refine q_getJ (k := 22 + x8.toNatClampNeg) (n := 100 * (22 + x8.toNatClampNeg) + 0) cx z_cl4 (j := 0) (by decide) tb_613 rfl (wp4_of c9).1 (wp4_of c9).2 rfl rfl dX2_costOfRinging_52 ?_
          refine z_lsub cx dX2_costOfRinging_55 ?_
          refine z_goto (tgt := 69) cx (by decide) dX2_costOfRinging_56 ?_
          exact q_weak (z_wk_s (z_wk_s (z_wk_n (z_wk_s (z_wk_s (z_wk_s (z_wk_n (z_wk_n (z_wk_s (z_wk_n (z_wk_n (z_wk_0)))))))))))) (t_X2_costOfRinging_69 n cx ce (f_X2_costOfRinging_6 n m) ih x1 x3 x4 x5 x8 ((S3.2.1 (100 * (22 + x8.toNatClampNeg) + 1)) - (S3.2.1 (100 * (22 + x8.toNatClampNeg) + 0))) x6 S3 h)
def f_X2_costOfRinging (n : Nat) (a0 : Int64) (a1 : Int32) (a2 : Int32) (a3 : Int32) (S : z_Stt) : Option (Int64 × z_Stt) :=
  f_X2_costOfRinging_6 n n a0 a1 a2 a3 1 0 S
set_option maxHeartbeats 4000000 in
set_option maxRecDepth 100000 in
theorem t_X2_costOfRinging {g : z_G} {K : z_K} (n : Nat) {v : Int64} {S' : z_Stt} (cx : z_C g M_X2_costOfRinging 1 K) (ce : z_E' g M_X2_costOfRinging (z_P g (some (.long v)) S') K) (a0 : Int64) (a1 : Int32) (a2 : Int32) (a3 : Int32) (S : z_Stt) (h : f_X2_costOfRinging n a0 a1 a2 a3 S = some (v, S')) : z_At g M_X2_costOfRinging K 0 [some (.ref (z_ad g 18)), some (.long a0), none, some (.int a1), some (.int a2), some (.int a3), none, none, none, none, none] [] (hp g S) := by
  unfold f_X2_costOfRinging at h
  refine z_lconst (v := 1) cx (by decide +kernel) dX2_costOfRinging_0 ?_
  refine z_lstore (L' := [some (.ref (z_ad g 18)), some (.long a0), none, some (.int a1), some (.int a2), some (.int a3), some (.long 1), none, none, none, none]) cx (by decide) rfl dX2_costOfRinging_1 ?_
  refine z_iconst (v := 0) cx (by decide +kernel) dX2_costOfRinging_3 ?_
  refine z_istore (L' := [some (.ref (z_ad g 18)), some (.long a0), none, some (.int a1), some (.int a2), some (.int a3), some (.long 1), none, some (.int 0), none, none]) cx (by decide) rfl dX2_costOfRinging_4 ?_
  exact q_weak (z_wk_s (z_wk_s (z_wk_n (z_wk_s (z_wk_s (z_wk_s (z_wk_s (z_wk_n (z_wk_s (z_wk_n (z_wk_n (z_wk_0)))))))))))) (t_X2_costOfRinging_6 n cx ce n a0 a1 a2 a3 1 0 S h)
theorem c_X2_costOfRinging {g : z_G} {n : Nat} (a0 : Int64) (a1 : Int32) (a2 : Int32) (a3 : Int32) (S : z_Stt) {v : Int64} {S' : z_Stt} (h : f_X2_costOfRinging n a0 a1 a2 a3 S = some (v, S')) : z_Ct g M_X2_costOfRinging 1 [.ref (z_ad g 18), .long a0, .int a1, .int a2, .int a3] (hp g S) (z_P g (some (.long v)) S') :=
  z_Ct.of (by decide +kernel) rfl (Nat.le_of_ble_eq_true rfl) (fun K cx ce => q_weak (L' := [some (.ref (z_ad g 18)), some (.long a0), none, some (.int a1), some (.int a2), some (.int a3), none, none, none, none, none]) (z_wk_s (z_wk_s (z_wk_n (z_wk_s (z_wk_s (z_wk_s (z_wk_e (z_wk_e (z_wk_e (z_wk_e (z_wk_e (z_wk_0)))))))))))) (t_X2_costOfRinging n cx ce a0 a1 a2 a3 S h))
abbrev M_X2_savedBy : z_M := (RX2, yX2_savedBy, cX2_savedBy, 16, some .long)
theorem mo_X2_savedBy : z_mo M_X2_savedBy 2 := ⟨tb_835, tb_37, rfl, ⟨by decide +kernel, by decide +kernel⟩, by decide +kernel, by decide⟩
theorem mv_X2_savedBy : z_mv M_X2_savedBy := ⟨tb_833, tb_834⟩
def f_X2_savedBy (a0 : Int32) (a1 : Int64) (S : z_Stt) : Option (Int64 × z_Stt) :=
  if ¬ (a0 < 0 ∨ 6 ≤ a0.toNatClampNeg) then
    if ¬ (a0 < 0 ∨ 6 ≤ a0.toNatClampNeg) then
      if 0 < lg_cmp (S.2.1 (100 * (22 + a0.toNatClampNeg) + 1)) 0 then
        if ¬ S.2.1 (100 * (22 + a0.toNatClampNeg) + 1) = 0 then
          if ¬ (a0 < 0 ∨ 6 ≤ a0.toNatClampNeg) then
            if ¬ S.2.1 (100 * (22 + a0.toNatClampNeg) + 1) = 0 then
              if ¬ (a0 < 0 ∨ 6 ≤ a0.toNatClampNeg) then
                some (((if a1 * (S.2.1 1804) < S.2.1 1805 then a1 * (S.2.1 1804) else S.2.1 1805) - ((S.2.1 (100 * (22 + a0.toNatClampNeg) + 0)) * (if (((S.2.1 1805) - (S.2.2.2.1 21 a0.toNatClampNeg)) / (S.2.1 (100 * (22 + a0.toNatClampNeg) + 1))) + ((Int32.toInt64 (S.2.2.1 20 a0.toNatClampNeg)) * ((S.2.1 1804) / (S.2.1 (100 * (22 + a0.toNatClampNeg) + 1)))) < a1 * ((S.2.1 1804) / (S.2.1 (100 * (22 + a0.toNatClampNeg) + 1))) then (((S.2.1 1805) - (S.2.2.2.1 21 a0.toNatClampNeg)) / (S.2.1 (100 * (22 + a0.toNatClampNeg) + 1))) + ((Int32.toInt64 (S.2.2.1 20 a0.toNatClampNeg)) * ((S.2.1 1804) / (S.2.1 (100 * (22 + a0.toNatClampNeg) + 1)))) else a1 * ((S.2.1 1804) / (S.2.1 (100 * (22 + a0.toNatClampNeg) + 1)))))) - (((S.2.1 (100 * (22 + a0.toNatClampNeg) + 1)) - (S.2.1 (100 * (22 + a0.toNatClampNeg) + 0))) * (if ((S.2.1 1805) - (S.2.2.2.1 21 a0.toNatClampNeg)) / (S.2.1 (100 * (22 + a0.toNatClampNeg) + 1)) < a1 * ((S.2.1 1804) / (S.2.1 (100 * (22 + a0.toNatClampNeg) + 1))) then ((S.2.1 1805) - (S.2.2.2.1 21 a0.toNatClampNeg)) / (S.2.1 (100 * (22 + a0.toNatClampNeg) + 1)) else a1 * ((S.2.1 1804) / (S.2.1 (100 * (22 + a0.toNatClampNeg) + 1))))), S)
              else none
            else none
          else none
        else none
      else
        some (0, S)
    else none
  else none
set_option maxHeartbeats 4000000 in
set_option maxRecDepth 100000 in
theorem t_X2_savedBy {g : z_G} {K : z_K} {v : Int64} {S' : z_Stt} (cx : z_C g M_X2_savedBy 1 K) (ce : z_E' g M_X2_savedBy (z_P g (some (.long v)) S') K) (a0 : Int32) (a1 : Int64) (S : z_Stt) (h : f_X2_savedBy a0 a1 S = some (v, S')) : z_At g M_X2_savedBy K 0 [some (.ref (z_ad g 18)), some (.int a0), some (.long a1), none, none, none, none, none, none, none, none, none, none, none, none, none] [] (hp g S) := by
  unfold f_X2_savedBy at h
  refine z_aload_n cx rfl rfl dX2_savedBy_0 ?_
  refine q_getF (k := 18) (n := 19) (r := 1) cx z_cl2 (j := 1) (by decide) tb_101 rfl (by decide) rfl rfl rfl dX2_savedBy_1 ?_
  refine z_iload_n cx rfl rfl dX2_savedBy_4 ?_
  obtain ⟨c1, h⟩ := g_if h
  refine q_aald_F cx (by decide) rfl c1 dX2_savedBy_5 ?_
  refine q_getJ (k := 22 + a0.toNatClampNeg) (n := 100 * (22 + a0.toNatClampNeg) + 0) cx z_cl4 (j := 0) (by decide) tb_613 rfl (wp4_of c1).1 (wp4_of c1).2 rfl rfl dX2_savedBy_6 ?_
  refine z_lstore (L' := [some (.ref (z_ad g 18)), some (.int a0), some (.long a1), none, some (.long (S.2.1 (100 * (22 + a0.toNatClampNeg) + 0))), none, none, none, none, none, none, none, none, none, none, none]) cx (by decide) rfl dX2_savedBy_9 ?_
  refine z_aload_n cx rfl rfl dX2_savedBy_11 ?_
  refine q_getF (k := 18) (n := 19) (r := 1) cx z_cl2 (j := 1) (by decide) tb_101 rfl (by decide) rfl rfl rfl dX2_savedBy_12 ?_
  refine z_iload_n cx rfl rfl dX2_savedBy_15 ?_
  obtain ⟨c2, h⟩ := g_if h
  refine q_aald_F cx (by decide) rfl c2 dX2_savedBy_16 ?_
  refine q_getJ (k := 22 + a0.toNatClampNeg) (n := 100 * (22 + a0.toNatClampNeg) + 1) cx z_cl4 (j := 1) (by decide) tb_607 rfl (wp4_of c2).1 (wp4_of c2).2 rfl rfl dX2_savedBy_17 ?_
  refine z_lstore (L' := [some (.ref (z_ad g 18)), some (.int a0), some (.long a1), none, some (.long (S.2.1 (100 * (22 + a0.toNatClampNeg) + 0))), none, some (.long (S.2.1 (100 * (22 + a0.toNatClampNeg) + 1))), none, none, none, none, none, none, none, none, none]) cx (by decide) rfl dX2_savedBy_20 ?_
  refine z_lload cx rfl dX2_savedBy_22 ?_
  refine z_lconst (v := 0) cx (by decide +kernel) dX2_savedBy_24 ?_
  refine z_lcmp cx dX2_savedBy_25 ?_
  refine z_if_gt (tgt := 31) cx (by decide) dX2_savedBy_26 (fun c3 => ?_) (fun c3 => ?_)
  · have h := g_t c3 h
    refine z_aload_n cx rfl rfl dX2_savedBy_31 ?_
    refine q_getJ (k := 18) (n := 1804) cx z_cl2 (j := 4) (by decide) tb_105 rfl (by decide) rfl rfl rfl dX2_savedBy_32 ?_
    refine z_lload cx rfl dX2_savedBy_35 ?_
    obtain ⟨c4, h⟩ := g_if h
    refine z_ldiv cx c4 dX2_savedBy_37 ?_
    refine z_lstore (L' := [some (.ref (z_ad g 18)), some (.int a0), some (.long a1), none, some (.long (S.2.1 (100 * (22 + a0.toNatClampNeg) + 0))), none, some (.long (S.2.1 (100 * (22 + a0.toNatClampNeg) + 1))), none, some (.long ((S.2.1 1804) / (S.2.1 (100 * (22 + a0.toNatClampNeg) + 1)))), none, none, none, none, none, none, none]) cx (by decide) rfl dX2_savedBy_38 ?_
    refine z_aload_n cx rfl rfl dX2_savedBy_40 ?_
    refine q_getJ (k := 18) (n := 1805) cx z_cl2 (j := 5) (by decide) tb_106 rfl (by decide) rfl rfl rfl dX2_savedBy_41 ?_
    refine z_aload_n cx rfl rfl dX2_savedBy_44 ?_
    refine q_getF (k := 18) (n := 21) (r := 3) cx z_cl2 (j := 3) (by decide) tb_104 rfl (by decide) rfl rfl rfl dX2_savedBy_45 ?_
    refine z_iload_n cx rfl rfl dX2_savedBy_48 ?_
    obtain ⟨c5, h⟩ := g_if h
    refine q_lald cx (by decide) rfl c5 dX2_savedBy_49 ?_
    refine z_lsub cx dX2_savedBy_50 ?_
    refine z_lload cx rfl dX2_savedBy_51 ?_
    obtain ⟨c6, h⟩ := g_if h
    refine z_ldiv cx c6 dX2_savedBy_53 ?_
    refine z_lstore (L' := [some (.ref (z_ad g 18)), some (.int a0), some (.long a1), none, some (.long (S.2.1 (100 * (22 + a0.toNatClampNeg) + 0))), none, some (.long (S.2.1 (100 * (22 + a0.toNatClampNeg) + 1))), none, some (.long ((S.2.1 1804) / (S.2.1 (100 * (22 + a0.toNatClampNeg) + 1)))), none, some (.long (((S.2.1 1805) - (S.2.2.2.1 21 a0.toNatClampNeg)) / (S.2.1 (100 * (22 + a0.toNatClampNeg) + 1)))), none, none, none, none, none]) cx (by decide) rfl dX2_savedBy_54 ?_
    refine z_lload_n cx rfl rfl dX2_savedBy_56 ?_
    refine z_lload cx rfl dX2_savedBy_57 ?_
    refine z_lmul cx dX2_savedBy_59 ?_
    refine z_lload cx rfl dX2_savedBy_60 ?_
    refine z_aload_n cx rfl rfl dX2_savedBy_62 ?_
    refine q_getF (k := 18) (n := 20) (r := 2) cx z_cl2 (j := 2) (by decide) tb_102 rfl (by decide) rfl rfl rfl dX2_savedBy_63 ?_
    refine z_iload_n cx rfl rfl dX2_savedBy_66 ?_
    obtain ⟨c7, h⟩ := g_if h
    refine q_iald cx (by decide) rfl c7 dX2_savedBy_67 ?_
    refine z_i2l cx dX2_savedBy_68 ?_
    refine z_lload cx rfl dX2_savedBy_69 ?_
    refine z_lmul cx dX2_savedBy_71 ?_
    refine z_ladd cx dX2_savedBy_72 ?_
    refine z_lmin cx tb_696 tb_697 tb_239 tb_698 (by decide) (Nat.le_of_ble_eq_true rfl) dX2_savedBy_73 ?_
    refine z_lstore (L' := [some (.ref (z_ad g 18)), some (.int a0), some (.long a1), none, some (.long (S.2.1 (100 * (22 + a0.toNatClampNeg) + 0))), none, some (.long (S.2.1 (100 * (22 + a0.toNatClampNeg) + 1))), none, some (.long ((S.2.1 1804) / (S.2.1 (100 * (22 + a0.toNatClampNeg) + 1)))), none, some (.long (((S.2.1 1805) - (S.2.2.2.1 21 a0.toNatClampNeg)) / (S.2.1 (100 * (22 + a0.toNatClampNeg) + 1)))), none, some (.long (if (((S.2.1 1805) - (S.2.2.2.1 21 a0.toNatClampNeg)) / (S.2.1 (100 * (22 + a0.toNatClampNeg) + 1))) + ((Int32.toInt64 (S.2.2.1 20 a0.toNatClampNeg)) * ((S.2.1 1804) / (S.2.1 (100 * (22 + a0.toNatClampNeg) + 1)))) < a1 * ((S.2.1 1804) / (S.2.1 (100 * (22 + a0.toNatClampNeg) + 1))) then (((S.2.1 1805) - (S.2.2.2.1 21 a0.toNatClampNeg)) / (S.2.1 (100 * (22 + a0.toNatClampNeg) + 1))) + ((Int32.toInt64 (S.2.2.1 20 a0.toNatClampNeg)) * ((S.2.1 1804) / (S.2.1 (100 * (22 + a0.toNatClampNeg) + 1)))) else a1 * ((S.2.1 1804) / (S.2.1 (100 * (22 + a0.toNatClampNeg) + 1))))), none, none, none]) cx (by decide) rfl dX2_savedBy_76 ?_
    refine z_lload_n cx rfl rfl dX2_savedBy_78 ?_
    refine z_lload cx rfl dX2_savedBy_79 ?_
    refine z_lmul cx dX2_savedBy_81 ?_
    refine z_lload cx rfl dX2_savedBy_82 ?_
    refine z_lmin cx tb_696 tb_697 tb_239 tb_698 (by decide) (Nat.le_of_ble_eq_true rfl) dX2_savedBy_84 ?_
    refine z_lstore (L' := [some (.ref (z_ad g 18)), some (.int a0), some (.long a1), none, some (.long (S.2.1 (100 * (22 + a0.toNatClampNeg) + 0))), none, some (.long (S.2.1 (100 * (22 + a0.toNatClampNeg) + 1))), none, some (.long ((S.2.1 1804) / (S.2.1 (100 * (22 + a0.toNatClampNeg) + 1)))), none, some (.long (((S.2.1 1805) - (S.2.2.2.1 21 a0.toNatClampNeg)) / (S.2.1 (100 * (22 + a0.toNatClampNeg) + 1)))), none, some (.long (if (((S.2.1 1805) - (S.2.2.2.1 21 a0.toNatClampNeg)) / (S.2.1 (100 * (22 + a0.toNatClampNeg) + 1))) + ((Int32.toInt64 (S.2.2.1 20 a0.toNatClampNeg)) * ((S.2.1 1804) / (S.2.1 (100 * (22 + a0.toNatClampNeg) + 1)))) < a1 * ((S.2.1 1804) / (S.2.1 (100 * (22 + a0.toNatClampNeg) + 1))) then (((S.2.1 1805) - (S.2.2.2.1 21 a0.toNatClampNeg)) / (S.2.1 (100 * (22 + a0.toNatClampNeg) + 1))) + ((Int32.toInt64 (S.2.2.1 20 a0.toNatClampNeg)) * ((S.2.1 1804) / (S.2.1 (100 * (22 + a0.toNatClampNeg) + 1)))) else a1 * ((S.2.1 1804) / (S.2.1 (100 * (22 + a0.toNatClampNeg) + 1))))), none, some (.long (if ((S.2.1 1805) - (S.2.2.2.1 21 a0.toNatClampNeg)) / (S.2.1 (100 * (22 + a0.toNatClampNeg) + 1)) < a1 * ((S.2.1 1804) / (S.2.1 (100 * (22 + a0.toNatClampNeg) + 1))) then ((S.2.1 1805) - (S.2.2.2.1 21 a0.toNatClampNeg)) / (S.2.1 (100 * (22 + a0.toNatClampNeg) + 1)) else a1 * ((S.2.1 1804) / (S.2.1 (100 * (22 + a0.toNatClampNeg) + 1))))), none]) cx (by decide) rfl dX2_savedBy_87 ?_
    refine z_aload_n cx rfl rfl dX2_savedBy_89 ?_
    refine q_getJ (k := 18) (n := 1805) cx z_cl2 (j := 5) (by decide) tb_106 rfl (by decide) rfl rfl rfl dX2_savedBy_90 ?_
    refine z_lload_n cx rfl rfl dX2_savedBy_93 ?_
    refine z_aload_n cx rfl rfl dX2_savedBy_94 ?_
    refine q_getJ (k := 18) (n := 1804) cx z_cl2 (j := 4) (by decide) tb_105 rfl (by decide) rfl rfl rfl dX2_savedBy_95 ?_
    refine z_lmul cx dX2_savedBy_98 ?_
    refine z_lmin cx tb_696 tb_697 tb_239 tb_698 (by decide) (Nat.le_of_ble_eq_true rfl) dX2_savedBy_99 ?_
    refine z_lload cx rfl dX2_savedBy_102 ?_
    refine z_lload cx rfl dX2_savedBy_104 ?_
    refine z_lmul cx dX2_savedBy_106 ?_
    refine z_lsub cx dX2_savedBy_107 ?_
    refine z_lload cx rfl dX2_savedBy_108 ?_
    refine z_lload cx rfl dX2_savedBy_110 ?_
    refine z_lsub cx dX2_savedBy_112 ?_
    refine z_lload cx rfl dX2_savedBy_113 ?_
    refine z_lmul cx dX2_savedBy_115 ?_
    refine z_lsub cx dX2_savedBy_116 ?_
    obtain ⟨rfl, rfl⟩ := g_some h
    exact z_lreturn cx ce rfl ⟨rfl, rfl⟩ dX2_savedBy_117
  · have h := g_f c3 h
    refine z_lconst (v := 0) cx (by decide +kernel) dX2_savedBy_29 ?_
    obtain ⟨rfl, rfl⟩ := g_some h
    exact z_lreturn cx ce rfl ⟨rfl, rfl⟩ dX2_savedBy_30
theorem c_X2_savedBy {g : z_G} (a0 : Int32) (a1 : Int64) (S : z_Stt) {v : Int64} {S' : z_Stt} (h : f_X2_savedBy a0 a1 S = some (v, S')) : z_Ct g M_X2_savedBy 1 [.ref (z_ad g 18), .int a0, .long a1] (hp g S) (z_P g (some (.long v)) S') :=
  z_Ct.of (by decide +kernel) rfl (Nat.le_of_ble_eq_true rfl) (fun K cx ce => q_weak (L' := [some (.ref (z_ad g 18)), some (.int a0), some (.long a1), none, none, none, none, none, none, none, none, none, none, none, none, none]) (z_wk_s (z_wk_s (z_wk_s (z_wk_n (z_wk_e (z_wk_e (z_wk_e (z_wk_e (z_wk_e (z_wk_e (z_wk_e (z_wk_e (z_wk_e (z_wk_e (z_wk_e (z_wk_e (z_wk_0))))))))))))))))) (t_X2_savedBy cx ce a0 a1 S h))
abbrev M_X2_bestSeen : z_M := (RX2, yX2_bestSeen, cX2_bestSeen, 5, some .int)
theorem mo_X2_bestSeen : z_mo M_X2_bestSeen 1 := ⟨tb_831, tb_37, rfl, ⟨by decide +kernel, by decide +kernel⟩, by decide +kernel, by decide⟩
theorem mv_X2_bestSeen : z_mv M_X2_bestSeen := ⟨tb_829, tb_830⟩
def f_X2_bestSeen_45 (n : Nat) (k5 : Int64 → Int32 → Int32 → z_Stt → Option (Int32 × z_Stt)) (x1 : Int64) (x3 : Int32) (x4 : Int32) (S : z_Stt) : Option (Int32 × z_Stt) :=
  k5 x1 x3 (x4 + 1) S
set_option maxHeartbeats 4000000 in
set_option maxRecDepth 100000 in
theorem t_X2_bestSeen_45 {g : z_G} {K : z_K} (n : Nat) {v : Int32} {S' : z_Stt} (cx : z_C g M_X2_bestSeen 2 K) (ce : z_E' g M_X2_bestSeen (z_P g (some (.int v)) S') K) (k5 : Int64 → Int32 → Int32 → z_Stt → Option (Int32 × z_Stt)) (hk5 : ∀ (x1 : Int64) (x3 : Int32) (x4 : Int32) (S : z_Stt), k5 x1 x3 x4 S = some (v, S') → z_At g M_X2_bestSeen K 5 [some (.ref (z_ad g 18)), some (.long x1), none, some (.int x3), some (.int x4)] [] (hp g S)) (x1 : Int64) (x3 : Int32) (x4 : Int32) (S : z_Stt) (h : f_X2_bestSeen_45 n k5 x1 x3 x4 S = some (v, S')) : z_At g M_X2_bestSeen K 45 [some (.ref (z_ad g 18)), some (.long x1), none, some (.int x3), some (.int x4)] [] (hp g S) := by
  unfold f_X2_bestSeen_45 at h
  refine z_iinc (c := 1) (L' := [some (.ref (z_ad g 18)), some (.long x1), none, some (.int x3), some (.int (x4 + 1))]) cx rfl (by decide +kernel) (by decide) rfl dX2_bestSeen_45 ?_
  refine z_goto (tgt := 5) cx (by decide) dX2_bestSeen_48 ?_
  exact q_weak (z_wk_s (z_wk_s (z_wk_n (z_wk_s (z_wk_s (z_wk_0)))))) (hk5 x1 x3 (x4 + 1) S h)
def f_X2_bestSeen_42 (n : Nat) (k5 : Int64 → Int32 → Int32 → z_Stt → Option (Int32 × z_Stt)) (x1 : Int64) (x4 : Int32) (S : z_Stt) : Option (Int32 × z_Stt) :=
  f_X2_bestSeen_45 n k5 x1 x4 x4 S
set_option maxHeartbeats 4000000 in
set_option maxRecDepth 100000 in
theorem t_X2_bestSeen_42 {g : z_G} {K : z_K} (n : Nat) {v : Int32} {S' : z_Stt} (cx : z_C g M_X2_bestSeen 2 K) (ce : z_E' g M_X2_bestSeen (z_P g (some (.int v)) S') K) (k5 : Int64 → Int32 → Int32 → z_Stt → Option (Int32 × z_Stt)) (hk5 : ∀ (x1 : Int64) (x3 : Int32) (x4 : Int32) (S : z_Stt), k5 x1 x3 x4 S = some (v, S') → z_At g M_X2_bestSeen K 5 [some (.ref (z_ad g 18)), some (.long x1), none, some (.int x3), some (.int x4)] [] (hp g S)) (x1 : Int64) (x4 : Int32) (S : z_Stt) (h : f_X2_bestSeen_42 n k5 x1 x4 S = some (v, S')) : z_At g M_X2_bestSeen K 42 [some (.ref (z_ad g 18)), some (.long x1), none, none, some (.int x4)] [] (hp g S) := by
  unfold f_X2_bestSeen_42 at h
  refine z_iload cx rfl dX2_bestSeen_42 ?_
  refine z_istore_n (L' := [some (.ref (z_ad g 18)), some (.long x1), none, some (.int x4), some (.int x4)]) cx rfl (by decide) rfl dX2_bestSeen_44 ?_
  exact q_weak (z_wk_s (z_wk_s (z_wk_n (z_wk_s (z_wk_s (z_wk_0)))))) (t_X2_bestSeen_45 n cx ce k5 hk5 x1 x4 x4 S h)
def f_X2_bestSeen_5 (n : Nat) : Nat → Int64 → Int32 → Int32 → z_Stt → Option (Int32 × z_Stt)
  | 0, _, _, _, _ => none
  | m + 1, x1, x3, x4, S =>
    if 6 ≤ x4 then
      some (x3, S)
    else
      g_bd (f_X2_has x4 S) fun v2 S3 =>
      if v2 = true then
        if x3 < 0 then
          f_X2_bestSeen_42 n (f_X2_bestSeen_5 n m) x1 x4 S3
        else
          g_bd (f_X2_savedBy x4 x1 S3) fun v7 S8 =>
          g_bd (f_X2_savedBy x3 x1 S8) fun v10 S11 =>
          if lg_cmp v7 v10 ≤ 0 then
            f_X2_bestSeen_45 n (f_X2_bestSeen_5 n m) x1 x3 x4 S11
          else
            f_X2_bestSeen_42 n (f_X2_bestSeen_5 n m) x1 x4 S11
      else
        f_X2_bestSeen_45 n (f_X2_bestSeen_5 n m) x1 x3 x4 S3
set_option maxHeartbeats 4000000 in
set_option maxRecDepth 100000 in
theorem t_X2_bestSeen_5 {g : z_G} {K : z_K} (n : Nat) {v : Int32} {S' : z_Stt} (cx : z_C g M_X2_bestSeen 2 K) (ce : z_E' g M_X2_bestSeen (z_P g (some (.int v)) S') K) : ∀ (m : Nat) (x1 : Int64) (x3 : Int32) (x4 : Int32) (S : z_Stt) (h : f_X2_bestSeen_5 n m x1 x3 x4 S = some (v, S')), z_At g M_X2_bestSeen K 5 [some (.ref (z_ad g 18)), some (.long x1), none, some (.int x3), some (.int x4)] [] (hp g S) := by
  intro m
  induction m with
  | zero => intro x1 x3 x4 S h; simp [f_X2_bestSeen_5] at h
  | succ m ih =>
    intro x1 x3 x4 S h
    rw [f_X2_bestSeen_5] at h
    refine z_iload cx rfl dX2_bestSeen_5 ?_
    refine z_bipush (v := 6) cx (by decide +kernel) dX2_bestSeen_7 ?_
    refine z_icmp_ge (tgt := 51) cx (by decide) dX2_bestSeen_9 (fun c1 => ?_) (fun c1 => ?_)
    · have h := g_t c1 h
      refine z_iload_n cx rfl rfl dX2_bestSeen_51 ?_
      obtain ⟨rfl, rfl⟩ := g_some h
      exact z_ireturn cx ce rfl ⟨rfl, rfl⟩ dX2_bestSeen_52
    · have h := g_f c1 h
      refine z_aload_n cx rfl rfl dX2_bestSeen_12 ?_
      refine z_iload cx rfl dX2_bestSeen_13 ?_
      obtain ⟨v2, S3, e4, h⟩ := g_bd_ex h
      refine q_cvi (As := [.int x4]) cx mo_X2_has mv_X2_has z_cl2 rfl tb_608 (by decide) rfl (by decide) rfl rfl (Nat.le_of_ble_eq_true rfl) dX2_bestSeen_15 (c_X2_has x4 _ e4) ?_
      refine q_ifb_eq (tgt := 45) cx (by decide) dX2_bestSeen_18 (fun c5 => ?_) (fun c5 => ?_)
      · have h := g_f (Bool.eq_false_iff.mp c5) h
        exact q_weak (z_wk_s (z_wk_s (z_wk_n (z_wk_s (z_wk_s (z_wk_0)))))) (t_X2_bestSeen_45 n cx ce (f_X2_bestSeen_5 n m) ih x1 x3 x4 S3 h)
      · have h := g_t c5 h
        refine z_iload_n cx rfl rfl dX2_bestSeen_21 ?_
        refine z_if_lt (tgt := 42) cx (by decide) dX2_bestSeen_22 (fun c6 => ?_) (fun c6 => ?_)
        · have h := g_t c6 h
          exact q_weak (z_wk_s (z_wk_s (z_wk_n (z_wk_n (z_wk_s (z_wk_0)))))) (t_X2_bestSeen_42 n cx ce (f_X2_bestSeen_5 n m) ih x1 x4 S3 h)
        · have h := g_f c6 h
          refine z_aload_n cx rfl rfl dX2_bestSeen_25 ?_
          refine z_iload cx rfl dX2_bestSeen_26 ?_
          refine z_lload_n cx rfl rfl dX2_bestSeen_28 ?_
          obtain ⟨v7, S8, e9, h⟩ := g_bd_ex h
          refine q_cvl (As := [.int x4, .long x1]) cx mo_X2_savedBy mv_X2_savedBy z_cl2 rfl tb_832 (by decide) rfl (by decide) rfl rfl (Nat.le_of_ble_eq_true rfl) dX2_bestSeen_29 (c_X2_savedBy x4 x1 _ e9) ?_
          refine z_aload_n cx rfl rfl dX2_bestSeen_32 ?_
          refine z_iload_n cx rfl rfl dX2_bestSeen_33 ?_
          refine z_lload_n cx rfl rfl dX2_bestSeen_34 ?_
          obtain ⟨v10, S11, e12, h⟩ := g_bd_ex h
          refine q_cvl (As := [.int x3, .long x1]) cx mo_X2_savedBy mv_X2_savedBy z_cl2 rfl tb_832 (by decide) rfl (by decide) rfl rfl (Nat.le_of_ble_eq_true rfl) dX2_bestSeen_35 (c_X2_savedBy x3 x1 _ e12) ?_
          refine z_lcmp cx dX2_bestSeen_38 ?_
          refine z_if_le (tgt := 45) cx (by decide) dX2_bestSeen_39 (fun c13 => ?_) (fun c13 => ?_)
          · have h := g_t c13 h
            exact q_weak (z_wk_s (z_wk_s (z_wk_n (z_wk_s (z_wk_s (z_wk_0)))))) (t_X2_bestSeen_45 n cx ce (f_X2_bestSeen_5 n m) ih x1 x3 x4 S11 h)
          · have h := g_f c13 h
            exact q_weak (z_wk_s (z_wk_s (z_wk_n (z_wk_n (z_wk_s (z_wk_0)))))) (t_X2_bestSeen_42 n cx ce (f_X2_bestSeen_5 n m) ih x1 x4 S11 h)
def f_X2_bestSeen (n : Nat) (a0 : Int64) (S : z_Stt) : Option (Int32 × z_Stt) :=
  f_X2_bestSeen_5 n n a0 (-1) 0 S
set_option maxHeartbeats 4000000 in
set_option maxRecDepth 100000 in
theorem t_X2_bestSeen {g : z_G} {K : z_K} (n : Nat) {v : Int32} {S' : z_Stt} (cx : z_C g M_X2_bestSeen 2 K) (ce : z_E' g M_X2_bestSeen (z_P g (some (.int v)) S') K) (a0 : Int64) (S : z_Stt) (h : f_X2_bestSeen n a0 S = some (v, S')) : z_At g M_X2_bestSeen K 0 [some (.ref (z_ad g 18)), some (.long a0), none, none, none] [] (hp g S) := by
  unfold f_X2_bestSeen at h
  refine z_iconst (v := (-1)) cx (by decide +kernel) dX2_bestSeen_0 ?_
  refine z_istore_n (L' := [some (.ref (z_ad g 18)), some (.long a0), none, some (.int (-1)), none]) cx rfl (by decide) rfl dX2_bestSeen_1 ?_
  refine z_iconst (v := 0) cx (by decide +kernel) dX2_bestSeen_2 ?_
  refine z_istore (L' := [some (.ref (z_ad g 18)), some (.long a0), none, some (.int (-1)), some (.int 0)]) cx (by decide) rfl dX2_bestSeen_3 ?_
  exact q_weak (z_wk_s (z_wk_s (z_wk_n (z_wk_s (z_wk_s (z_wk_0)))))) (t_X2_bestSeen_5 n cx ce n a0 (-1) 0 S h)
theorem c_X2_bestSeen {g : z_G} {n : Nat} (a0 : Int64) (S : z_Stt) {v : Int32} {S' : z_Stt} (h : f_X2_bestSeen n a0 S = some (v, S')) : z_Ct g M_X2_bestSeen 2 [.ref (z_ad g 18), .long a0] (hp g S) (z_P g (some (.int v)) S') :=
  z_Ct.of (by decide +kernel) rfl (Nat.le_of_ble_eq_true rfl) (fun K cx ce => q_weak (L' := [some (.ref (z_ad g 18)), some (.long a0), none, none, none]) (z_wk_s (z_wk_s (z_wk_n (z_wk_e (z_wk_e (z_wk_0)))))) (t_X2_bestSeen n cx ce a0 S h))
abbrev M_X5_come : z_M := (RX5, yX5_come, cX5_come, 2, some .int)
theorem mo_X5_come : z_mo M_X5_come 1 := ⟨tb_1058, tb_49, rfl, ⟨by decide +kernel, by decide +kernel⟩, by decide +kernel, by decide⟩
theorem mv_X5_come : z_mv M_X5_come := ⟨tb_1056, tb_1057⟩
def f_X5_come (a0 : Int32) (S : z_Stt) : Option (Int32 × z_Stt) :=
  if S.1 3201 < 50 then
    if ¬ (S.1 3201 < 0 ∨ 50 ≤ (S.1 3201).toNatClampNeg) then
      g_let (sA S 33 (upd (S.2.2.1 33) (S.1 3201).toNatClampNeg a0)) fun S3 =>
      g_let (sI S3 3201 ((S3.1 3201) + 1)) fun S5 =>
      some ((S5.1 3201) - 1, S5)
    else none
  else
    some ((-3), S)
set_option maxHeartbeats 4000000 in
set_option maxRecDepth 100000 in
theorem t_X5_come {g : z_G} {K : z_K} {v : Int32} {S' : z_Stt} (cx : z_C g M_X5_come 0 K) (ce : z_E' g M_X5_come (z_P g (some (.int v)) S') K) (a0 : Int32) (S : z_Stt) (h : f_X5_come a0 S = some (v, S')) : z_At g M_X5_come K 0 [some (.ref (z_ad g 32)), some (.int a0)] [] (hp g S) := by
  unfold f_X5_come at h
  refine z_aload_n cx rfl rfl dX5_come_0 ?_
  refine q_getI (k := 32) (n := 3201) cx z_cl5 (j := 1) (by decide) tb_124 rfl (by decide) rfl rfl rfl dX5_come_1 ?_
  refine z_bipush (v := 50) cx (by decide +kernel) dX5_come_4 ?_
  refine z_icmp_lt (tgt := 12) cx (by decide) dX5_come_6 (fun c1 => ?_) (fun c1 => ?_)
  · have h := g_t c1 h
    refine z_aload_n cx rfl rfl dX5_come_12 ?_
    refine q_getF (k := 32) (n := 33) (r := 1) cx z_cl5 (j := 0) (by decide) tb_123 rfl (by decide) rfl rfl rfl dX5_come_13 ?_
    refine z_aload_n cx rfl rfl dX5_come_16 ?_
    refine q_getI (k := 32) (n := 3201) cx z_cl5 (j := 1) (by decide) tb_124 rfl (by decide) rfl rfl rfl dX5_come_17 ?_
    refine z_iload_n cx rfl rfl dX5_come_20 ?_
    obtain ⟨c2, h⟩ := g_if h
    refine q_iast cx (by decide) rfl c2 dX5_come_21 ?_
    obtain ⟨S3, e4, h⟩ := g_let_ex h
    rw [← e4]
    refine z_aload_n cx rfl rfl dX5_come_22 ?_
    refine z_dup cx rfl dX5_come_23 ?_
    refine q_getI (k := 32) (n := 3201) cx z_cl5 (j := 1) (by decide) tb_124 rfl (by decide) rfl rfl rfl dX5_come_24 ?_
    refine z_iconst (v := 1) cx (by decide +kernel) dX5_come_27 ?_
    refine z_iadd cx dX5_come_28 ?_
    refine q_putI (k := 32) (n := 3201) cx z_cl5 (j := 1) (by decide) tb_124 rfl rfl rfl (by decide) rfl rfl rfl (by decide) (by decide) dX5_come_29 ?_
    obtain ⟨S5, e6, h⟩ := g_let_ex h
    rw [← e6]
    refine z_aload_n cx rfl rfl dX5_come_32 ?_
    refine q_getI (k := 32) (n := 3201) cx z_cl5 (j := 1) (by decide) tb_124 rfl (by decide) rfl rfl rfl dX5_come_33 ?_
    refine z_iconst (v := 1) cx (by decide +kernel) dX5_come_36 ?_
    refine z_isub cx dX5_come_37 ?_
    obtain ⟨rfl, rfl⟩ := g_some h
    exact z_ireturn cx ce rfl ⟨rfl, rfl⟩ dX5_come_38
  · have h := g_f c1 h
    refine z_bipush (v := (-3)) cx (by decide +kernel) dX5_come_9 ?_
    obtain ⟨rfl, rfl⟩ := g_some h
    exact z_ireturn cx ce rfl ⟨rfl, rfl⟩ dX5_come_11
theorem c_X5_come {g : z_G} (a0 : Int32) (S : z_Stt) {v : Int32} {S' : z_Stt} (h : f_X5_come a0 S = some (v, S')) : z_Ct g M_X5_come 0 [.ref (z_ad g 32), .int a0] (hp g S) (z_P g (some (.int v)) S') :=
  z_Ct.of (by decide +kernel) rfl (Nat.le_of_ble_eq_true rfl) (fun K cx ce => q_weak (L' := [some (.ref (z_ad g 32)), some (.int a0)]) (z_wk_s (z_wk_s (z_wk_0))) (t_X5_come cx ce a0 S h))
abbrev M_X5_isUnder : z_M := (RX5, yX5_isUnder, cX5_isUnder, 4, some .boolean)
theorem mo_X5_isUnder : z_mo M_X5_isUnder 2 := ⟨tb_1220, tb_49, rfl, ⟨by decide +kernel, by decide +kernel⟩, by decide +kernel, by decide⟩
theorem ms_X5_isUnder : z_ms M_X5_isUnder := tb_1219
def f_X5_isUnder_4 (n : Nat) : Nat → Int32 → Int32 → Int32 → z_Stt → Option (Bool × z_Stt)
  | 0, _, _, _, _ => none
  | m + 1, x1, x2, x3, S =>
    if 8 ≤ x3 then
      some (false, S)
    else
      if x2 < 0 then
        some (false, S)
      else
        if 8 ≤ x2 then
          some (false, S)
        else
          if x2 = x1 then
            some (true, S)
          else
            if ¬ (x2 < 0 ∨ 8 ≤ x2.toNatClampNeg) then
              f_X5_isUnder_4 n m x1 (st_KA x2.toNatClampNeg) (x3 + 1) S
            else none
set_option maxHeartbeats 4000000 in
set_option maxRecDepth 100000 in
theorem t_X5_isUnder_4 {g : z_G} {K : z_K} (n : Nat) {v : Bool} {S' : z_Stt} (cx : z_C g M_X5_isUnder 0 K) (ce : z_E' g M_X5_isUnder (z_P g (some (.int (bI v))) S') K) : ∀ (m : Nat) (x1 : Int32) (x2 : Int32) (x3 : Int32) (S : z_Stt) (h : f_X5_isUnder_4 n m x1 x2 x3 S = some (v, S')), z_At g M_X5_isUnder K 4 [none, some (.int x1), some (.int x2), some (.int x3)] [] (hp g S) := by
  intro m
  induction m with
  | zero => intro x1 x2 x3 S h; simp [f_X5_isUnder_4] at h
  | succ m ih =>
    intro x1 x2 x3 S h
    rw [f_X5_isUnder_4] at h
    refine z_iload_n cx rfl rfl dX5_isUnder_4 ?_
    refine z_bipush (v := 8) cx (by decide +kernel) dX5_isUnder_5 ?_
    refine z_icmp_ge (tgt := 39) cx (by decide) dX5_isUnder_7 (fun c1 => ?_) (fun c1 => ?_)
    · have h := g_t c1 h
      refine z_iconst (v := 0) cx (by decide +kernel) dX5_isUnder_39 ?_
      obtain ⟨rfl, rfl⟩ := g_some h
      exact z_zreturn cx ce rfl (by decide +kernel) ⟨rfl, rfl⟩ dX5_isUnder_40
    · have h := g_f c1 h
      refine z_iload_n cx rfl rfl dX5_isUnder_10 ?_
      refine z_if_lt (tgt := 39) cx (by decide) dX5_isUnder_11 (fun c2 => ?_) (fun c2 => ?_)
      · have h := g_t c2 h
        refine z_iconst (v := 0) cx (by decide +kernel) dX5_isUnder_39 ?_
        obtain ⟨rfl, rfl⟩ := g_some h
        exact z_zreturn cx ce rfl (by decide +kernel) ⟨rfl, rfl⟩ dX5_isUnder_40
      · have h := g_f c2 h
        refine z_iload_n cx rfl rfl dX5_isUnder_14 ?_
        refine z_bipush (v := 8) cx (by decide +kernel) dX5_isUnder_15 ?_
        refine z_icmp_ge (tgt := 39) cx (by decide) dX5_isUnder_17 (fun c3 => ?_) (fun c3 => ?_)
        · have h := g_t c3 h
          refine z_iconst (v := 0) cx (by decide +kernel) dX5_isUnder_39 ?_
          obtain ⟨rfl, rfl⟩ := g_some h
          exact z_zreturn cx ce rfl (by decide +kernel) ⟨rfl, rfl⟩ dX5_isUnder_40
        · have h := g_f c3 h
          refine z_iload_n cx rfl rfl dX5_isUnder_20 ?_
          refine z_iload_n cx rfl rfl dX5_isUnder_21 ?_
          refine z_icmp_ne (tgt := 27) cx (by decide) dX5_isUnder_22 (fun c4 => ?_) (fun c4 => ?_)
          · have h := g_f c4 h
            refine z_gets1 cx tb_1082 dX5_isUnder_27 ?_
            refine z_iload_n cx rfl rfl dX5_isUnder_30 ?_
            obtain ⟨c5, h⟩ := g_if h
            refine z_ti1 cx c5 dX5_isUnder_31 ?_
            refine z_istore_n (L' := [none, some (.int x1), some (.int (st_KA x2.toNatClampNeg)), some (.int x3)]) cx rfl (by decide) rfl dX5_isUnder_32 ?_
            refine z_iinc (c := 1) (L' := [none, some (.int x1), some (.int (st_KA x2.toNatClampNeg)), some (.int (x3 + 1))]) cx rfl (by decide +kernel) (by decide) rfl dX5_isUnder_33 ?_
            refine z_goto (tgt := 4) cx (by decide) dX5_isUnder_36 ?_
            exact q_weak (z_wk_n (z_wk_s (z_wk_s (z_wk_s (z_wk_0))))) (ih x1 (st_KA x2.toNatClampNeg) (x3 + 1) S h)
          · have h := g_t c4 h
            refine z_iconst (v := 1) cx (by decide +kernel) dX5_isUnder_25 ?_
            obtain ⟨rfl, rfl⟩ := g_some h
            exact z_zreturn cx ce rfl (by decide +kernel) ⟨rfl, rfl⟩ dX5_isUnder_26
def f_X5_isUnder (n : Nat) (a0 : Int32) (a1 : Int32) (S : z_Stt) : Option (Bool × z_Stt) :=
  f_X5_isUnder_4 n n a1 a0 0 S
set_option maxHeartbeats 4000000 in
set_option maxRecDepth 100000 in
theorem t_X5_isUnder {g : z_G} {K : z_K} (n : Nat) {v : Bool} {S' : z_Stt} (cx : z_C g M_X5_isUnder 0 K) (ce : z_E' g M_X5_isUnder (z_P g (some (.int (bI v))) S') K) (a0 : Int32) (a1 : Int32) (S : z_Stt) (h : f_X5_isUnder n a0 a1 S = some (v, S')) : z_At g M_X5_isUnder K 0 [some (.int a0), some (.int a1), none, none] [] (hp g S) := by
  unfold f_X5_isUnder at h
  refine z_iload_n cx rfl rfl dX5_isUnder_0 ?_
  refine z_istore_n (L' := [some (.int a0), some (.int a1), some (.int a0), none]) cx rfl (by decide) rfl dX5_isUnder_1 ?_
  refine z_iconst (v := 0) cx (by decide +kernel) dX5_isUnder_2 ?_
  refine z_istore_n (L' := [some (.int a0), some (.int a1), some (.int a0), some (.int 0)]) cx rfl (by decide) rfl dX5_isUnder_3 ?_
  exact q_weak (z_wk_n (z_wk_s (z_wk_s (z_wk_s (z_wk_0))))) (t_X5_isUnder_4 n cx ce n a1 a0 0 S h)
theorem c_X5_isUnder {g : z_G} {n : Nat} (a0 : Int32) (a1 : Int32) (S : z_Stt) {v : Bool} {S' : z_Stt} (h : f_X5_isUnder n a0 a1 S = some (v, S')) : z_Ct g M_X5_isUnder 0 [.int a0, .int a1] (hp g S) (z_P g (some (.int (bI v))) S') :=
  z_Ct.of (by decide +kernel) rfl (Nat.le_of_ble_eq_true rfl) (fun K cx ce => q_weak (L' := [some (.int a0), some (.int a1), none, none]) (z_wk_s (z_wk_s (z_wk_e (z_wk_e (z_wk_0))))) (t_X5_isUnder n cx ce a0 a1 S h))
abbrev M_X5_ownerOf : z_M := (RX5, yX5_ownerOf, cX5_ownerOf, 4, some .int)
theorem mo_X5_ownerOf : z_mo M_X5_ownerOf 2 := ⟨tb_1085, tb_49, rfl, ⟨by decide +kernel, by decide +kernel⟩, by decide +kernel, by decide⟩
theorem ms_X5_ownerOf : z_ms M_X5_ownerOf := tb_1084
def f_X5_ownerOf_43 (n : Nat) (k4 : Int32 → Int32 → Int32 → z_Stt → Option (Int32 × z_Stt)) (x1 : Int32) (x2 : Int32) (x3 : Int32) (S : z_Stt) : Option (Int32 × z_Stt) :=
  if ¬ (x2 < 0 ∨ 8 ≤ x2.toNatClampNeg) then
    k4 x1 (st_KA x2.toNatClampNeg) (x3 + 1) S
  else none
set_option maxHeartbeats 4000000 in
set_option maxRecDepth 100000 in
theorem t_X5_ownerOf_43 {g : z_G} {K : z_K} (n : Nat) {v : Int32} {S' : z_Stt} (cx : z_C g M_X5_ownerOf 0 K) (ce : z_E' g M_X5_ownerOf (z_P g (some (.int v)) S') K) (k4 : Int32 → Int32 → Int32 → z_Stt → Option (Int32 × z_Stt)) (hk4 : ∀ (x1 : Int32) (x2 : Int32) (x3 : Int32) (S : z_Stt), k4 x1 x2 x3 S = some (v, S') → z_At g M_X5_ownerOf K 4 [none, some (.int x1), some (.int x2), some (.int x3)] [] (hp g S)) (x1 : Int32) (x2 : Int32) (x3 : Int32) (S : z_Stt) (h : f_X5_ownerOf_43 n k4 x1 x2 x3 S = some (v, S')) : z_At g M_X5_ownerOf K 43 [none, some (.int x1), some (.int x2), some (.int x3)] [] (hp g S) := by
  unfold f_X5_ownerOf_43 at h
  refine z_gets1 cx tb_1082 dX5_ownerOf_43 ?_
  refine z_iload_n cx rfl rfl dX5_ownerOf_46 ?_
  obtain ⟨c1, h⟩ := g_if h
  refine z_ti1 cx c1 dX5_ownerOf_47 ?_
  refine z_istore_n (L' := [none, some (.int x1), some (.int (st_KA x2.toNatClampNeg)), some (.int x3)]) cx rfl (by decide) rfl dX5_ownerOf_48 ?_
  refine z_iinc (c := 1) (L' := [none, some (.int x1), some (.int (st_KA x2.toNatClampNeg)), some (.int (x3 + 1))]) cx rfl (by decide +kernel) (by decide) rfl dX5_ownerOf_49 ?_
  refine z_goto (tgt := 4) cx (by decide) dX5_ownerOf_52 ?_
  exact q_weak (z_wk_n (z_wk_s (z_wk_s (z_wk_s (z_wk_0))))) (hk4 x1 (st_KA x2.toNatClampNeg) (x3 + 1) S h)
def f_X5_ownerOf_4 (n : Nat) : Nat → Int32 → Int32 → Int32 → z_Stt → Option (Int32 × z_Stt)
  | 0, _, _, _, _ => none
  | m + 1, x1, x2, x3, S =>
    if 8 ≤ x3 then
      some ((-1), S)
    else
      if x2 < 0 then
        some ((-1), S)
      else
        if 8 ≤ x2 then
          some ((-1), S)
        else
          if x1 < 0 then
            f_X5_ownerOf_43 n (f_X5_ownerOf_4 n m) x1 x2 x3 S
          else
            if 4 ≤ x1 then
              f_X5_ownerOf_43 n (f_X5_ownerOf_4 n m) x1 x2 x3 S
            else
              if ¬ ((4 * x2) + x1 < 0 ∨ 32 ≤ ((4 * x2) + x1).toNatClampNeg) then
                if st_OB ((4 * x2) + x1).toNatClampNeg = 0 then
                  f_X5_ownerOf_43 n (f_X5_ownerOf_4 n m) x1 x2 x3 S
                else
                  some (x2, S)
              else none
set_option maxHeartbeats 4000000 in
set_option maxRecDepth 100000 in
theorem t_X5_ownerOf_4 {g : z_G} {K : z_K} (n : Nat) {v : Int32} {S' : z_Stt} (cx : z_C g M_X5_ownerOf 0 K) (ce : z_E' g M_X5_ownerOf (z_P g (some (.int v)) S') K) : ∀ (m : Nat) (x1 : Int32) (x2 : Int32) (x3 : Int32) (S : z_Stt) (h : f_X5_ownerOf_4 n m x1 x2 x3 S = some (v, S')), z_At g M_X5_ownerOf K 4 [none, some (.int x1), some (.int x2), some (.int x3)] [] (hp g S) := by
  intro m
  induction m with
  | zero => intro x1 x2 x3 S h; simp [f_X5_ownerOf_4] at h
  | succ m ih =>
    intro x1 x2 x3 S h
    rw [f_X5_ownerOf_4] at h
    refine z_iload_n cx rfl rfl dX5_ownerOf_4 ?_
    refine z_bipush (v := 8) cx (by decide +kernel) dX5_ownerOf_5 ?_
    refine z_icmp_ge (tgt := 55) cx (by decide) dX5_ownerOf_7 (fun c1 => ?_) (fun c1 => ?_)
    · have h := g_t c1 h
      refine z_iconst (v := (-1)) cx (by decide +kernel) dX5_ownerOf_55 ?_
      obtain ⟨rfl, rfl⟩ := g_some h
      exact z_ireturn cx ce rfl ⟨rfl, rfl⟩ dX5_ownerOf_56
    · have h := g_f c1 h
      refine z_iload_n cx rfl rfl dX5_ownerOf_10 ?_
      refine z_if_lt (tgt := 55) cx (by decide) dX5_ownerOf_11 (fun c2 => ?_) (fun c2 => ?_)
      · have h := g_t c2 h
        refine z_iconst (v := (-1)) cx (by decide +kernel) dX5_ownerOf_55 ?_
        obtain ⟨rfl, rfl⟩ := g_some h
        exact z_ireturn cx ce rfl ⟨rfl, rfl⟩ dX5_ownerOf_56
      · have h := g_f c2 h
        refine z_iload_n cx rfl rfl dX5_ownerOf_14 ?_
        refine z_bipush (v := 8) cx (by decide +kernel) dX5_ownerOf_15 ?_
        refine z_icmp_ge (tgt := 55) cx (by decide) dX5_ownerOf_17 (fun c3 => ?_) (fun c3 => ?_)
        · have h := g_t c3 h
          refine z_iconst (v := (-1)) cx (by decide +kernel) dX5_ownerOf_55 ?_
          obtain ⟨rfl, rfl⟩ := g_some h
          exact z_ireturn cx ce rfl ⟨rfl, rfl⟩ dX5_ownerOf_56
        · have h := g_f c3 h
          refine z_iload_n cx rfl rfl dX5_ownerOf_20 ?_
          refine z_if_lt (tgt := 43) cx (by decide) dX5_ownerOf_21 (fun c4 => ?_) (fun c4 => ?_)
          · have h := g_t c4 h
            exact q_weak (z_wk_n (z_wk_s (z_wk_s (z_wk_s (z_wk_0))))) (t_X5_ownerOf_43 n cx ce (f_X5_ownerOf_4 n m) ih x1 x2 x3 S h)
          · have h := g_f c4 h
            refine z_iload_n cx rfl rfl dX5_ownerOf_24 ?_
            refine z_iconst (v := 4) cx (by decide +kernel) dX5_ownerOf_25 ?_
            refine z_icmp_ge (tgt := 43) cx (by decide) dX5_ownerOf_26 (fun c5 => ?_) (fun c5 => ?_)
            · have h := g_t c5 h
              exact q_weak (z_wk_n (z_wk_s (z_wk_s (z_wk_s (z_wk_0))))) (t_X5_ownerOf_43 n cx ce (f_X5_ownerOf_4 n m) ih x1 x2 x3 S h)
            · have h := g_f c5 h
              refine z_gets2 cx tb_1081 dX5_ownerOf_29 ?_
              refine z_iconst (v := 4) cx (by decide +kernel) dX5_ownerOf_32 ?_
              refine z_iload_n cx rfl rfl dX5_ownerOf_33 ?_
              refine z_imul cx dX5_ownerOf_34 ?_
              refine z_iload_n cx rfl rfl dX5_ownerOf_35 ?_
              refine z_iadd cx dX5_ownerOf_36 ?_
              obtain ⟨c6, h⟩ := g_if h
              refine z_ti2 cx c6 dX5_ownerOf_37 ?_
              refine z_if_eq (tgt := 43) cx (by decide) dX5_ownerOf_38 (fun c7 => ?_) (fun c7 => ?_)
              · have h := g_t c7 h
                exact q_weak (z_wk_n (z_wk_s (z_wk_s (z_wk_s (z_wk_0))))) (t_X5_ownerOf_43 n cx ce (f_X5_ownerOf_4 n m) ih x1 x2 x3 S h)
              · have h := g_f c7 h
                refine z_iload_n cx rfl rfl dX5_ownerOf_41 ?_
                obtain ⟨rfl, rfl⟩ := g_some h
                exact z_ireturn cx ce rfl ⟨rfl, rfl⟩ dX5_ownerOf_42
def f_X5_ownerOf (n : Nat) (a0 : Int32) (a1 : Int32) (S : z_Stt) : Option (Int32 × z_Stt) :=
  f_X5_ownerOf_4 n n a1 a0 0 S
set_option maxHeartbeats 4000000 in
set_option maxRecDepth 100000 in
theorem t_X5_ownerOf {g : z_G} {K : z_K} (n : Nat) {v : Int32} {S' : z_Stt} (cx : z_C g M_X5_ownerOf 0 K) (ce : z_E' g M_X5_ownerOf (z_P g (some (.int v)) S') K) (a0 : Int32) (a1 : Int32) (S : z_Stt) (h : f_X5_ownerOf n a0 a1 S = some (v, S')) : z_At g M_X5_ownerOf K 0 [some (.int a0), some (.int a1), none, none] [] (hp g S) := by
  unfold f_X5_ownerOf at h
  refine z_iload_n cx rfl rfl dX5_ownerOf_0 ?_
  refine z_istore_n (L' := [some (.int a0), some (.int a1), some (.int a0), none]) cx rfl (by decide) rfl dX5_ownerOf_1 ?_
  refine z_iconst (v := 0) cx (by decide +kernel) dX5_ownerOf_2 ?_
  refine z_istore_n (L' := [some (.int a0), some (.int a1), some (.int a0), some (.int 0)]) cx rfl (by decide) rfl dX5_ownerOf_3 ?_
  exact q_weak (z_wk_n (z_wk_s (z_wk_s (z_wk_s (z_wk_0))))) (t_X5_ownerOf_4 n cx ce n a1 a0 0 S h)
theorem c_X5_ownerOf {g : z_G} {n : Nat} (a0 : Int32) (a1 : Int32) (S : z_Stt) {v : Int32} {S' : z_Stt} (h : f_X5_ownerOf n a0 a1 S = some (v, S')) : z_Ct g M_X5_ownerOf 0 [.int a0, .int a1] (hp g S) (z_P g (some (.int v)) S') :=
  z_Ct.of (by decide +kernel) rfl (Nat.le_of_ble_eq_true rfl) (fun K cx ce => q_weak (L' := [some (.int a0), some (.int a1), none, none]) (z_wk_s (z_wk_s (z_wk_e (z_wk_e (z_wk_0))))) (t_X5_ownerOf n cx ce a0 a1 S h))
abbrev M_X5_note : z_M := (RX5, yX5_note, cX5_note, 2, none)
theorem mo_X5_note : z_mo M_X5_note 1 := ⟨tb_1089, tb_49, rfl, ⟨by decide +kernel, by decide +kernel⟩, by decide +kernel, by decide⟩
theorem mv_X5_note : z_mv M_X5_note := ⟨tb_1087, tb_1088⟩
def f_X5_note_19 (S : z_Stt) : Option (Unit × z_Stt) :=
  g_let (sI S 3203 ((S.1 3203) + 1)) fun S1 =>
  some ((), S1)
set_option maxHeartbeats 4000000 in
set_option maxRecDepth 100000 in
theorem t_X5_note_19 {g : z_G} {K : z_K} {v : Unit} {S' : z_Stt} (cx : z_C g M_X5_note 0 K) (ce : z_E' g M_X5_note (z_P g (none) S') K) (S : z_Stt) (h : f_X5_note_19 S = some (v, S')) : z_At g M_X5_note K 19 [some (.ref (z_ad g 32)), none] [] (hp g S) := by
  unfold f_X5_note_19 at h
  refine z_aload_n cx rfl rfl dX5_note_19 ?_
  refine z_dup cx rfl dX5_note_20 ?_
  refine q_getI (k := 32) (n := 3203) cx z_cl5 (j := 3) (by decide) tb_126 rfl (by decide) rfl rfl rfl dX5_note_21 ?_
  refine z_iconst (v := 1) cx (by decide +kernel) dX5_note_24 ?_
  refine z_iadd cx dX5_note_25 ?_
  refine q_putI (k := 32) (n := 3203) cx z_cl5 (j := 3) (by decide) tb_126 rfl rfl rfl (by decide) rfl rfl rfl (by decide) (by decide) dX5_note_26 ?_
  obtain ⟨S1, e2, h⟩ := g_let_ex h
  rw [← e2]
  obtain ⟨rfl, rfl⟩ := g_some h
  exact z_return cx ce rfl ⟨rfl, rfl⟩ dX5_note_29
def f_X5_note (a0 : Int32) (S : z_Stt) : Option (Unit × z_Stt) :=
  if 24 ≤ S.1 3203 then
    f_X5_note_19 S
  else
    if ¬ (S.1 3203 < 0 ∨ 24 ≤ (S.1 3203).toNatClampNeg) then
      g_let (sA S 34 (upd (S.2.2.1 34) (S.1 3203).toNatClampNeg a0)) fun S3 =>
      f_X5_note_19 S3
    else none
set_option maxHeartbeats 4000000 in
set_option maxRecDepth 100000 in
theorem t_X5_note {g : z_G} {K : z_K} {v : Unit} {S' : z_Stt} (cx : z_C g M_X5_note 0 K) (ce : z_E' g M_X5_note (z_P g (none) S') K) (a0 : Int32) (S : z_Stt) (h : f_X5_note a0 S = some (v, S')) : z_At g M_X5_note K 0 [some (.ref (z_ad g 32)), some (.int a0)] [] (hp g S) := by
  unfold f_X5_note at h
  refine z_aload_n cx rfl rfl dX5_note_0 ?_
  refine q_getI (k := 32) (n := 3203) cx z_cl5 (j := 3) (by decide) tb_126 rfl (by decide) rfl rfl rfl dX5_note_1 ?_
  refine z_bipush (v := 24) cx (by decide +kernel) dX5_note_4 ?_
  refine z_icmp_ge (tgt := 19) cx (by decide) dX5_note_6 (fun c1 => ?_) (fun c1 => ?_)
  · have h := g_t c1 h
    exact q_weak (z_wk_s (z_wk_n (z_wk_0))) (t_X5_note_19 cx ce S h)
  · have h := g_f c1 h
    refine z_aload_n cx rfl rfl dX5_note_9 ?_
    refine q_getF (k := 32) (n := 34) (r := 2) cx z_cl5 (j := 2) (by decide) tb_125 rfl (by decide) rfl rfl rfl dX5_note_10 ?_
    refine z_aload_n cx rfl rfl dX5_note_13 ?_
    refine q_getI (k := 32) (n := 3203) cx z_cl5 (j := 3) (by decide) tb_126 rfl (by decide) rfl rfl rfl dX5_note_14 ?_
    refine z_iload_n cx rfl rfl dX5_note_17 ?_
    obtain ⟨c2, h⟩ := g_if h
    refine q_iast cx (by decide) rfl c2 dX5_note_18 ?_
    obtain ⟨S3, e4, h⟩ := g_let_ex h
    rw [← e4]
    exact q_weak (z_wk_s (z_wk_n (z_wk_0))) (t_X5_note_19 cx ce S3 h)
theorem c_X5_note {g : z_G} (a0 : Int32) (S : z_Stt) {v : Unit} {S' : z_Stt} (h : f_X5_note a0 S = some (v, S')) : z_Ct g M_X5_note 0 [.ref (z_ad g 32), .int a0] (hp g S) (z_P g (none) S') :=
  z_Ct.of (by decide +kernel) rfl (Nat.le_of_ble_eq_true rfl) (fun K cx ce => q_weak (L' := [some (.ref (z_ad g 32)), some (.int a0)]) (z_wk_s (z_wk_s (z_wk_0))) (t_X5_note cx ce a0 S h))
abbrev GT_X5_does : Type := (Int32 → Int32 → Int32 → Int32 → z_Stt → Option (Int32 × z_Stt)) × (Int32 → Int32 → Int32 → Int32 → z_Stt → Option (Int32 × z_Stt))
def HG_X5_does (g : z_G) (G : GT_X5_does) (d0 : Nat) : Prop := (∀ (a0 : Int32) (a1 : Int32) (a2 : Int32) (a3 : Int32) (S : z_Stt) (v : Int32) (S' : z_Stt), G.1 a0 a1 a2 a3 S = some (v, S') → z_Ct g (RX5, yX5_does, cX5_does, 7, some .int) d0 [.ref (z_ad g 32), .int a0, .int a1, .int a2, .int a3] (hp g S) (z_P g (some (.int v)) S')) ∧ (∀ (a0 : Int32) (a1 : Int32) (a2 : Int32) (a3 : Int32) (S : z_Stt) (v : Int32) (S' : z_Stt), G.2 a0 a1 a2 a3 S = some (v, S') → z_Ct g (RX5, yX5_runs, cX5_runs, 5, some .int) d0 [.ref (z_ad g 32), .int a0, .int a1, .int a2, .int a3] (hp g S) (z_P g (some (.int v)) S'))
abbrev M_X5_does : z_M := (RX5, yX5_does, cX5_does, 7, some .int)
theorem mo_X5_does : z_mo M_X5_does 4 := ⟨tb_1080, tb_49, rfl, ⟨by decide +kernel, by decide +kernel⟩, by decide +kernel, by decide⟩
theorem mv_X5_does : z_mv M_X5_does := ⟨tb_1078, tb_1079⟩
abbrev M_X5_runs : z_M := (RX5, yX5_runs, cX5_runs, 5, some .int)
theorem mo_X5_runs : z_mo M_X5_runs 4 := ⟨tb_1093, tb_49, rfl, ⟨by decide +kernel, by decide +kernel⟩, by decide +kernel, by decide⟩
theorem mv_X5_runs : z_mv M_X5_runs := ⟨tb_1091, tb_1092⟩
def f_X5_does (n : Nat) (G : GT_X5_does) (a0 : Int32) (a1 : Int32) (a2 : Int32) (a3 : Int32) (S : z_Stt) : Option (Int32 × z_Stt) :=
  g_bd (f_X5_ownerOf n a0 a1 S) fun v1 S2 =>
  if v1 < 0 then
    some (0, S2)
  else
    if a3 ≤ 32 then
      if ¬ ((4 * v1) + a1 < 0 ∨ 32 ≤ ((4 * v1) + a1).toNatClampNeg) then
        g_bd (f_X5_note (st_OB ((4 * v1) + a1).toNatClampNeg) S2) fun v7 S8 =>
        if ¬ (v1 < 0 ∨ 8 ≤ v1.toNatClampNeg) then
          g_bd (G.2 (st_OB ((4 * v1) + a1).toNatClampNeg) (st_KA v1.toNatClampNeg) a2 (a3 + 1) S8) fun v11 S12 =>
          some (v11, S12)
        else none
      else none
    else
      some (0, S2)
set_option maxHeartbeats 4000000 in
set_option maxRecDepth 100000 in
theorem t_X5_does {g : z_G} {K : z_K} (n : Nat) (G : GT_X5_does) {d0 : Nat} (hG : HG_X5_does g G d0) (hb : 0 ≤ d0) {v : Int32} {S' : z_Stt} (cx : z_C g M_X5_does (d0 + 1) K) (ce : z_E' g M_X5_does (z_P g (some (.int v)) S') K) (a0 : Int32) (a1 : Int32) (a2 : Int32) (a3 : Int32) (S : z_Stt) (h : f_X5_does n G a0 a1 a2 a3 S = some (v, S')) : z_At g M_X5_does K 0 [some (.ref (z_ad g 32)), some (.int a0), some (.int a1), some (.int a2), some (.int a3), none, none] [] (hp g S) := by
  unfold f_X5_does at h
  refine z_iload_n cx rfl rfl dX5_does_0 ?_
  refine z_iload_n cx rfl rfl dX5_does_1 ?_
  obtain ⟨v1, S2, e3, h⟩ := g_bd_ex h
  refine q_csi (As := [.int a0, .int a1]) cx mo_X5_ownerOf ms_X5_ownerOf tb_1083 (by omega) rfl rfl (Nat.le_of_ble_eq_true rfl) dX5_does_2 (c_X5_ownerOf a0 a1 _ e3) ?_
  refine z_istore (L' := [some (.ref (z_ad g 32)), some (.int a0), some (.int a1), some (.int a2), some (.int a3), some (.int v1), none]) cx (by decide) rfl dX5_does_5 ?_
  refine z_iload cx rfl dX5_does_7 ?_
  refine z_if_lt (tgt := 19) cx (by decide) dX5_does_9 (fun c4 => ?_) (fun c4 => ?_)
  · have h := g_t c4 h
    refine z_iconst (v := 0) cx (by decide +kernel) dX5_does_19 ?_
    obtain ⟨rfl, rfl⟩ := g_some h
    exact z_ireturn cx ce rfl ⟨rfl, rfl⟩ dX5_does_20
  · have h := g_f c4 h
    refine z_iload cx rfl dX5_does_12 ?_
    refine z_bipush (v := 32) cx (by decide +kernel) dX5_does_14 ?_
    refine z_icmp_le (tgt := 21) cx (by decide) dX5_does_16 (fun c5 => ?_) (fun c5 => ?_)
    · have h := g_t c5 h
      refine z_gets2 cx tb_1081 dX5_does_21 ?_
      refine z_iconst (v := 4) cx (by decide +kernel) dX5_does_24 ?_
      refine z_iload cx rfl dX5_does_25 ?_
      refine z_imul cx dX5_does_27 ?_
      refine z_iload_n cx rfl rfl dX5_does_28 ?_
      refine z_iadd cx dX5_does_29 ?_
      obtain ⟨c6, h⟩ := g_if h
      refine z_ti2 cx c6 dX5_does_30 ?_
      refine z_istore (L' := [some (.ref (z_ad g 32)), some (.int a0), some (.int a1), some (.int a2), some (.int a3), some (.int v1), some (.int (st_OB ((4 * v1) + a1).toNatClampNeg))]) cx (by decide) rfl dX5_does_31 ?_
      refine z_aload_n cx rfl rfl dX5_does_33 ?_
      refine z_iload cx rfl dX5_does_34 ?_
      obtain ⟨v7, S8, e9, h⟩ := g_bd_ex h
      refine q_cvv (As := [.int (st_OB ((4 * v1) + a1).toNatClampNeg)]) cx mo_X5_note mv_X5_note z_cl5 rfl tb_1086 (by omega) rfl (by decide) rfl rfl (Nat.le_of_ble_eq_true rfl) dX5_does_36 (c_X5_note (st_OB ((4 * v1) + a1).toNatClampNeg) _ e9) ?_
      refine z_aload_n cx rfl rfl dX5_does_39 ?_
      refine z_iload cx rfl dX5_does_40 ?_
      refine z_gets1 cx tb_1082 dX5_does_42 ?_
      refine z_iload cx rfl dX5_does_45 ?_
      obtain ⟨c10, h⟩ := g_if h
      refine z_ti1 cx c10 dX5_does_47 ?_
      refine z_iload_n cx rfl rfl dX5_does_48 ?_
      refine z_iload cx rfl dX5_does_49 ?_
      refine z_iconst (v := 1) cx (by decide +kernel) dX5_does_51 ?_
      refine z_iadd cx dX5_does_52 ?_
      obtain ⟨v11, S12, e13, h⟩ := g_bd_ex h
      refine q_cvi (As := [.int (st_OB ((4 * v1) + a1).toNatClampNeg), .int (st_KA v1.toNatClampNeg), .int a2, .int (a3 + 1)]) cx mo_X5_runs mv_X5_runs z_cl5 rfl tb_1090 (Nat.le_refl _) rfl (by decide) rfl rfl (Nat.le_of_ble_eq_true rfl) dX5_does_53 (hG.2 (st_OB ((4 * v1) + a1).toNatClampNeg) (st_KA v1.toNatClampNeg) a2 (a3 + 1) _ _ _ e13) ?_
      obtain ⟨rfl, rfl⟩ := g_some h
      exact z_ireturn cx ce rfl ⟨rfl, rfl⟩ dX5_does_56
    · have h := g_f c5 h
      refine z_iconst (v := 0) cx (by decide +kernel) dX5_does_19 ?_
      obtain ⟨rfl, rfl⟩ := g_some h
      exact z_ireturn cx ce rfl ⟨rfl, rfl⟩ dX5_does_20
theorem c_X5_does {g : z_G} {n : Nat} {G : GT_X5_does} {d0 : Nat} (hG : HG_X5_does g G d0) (hb : 0 ≤ d0) (a0 : Int32) (a1 : Int32) (a2 : Int32) (a3 : Int32) (S : z_Stt) {v : Int32} {S' : z_Stt} (h : f_X5_does n G a0 a1 a2 a3 S = some (v, S')) : z_Ct g M_X5_does (d0 + 1) [.ref (z_ad g 32), .int a0, .int a1, .int a2, .int a3] (hp g S) (z_P g (some (.int v)) S') :=
  z_Ct.of (by decide +kernel) rfl (Nat.le_of_ble_eq_true rfl) (fun K cx ce => q_weak (L' := [some (.ref (z_ad g 32)), some (.int a0), some (.int a1), some (.int a2), some (.int a3), none, none]) (z_wk_s (z_wk_s (z_wk_s (z_wk_s (z_wk_s (z_wk_e (z_wk_e (z_wk_0)))))))) (t_X5_does n G hG hb cx ce a0 a1 a2 a3 S h))
def f_X5_runs (n : Nat) (G : GT_X5_does) (a0 : Int32) (a1 : Int32) (a2 : Int32) (a3 : Int32) (S : z_Stt) : Option (Int32 × z_Stt) :=
  if a0 = 1 then
    some (a2 + (S.1 3204), S)
  else if a0 = 2 then
    g_bd (G.1 (S.1 3205) 1 a2 a3 S) fun v3 S4 =>
    g_bd (G.1 (S4.1 3205) 2 1 a3 S4) fun v6 S7 =>
    some (v3 - v6, S7)
  else if a0 = 10 then
    g_bd (G.1 (S.1 3205) 0 a2 a3 S) fun v10 S11 =>
    some (v10 * 2, S11)
  else if a0 = 11 then
    some (a2 ^^^ (S.1 3204), S)
  else if a0 = 20 then
    g_bd (G.1 a1 0 a2 a3 S) fun v15 S16 =>
    some (v15 + 3, S16)
  else if a0 = 30 then
    g_bd (G.1 a1 1 a2 a3 S) fun v19 S20 =>
    some (-v19, S20)
  else if a0 = 40 then
    g_bd (G.1 a1 2 a2 a3 S) fun v23 S24 =>
    some (v23 * 3, S24)
  else if a0 = 41 then
    g_bd (G.1 a1 1 (a2 + 1) a3 S) fun v27 S28 =>
    some (v27, S28)
  else if a0 = 50 then
    g_bd (G.1 a1 2 a2 a3 S) fun v31 S32 =>
    g_bd (G.1 (S32.1 3205) 0 2 a3 S32) fun v34 S35 =>
    some (v31 - v34, S35)
  else if a0 = 60 then
    g_bd (G.1 a1 3 a2 a3 S) fun v38 S39 =>
    some (v38 ^^^ 5, S39)
  else if a0 = 70 then
    g_bd (G.1 a1 0 a2 a3 S) fun v42 S43 =>
    some (v42 * 2, S43)
  else if a0 = 80 then
    g_bd (G.1 a1 1 a2 a3 S) fun v46 S47 =>
    g_bd (G.1 (S47.1 3205) 2 2 a3 S47) fun v49 S50 =>
    some (v46 + v49, S50)
  else if a0 = 81 then
    g_bd (G.1 a1 3 a2 a3 S) fun v53 S54 =>
    some (v53 - 1, S54)
  else 
    some (0, S)
set_option maxHeartbeats 4000000 in
set_option maxRecDepth 100000 in
theorem t_X5_runs {g : z_G} {K : z_K} (n : Nat) (G : GT_X5_does) {d0 : Nat} (hG : HG_X5_does g G d0) (hb : 0 ≤ d0) {v : Int32} {S' : z_Stt} (cx : z_C g M_X5_runs (d0 + 1) K) (ce : z_E' g M_X5_runs (z_P g (some (.int v)) S') K) (a0 : Int32) (a1 : Int32) (a2 : Int32) (a3 : Int32) (S : z_Stt) (h : f_X5_runs n G a0 a1 a2 a3 S = some (v, S')) : z_At g M_X5_runs K 0 [some (.ref (z_ad g 32)), some (.int a0), some (.int a1), some (.int a2), some (.int a3)] [] (hp g S) := by
  unfold f_X5_runs at h
  refine z_iload_n cx rfl rfl dX5_runs_0 ?_
  by_cases c1 : a0 = 1
  · have h := g_t c1 h
    refine z_lookup (tgt := 116) (off := 115) cx (by decide +kernel) (by rw [c1]; decide +kernel) (by decide) dX5_runs_1 ?_
    refine z_iload_n cx rfl rfl dX5_runs_116 ?_
    refine z_aload_n cx rfl rfl dX5_runs_117 ?_
    refine q_getI (k := 32) (n := 3204) cx z_cl5 (j := 4) (by decide) tb_127 rfl (by decide) rfl rfl rfl dX5_runs_118 ?_
    refine z_iadd cx dX5_runs_121 ?_
    obtain ⟨rfl, rfl⟩ := g_some h
    exact z_ireturn cx ce rfl ⟨rfl, rfl⟩ dX5_runs_122
  have h := g_f c1 h
  by_cases c2 : a0 = 2
  · have h := g_t c2 h
    refine z_lookup (tgt := 123) (off := 122) cx (by decide +kernel) (by rw [c2]; decide +kernel) (by decide) dX5_runs_1 ?_
    refine z_aload_n cx rfl rfl dX5_runs_123 ?_
    refine z_aload_n cx rfl rfl dX5_runs_124 ?_
    refine q_getI (k := 32) (n := 3205) cx z_cl5 (j := 5) (by decide) tb_128 rfl (by decide) rfl rfl rfl dX5_runs_125 ?_
    refine z_iconst (v := 1) cx (by decide +kernel) dX5_runs_128 ?_
    refine z_iload_n cx rfl rfl dX5_runs_129 ?_
    refine z_iload cx rfl dX5_runs_130 ?_
    obtain ⟨v3, S4, e5, h⟩ := g_bd_ex h
    refine q_cvi (As := [.int (S.1 3205), .int 1, .int a2, .int a3]) cx mo_X5_does mv_X5_does z_cl5 rfl tb_1077 (Nat.le_refl _) rfl (by decide) rfl rfl (Nat.le_of_ble_eq_true rfl) dX5_runs_132 (hG.1 (S.1 3205) 1 a2 a3 _ _ _ e5) ?_
    refine z_aload_n cx rfl rfl dX5_runs_135 ?_
    refine z_aload_n cx rfl rfl dX5_runs_136 ?_
    refine q_getI (k := 32) (n := 3205) cx z_cl5 (j := 5) (by decide) tb_128 rfl (by decide) rfl rfl rfl dX5_runs_137 ?_
    refine z_iconst (v := 2) cx (by decide +kernel) dX5_runs_140 ?_
    refine z_iconst (v := 1) cx (by decide +kernel) dX5_runs_141 ?_
    refine z_iload cx rfl dX5_runs_142 ?_
    obtain ⟨v6, S7, e8, h⟩ := g_bd_ex h
    refine q_cvi (As := [.int (S4.1 3205), .int 2, .int 1, .int a3]) cx mo_X5_does mv_X5_does z_cl5 rfl tb_1077 (Nat.le_refl _) rfl (by decide) rfl rfl (Nat.le_of_ble_eq_true rfl) dX5_runs_144 (hG.1 (S4.1 3205) 2 1 a3 _ _ _ e8) ?_
    refine z_isub cx dX5_runs_147 ?_
    obtain ⟨rfl, rfl⟩ := g_some h
    exact z_ireturn cx ce rfl ⟨rfl, rfl⟩ dX5_runs_148
  have h := g_f c2 h
  by_cases c9 : a0 = 10
  · have h := g_t c9 h
    refine z_lookup (tgt := 149) (off := 148) cx (by decide +kernel) (by rw [c9]; decide +kernel) (by decide) dX5_runs_1 ?_
    refine z_aload_n cx rfl rfl dX5_runs_149 ?_
    refine z_aload_n cx rfl rfl dX5_runs_150 ?_
    refine q_getI (k := 32) (n := 3205) cx z_cl5 (j := 5) (by decide) tb_128 rfl (by decide) rfl rfl rfl dX5_runs_151 ?_
    refine z_iconst (v := 0) cx (by decide +kernel) dX5_runs_154 ?_
    refine z_iload_n cx rfl rfl dX5_runs_155 ?_
    refine z_iload cx rfl dX5_runs_156 ?_
    obtain ⟨v10, S11, e12, h⟩ := g_bd_ex h
    refine q_cvi (As := [.int (S.1 3205), .int 0, .int a2, .int a3]) cx mo_X5_does mv_X5_does z_cl5 rfl tb_1077 (Nat.le_refl _) rfl (by decide) rfl rfl (Nat.le_of_ble_eq_true rfl) dX5_runs_158 (hG.1 (S.1 3205) 0 a2 a3 _ _ _ e12) ?_
    refine z_iconst (v := 2) cx (by decide +kernel) dX5_runs_161 ?_
    refine z_imul cx dX5_runs_162 ?_
    obtain ⟨rfl, rfl⟩ := g_some h
    exact z_ireturn cx ce rfl ⟨rfl, rfl⟩ dX5_runs_163
  have h := g_f c9 h
  by_cases c13 : a0 = 11
  · have h := g_t c13 h
    refine z_lookup (tgt := 164) (off := 163) cx (by decide +kernel) (by rw [c13]; decide +kernel) (by decide) dX5_runs_1 ?_
    refine z_iload_n cx rfl rfl dX5_runs_164 ?_
    refine z_aload_n cx rfl rfl dX5_runs_165 ?_
    refine q_getI (k := 32) (n := 3204) cx z_cl5 (j := 4) (by decide) tb_127 rfl (by decide) rfl rfl rfl dX5_runs_166 ?_
    refine z_ixor cx dX5_runs_169 ?_
    obtain ⟨rfl, rfl⟩ := g_some h
    exact z_ireturn cx ce rfl ⟨rfl, rfl⟩ dX5_runs_170
  have h := g_f c13 h
  by_cases c14 : a0 = 20
  · have h := g_t c14 h
    refine z_lookup (tgt := 171) (off := 170) cx (by decide +kernel) (by rw [c14]; decide +kernel) (by decide) dX5_runs_1 ?_
    refine z_aload_n cx rfl rfl dX5_runs_171 ?_
    refine z_iload_n cx rfl rfl dX5_runs_172 ?_
    refine z_iconst (v := 0) cx (by decide +kernel) dX5_runs_173 ?_
    refine z_iload_n cx rfl rfl dX5_runs_174 ?_
    refine z_iload cx rfl dX5_runs_175 ?_
    obtain ⟨v15, S16, e17, h⟩ := g_bd_ex h
    refine q_cvi (As := [.int a1, .int 0, .int a2, .int a3]) cx mo_X5_does mv_X5_does z_cl5 rfl tb_1077 (Nat.le_refl _) rfl (by decide) rfl rfl (Nat.le_of_ble_eq_true rfl) dX5_runs_177 (hG.1 a1 0 a2 a3 _ _ _ e17) ?_
    refine z_iconst (v := 3) cx (by decide +kernel) dX5_runs_180 ?_
    refine z_iadd cx dX5_runs_181 ?_
    obtain ⟨rfl, rfl⟩ := g_some h
    exact z_ireturn cx ce rfl ⟨rfl, rfl⟩ dX5_runs_182
  have h := g_f c14 h
  by_cases c18 : a0 = 30
  · have h := g_t c18 h
    refine z_lookup (tgt := 183) (off := 182) cx (by decide +kernel) (by rw [c18]; decide +kernel) (by decide) dX5_runs_1 ?_
    refine z_aload_n cx rfl rfl dX5_runs_183 ?_
    refine z_iload_n cx rfl rfl dX5_runs_184 ?_
    refine z_iconst (v := 1) cx (by decide +kernel) dX5_runs_185 ?_
    refine z_iload_n cx rfl rfl dX5_runs_186 ?_
    refine z_iload cx rfl dX5_runs_187 ?_
    obtain ⟨v19, S20, e21, h⟩ := g_bd_ex h
    refine q_cvi (As := [.int a1, .int 1, .int a2, .int a3]) cx mo_X5_does mv_X5_does z_cl5 rfl tb_1077 (Nat.le_refl _) rfl (by decide) rfl rfl (Nat.le_of_ble_eq_true rfl) dX5_runs_189 (hG.1 a1 1 a2 a3 _ _ _ e21) ?_
    refine z_ineg cx dX5_runs_192 ?_
    obtain ⟨rfl, rfl⟩ := g_some h
    exact z_ireturn cx ce rfl ⟨rfl, rfl⟩ dX5_runs_193
  have h := g_f c18 h
  by_cases c22 : a0 = 40
  · have h := g_t c22 h
    refine z_lookup (tgt := 194) (off := 193) cx (by decide +kernel) (by rw [c22]; decide +kernel) (by decide) dX5_runs_1 ?_
    refine z_aload_n cx rfl rfl dX5_runs_194 ?_
    refine z_iload_n cx rfl rfl dX5_runs_195 ?_
    refine z_iconst (v := 2) cx (by decide +kernel) dX5_runs_196 ?_
    refine z_iload_n cx rfl rfl dX5_runs_197 ?_
    refine z_iload cx rfl dX5_runs_198 ?_
    obtain ⟨v23, S24, e25, h⟩ := g_bd_ex h
    refine q_cvi (As := [.int a1, .int 2, .int a2, .int a3]) cx mo_X5_does mv_X5_does z_cl5 rfl tb_1077 (Nat.le_refl _) rfl (by decide) rfl rfl (Nat.le_of_ble_eq_true rfl) dX5_runs_200 (hG.1 a1 2 a2 a3 _ _ _ e25) ?_
    refine z_iconst (v := 3) cx (by decide +kernel) dX5_runs_203 ?_
    refine z_imul cx dX5_runs_204 ?_
    obtain ⟨rfl, rfl⟩ := g_some h
    exact z_ireturn cx ce rfl ⟨rfl, rfl⟩ dX5_runs_205
  have h := g_f c22 h
  by_cases c26 : a0 = 41
  · have h := g_t c26 h
    refine z_lookup (tgt := 206) (off := 205) cx (by decide +kernel) (by rw [c26]; decide +kernel) (by decide) dX5_runs_1 ?_
    refine z_aload_n cx rfl rfl dX5_runs_206 ?_
    refine z_iload_n cx rfl rfl dX5_runs_207 ?_
    refine z_iconst (v := 1) cx (by decide +kernel) dX5_runs_208 ?_
    refine z_iload_n cx rfl rfl dX5_runs_209 ?_
    refine z_iconst (v := 1) cx (by decide +kernel) dX5_runs_210 ?_
    refine z_iadd cx dX5_runs_211 ?_
    refine z_iload cx rfl dX5_runs_212 ?_
    obtain ⟨v27, S28, e29, h⟩ := g_bd_ex h
    refine q_cvi (As := [.int a1, .int 1, .int (a2 + 1), .int a3]) cx mo_X5_does mv_X5_does z_cl5 rfl tb_1077 (Nat.le_refl _) rfl (by decide) rfl rfl (Nat.le_of_ble_eq_true rfl) dX5_runs_214 (hG.1 a1 1 (a2 + 1) a3 _ _ _ e29) ?_
    obtain ⟨rfl, rfl⟩ := g_some h
    exact z_ireturn cx ce rfl ⟨rfl, rfl⟩ dX5_runs_217
  have h := g_f c26 h
  by_cases c30 : a0 = 50
  · have h := g_t c30 h
    refine z_lookup (tgt := 218) (off := 217) cx (by decide +kernel) (by rw [c30]; decide +kernel) (by decide) dX5_runs_1 ?_
    refine z_aload_n cx rfl rfl dX5_runs_218 ?_
    refine z_iload_n cx rfl rfl dX5_runs_219 ?_
    refine z_iconst (v := 2) cx (by decide +kernel) dX5_runs_220 ?_
    refine z_iload_n cx rfl rfl dX5_runs_221 ?_
    refine z_iload cx rfl dX5_runs_222 ?_
    obtain ⟨v31, S32, e33, h⟩ := g_bd_ex h
    refine q_cvi (As := [.int a1, .int 2, .int a2, .int a3]) cx mo_X5_does mv_X5_does z_cl5 rfl tb_1077 (Nat.le_refl _) rfl (by decide) rfl rfl (Nat.le_of_ble_eq_true rfl) dX5_runs_224 (hG.1 a1 2 a2 a3 _ _ _ e33) ?_
    refine z_aload_n cx rfl rfl dX5_runs_227 ?_
    refine z_aload_n cx rfl rfl dX5_runs_228 ?_
    refine q_getI (k := 32) (n := 3205) cx z_cl5 (j := 5) (by decide) tb_128 rfl (by decide) rfl rfl rfl dX5_runs_229 ?_
    refine z_iconst (v := 0) cx (by decide +kernel) dX5_runs_232 ?_
    refine z_iconst (v := 2) cx (by decide +kernel) dX5_runs_233 ?_
    refine z_iload cx rfl dX5_runs_234 ?_
    obtain ⟨v34, S35, e36, h⟩ := g_bd_ex h
    refine q_cvi (As := [.int (S32.1 3205), .int 0, .int 2, .int a3]) cx mo_X5_does mv_X5_does z_cl5 rfl tb_1077 (Nat.le_refl _) rfl (by decide) rfl rfl (Nat.le_of_ble_eq_true rfl) dX5_runs_236 (hG.1 (S32.1 3205) 0 2 a3 _ _ _ e36) ?_
    refine z_isub cx dX5_runs_239 ?_
    obtain ⟨rfl, rfl⟩ := g_some h
    exact z_ireturn cx ce rfl ⟨rfl, rfl⟩ dX5_runs_240
  have h := g_f c30 h
  by_cases c37 : a0 = 60
  · have h := g_t c37 h
    refine z_lookup (tgt := 241) (off := 240) cx (by decide +kernel) (by rw [c37]; decide +kernel) (by decide) dX5_runs_1 ?_
    refine z_aload_n cx rfl rfl dX5_runs_241 ?_
    refine z_iload_n cx rfl rfl dX5_runs_242 ?_
    refine z_iconst (v := 3) cx (by decide +kernel) dX5_runs_243 ?_
    refine z_iload_n cx rfl rfl dX5_runs_244 ?_
    refine z_iload cx rfl dX5_runs_245 ?_
    obtain ⟨v38, S39, e40, h⟩ := g_bd_ex h
    refine q_cvi (As := [.int a1, .int 3, .int a2, .int a3]) cx mo_X5_does mv_X5_does z_cl5 rfl tb_1077 (Nat.le_refl _) rfl (by decide) rfl rfl (Nat.le_of_ble_eq_true rfl) dX5_runs_247 (hG.1 a1 3 a2 a3 _ _ _ e40) ?_
    refine z_iconst (v := 5) cx (by decide +kernel) dX5_runs_250 ?_
    refine z_ixor cx dX5_runs_251 ?_
    obtain ⟨rfl, rfl⟩ := g_some h
    exact z_ireturn cx ce rfl ⟨rfl, rfl⟩ dX5_runs_252
  have h := g_f c37 h
  by_cases c41 : a0 = 70
  · have h := g_t c41 h
    refine z_lookup (tgt := 253) (off := 252) cx (by decide +kernel) (by rw [c41]; decide +kernel) (by decide) dX5_runs_1 ?_
    refine z_aload_n cx rfl rfl dX5_runs_253 ?_
    refine z_iload_n cx rfl rfl dX5_runs_254 ?_
    refine z_iconst (v := 0) cx (by decide +kernel) dX5_runs_255 ?_
    refine z_iload_n cx rfl rfl dX5_runs_256 ?_
    refine z_iload cx rfl dX5_runs_257 ?_
    obtain ⟨v42, S43, e44, h⟩ := g_bd_ex h
    refine q_cvi (As := [.int a1, .int 0, .int a2, .int a3]) cx mo_X5_does mv_X5_does z_cl5 rfl tb_1077 (Nat.le_refl _) rfl (by decide) rfl rfl (Nat.le_of_ble_eq_true rfl) dX5_runs_259 (hG.1 a1 0 a2 a3 _ _ _ e44) ?_
    refine z_iconst (v := 2) cx (by decide +kernel) dX5_runs_262 ?_
    refine z_imul cx dX5_runs_263 ?_
    obtain ⟨rfl, rfl⟩ := g_some h
    exact z_ireturn cx ce rfl ⟨rfl, rfl⟩ dX5_runs_264
  have h := g_f c41 h
  by_cases c45 : a0 = 80
  · have h := g_t c45 h
    refine z_lookup (tgt := 265) (off := 264) cx (by decide +kernel) (by rw [c45]; decide +kernel) (by decide) dX5_runs_1 ?_
    refine z_aload_n cx rfl rfl dX5_runs_265 ?_
    refine z_iload_n cx rfl rfl dX5_runs_266 ?_
    refine z_iconst (v := 1) cx (by decide +kernel) dX5_runs_267 ?_
    refine z_iload_n cx rfl rfl dX5_runs_268 ?_
    refine z_iload cx rfl dX5_runs_269 ?_
    obtain ⟨v46, S47, e48, h⟩ := g_bd_ex h
    refine q_cvi (As := [.int a1, .int 1, .int a2, .int a3]) cx mo_X5_does mv_X5_does z_cl5 rfl tb_1077 (Nat.le_refl _) rfl (by decide) rfl rfl (Nat.le_of_ble_eq_true rfl) dX5_runs_271 (hG.1 a1 1 a2 a3 _ _ _ e48) ?_
    refine z_aload_n cx rfl rfl dX5_runs_274 ?_
    refine z_aload_n cx rfl rfl dX5_runs_275 ?_
    refine q_getI (k := 32) (n := 3205) cx z_cl5 (j := 5) (by decide) tb_128 rfl (by decide) rfl rfl rfl dX5_runs_276 ?_
    refine z_iconst (v := 2) cx (by decide +kernel) dX5_runs_279 ?_
    refine z_iconst (v := 2) cx (by decide +kernel) dX5_runs_280 ?_
    refine z_iload cx rfl dX5_runs_281 ?_
    obtain ⟨v49, S50, e51, h⟩ := g_bd_ex h
    refine q_cvi (As := [.int (S47.1 3205), .int 2, .int 2, .int a3]) cx mo_X5_does mv_X5_does z_cl5 rfl tb_1077 (Nat.le_refl _) rfl (by decide) rfl rfl (Nat.le_of_ble_eq_true rfl) dX5_runs_283 (hG.1 (S47.1 3205) 2 2 a3 _ _ _ e51) ?_
    refine z_iadd cx dX5_runs_286 ?_
    obtain ⟨rfl, rfl⟩ := g_some h
    exact z_ireturn cx ce rfl ⟨rfl, rfl⟩ dX5_runs_287
  have h := g_f c45 h
  by_cases c52 : a0 = 81
  · have h := g_t c52 h
    refine z_lookup (tgt := 288) (off := 287) cx (by decide +kernel) (by rw [c52]; decide +kernel) (by decide) dX5_runs_1 ?_
    refine z_aload_n cx rfl rfl dX5_runs_288 ?_
    refine z_iload_n cx rfl rfl dX5_runs_289 ?_
    refine z_iconst (v := 3) cx (by decide +kernel) dX5_runs_290 ?_
    refine z_iload_n cx rfl rfl dX5_runs_291 ?_
    refine z_iload cx rfl dX5_runs_292 ?_
    obtain ⟨v53, S54, e55, h⟩ := g_bd_ex h
    refine q_cvi (As := [.int a1, .int 3, .int a2, .int a3]) cx mo_X5_does mv_X5_does z_cl5 rfl tb_1077 (Nat.le_refl _) rfl (by decide) rfl rfl (Nat.le_of_ble_eq_true rfl) dX5_runs_294 (hG.1 a1 3 a2 a3 _ _ _ e55) ?_
    refine z_iconst (v := 1) cx (by decide +kernel) dX5_runs_297 ?_
    refine z_isub cx dX5_runs_298 ?_
    obtain ⟨rfl, rfl⟩ := g_some h
    exact z_ireturn cx ce rfl ⟨rfl, rfl⟩ dX5_runs_299
  have h := g_f c52 h
  refine z_lookup (tgt := 300) cx (by decide +kernel) (q_osw _ _ _ [1, 2, 10, 11, 20, 30, 40, 41, 50, 60, 70, 80, 81] (by decide +kernel) (by intro a ha; simp only [List.mem_cons, List.not_mem_nil, or_false] at ha; rcases ha with rfl | rfl | rfl | rfl | rfl | rfl | rfl | rfl | rfl | rfl | rfl | rfl | rfl <;> assumption)) (by decide) dX5_runs_1 ?_
  refine z_iconst (v := 0) cx (by decide +kernel) dX5_runs_300 ?_
  obtain ⟨rfl, rfl⟩ := g_some h
  exact z_ireturn cx ce rfl ⟨rfl, rfl⟩ dX5_runs_301
theorem c_X5_runs {g : z_G} {n : Nat} {G : GT_X5_does} {d0 : Nat} (hG : HG_X5_does g G d0) (hb : 0 ≤ d0) (a0 : Int32) (a1 : Int32) (a2 : Int32) (a3 : Int32) (S : z_Stt) {v : Int32} {S' : z_Stt} (h : f_X5_runs n G a0 a1 a2 a3 S = some (v, S')) : z_Ct g M_X5_runs (d0 + 1) [.ref (z_ad g 32), .int a0, .int a1, .int a2, .int a3] (hp g S) (z_P g (some (.int v)) S') :=
  z_Ct.of (by decide +kernel) rfl (Nat.le_of_ble_eq_true rfl) (fun K cx ce => q_weak (L' := [some (.ref (z_ad g 32)), some (.int a0), some (.int a1), some (.int a2), some (.int a3)]) (z_wk_s (z_wk_s (z_wk_s (z_wk_s (z_wk_s (z_wk_0)))))) (t_X5_runs n G hG hb cx ce a0 a1 a2 a3 S h))
def g_X5_does (n : Nat) : Nat → GT_X5_does
  | 0 => (fun _ _ _ _ _ => none, fun _ _ _ _ _ => none)
  | dp + 1 => (f_X5_does n (g_X5_does n dp), f_X5_runs n (g_X5_does n dp))
set_option maxHeartbeats 4000000 in
set_option maxRecDepth 100000 in
theorem hg_X5_does {g : z_G} {n : Nat} : ∀ dp : Nat, HG_X5_does g (g_X5_does n dp) (0 + dp) := by
  intro dp
  induction dp with
  | zero => exact ⟨(fun _ _ _ _ _ _ _ h => nomatch h), (fun _ _ _ _ _ _ _ h => nomatch h)⟩
  | succ dp ih => exact ⟨(fun a0 a1 a2 a3 S v S' h => c_X5_does (n := n) ih (Nat.le_add_right _ _) a0 a1 a2 a3 S h), (fun a0 a1 a2 a3 S v S' h => c_X5_runs (n := n) ih (Nat.le_add_right _ _) a0 a1 a2 a3 S h)⟩
theorem cg_X5_does {g : z_G} {n : Nat} (a0 : Int32) (a1 : Int32) (a2 : Int32) (a3 : Int32) (S : z_Stt) {v : Int32} {S' : z_Stt} (h : (g_X5_does n 64).1 a0 a1 a2 a3 S = some (v, S')) : z_Ct g M_X5_does 64 [.ref (z_ad g 32), .int a0, .int a1, .int a2, .int a3] (hp g S) (z_P g (some (.int v)) S') := (hg_X5_does 64).1 a0 a1 a2 a3 S _ _ h
theorem cg_X5_runs {g : z_G} {n : Nat} (a0 : Int32) (a1 : Int32) (a2 : Int32) (a3 : Int32) (S : z_Stt) {v : Int32} {S' : z_Stt} (h : (g_X5_does n 64).2 a0 a1 a2 a3 S = some (v, S')) : z_Ct g M_X5_runs 64 [.ref (z_ad g 32), .int a0, .int a1, .int a2, .int a3] (hp g S) (z_P g (some (.int v)) S') := (hg_X5_does 64).2 a0 a1 a2 a3 S _ _ h
abbrev M_X5_begin : z_M := (RX5, yX5_begin, cX5_begin, 4, some .int)
theorem mo_X5_begin : z_mo M_X5_begin 3 := ⟨tb_1076, tb_49, rfl, ⟨by decide +kernel, by decide +kernel⟩, by decide +kernel, by decide⟩
theorem mv_X5_begin : z_mv M_X5_begin := ⟨tb_1074, tb_1075⟩
def f_X5_begin (n : Nat) (a0 : Int32) (a1 : Int32) (a2 : Int32) (S : z_Stt) : Option (Int32 × z_Stt) :=
  if a0 < 0 then
    some (0, S)
  else
    if a0 < S.1 3201 then
      g_let (sI S 3204 a0) fun S3 =>
      if ¬ (a0 < 0 ∨ 50 ≤ a0.toNatClampNeg) then
        g_let (sI S3 3205 (S3.2.2.1 33 a0.toNatClampNeg)) fun S6 =>
        g_bd ((g_X5_does n 64).1 (S6.1 3205) a1 a2 0 S6) fun v8 S9 =>
        some (v8, S9)
      else none
    else
      some (0, S)
set_option maxHeartbeats 4000000 in
set_option maxRecDepth 100000 in
theorem t_X5_begin {g : z_G} {K : z_K} (n : Nat) {v : Int32} {S' : z_Stt} (cx : z_C g M_X5_begin 65 K) (ce : z_E' g M_X5_begin (z_P g (some (.int v)) S') K) (a0 : Int32) (a1 : Int32) (a2 : Int32) (S : z_Stt) (h : f_X5_begin n a0 a1 a2 S = some (v, S')) : z_At g M_X5_begin K 0 [some (.ref (z_ad g 32)), some (.int a0), some (.int a1), some (.int a2)] [] (hp g S) := by
  unfold f_X5_begin at h
  refine z_iload_n cx rfl rfl dX5_begin_0 ?_
  refine z_if_lt (tgt := 12) cx (by decide) dX5_begin_1 (fun c1 => ?_) (fun c1 => ?_)
  · have h := g_t c1 h
    refine z_iconst (v := 0) cx (by decide +kernel) dX5_begin_12 ?_
    obtain ⟨rfl, rfl⟩ := g_some h
    exact z_ireturn cx ce rfl ⟨rfl, rfl⟩ dX5_begin_13
  · have h := g_f c1 h
    refine z_iload_n cx rfl rfl dX5_begin_4 ?_
    refine z_aload_n cx rfl rfl dX5_begin_5 ?_
    refine q_getI (k := 32) (n := 3201) cx z_cl5 (j := 1) (by decide) tb_124 rfl (by decide) rfl rfl rfl dX5_begin_6 ?_
    refine z_icmp_lt (tgt := 14) cx (by decide) dX5_begin_9 (fun c2 => ?_) (fun c2 => ?_)
    · have h := g_t c2 h
      refine z_aload_n cx rfl rfl dX5_begin_14 ?_
      refine z_iload_n cx rfl rfl dX5_begin_15 ?_
      refine q_putI (k := 32) (n := 3204) cx z_cl5 (j := 4) (by decide) tb_127 rfl rfl rfl (by decide) rfl rfl rfl (by decide) (by decide) dX5_begin_16 ?_
      obtain ⟨S3, e4, h⟩ := g_let_ex h
      rw [← e4]
      refine z_aload_n cx rfl rfl dX5_begin_19 ?_
      refine z_aload_n cx rfl rfl dX5_begin_20 ?_
      refine q_getF (k := 32) (n := 33) (r := 1) cx z_cl5 (j := 0) (by decide) tb_123 rfl (by decide) rfl rfl rfl dX5_begin_21 ?_
      refine z_iload_n cx rfl rfl dX5_begin_24 ?_
      obtain ⟨c5, h⟩ := g_if h
      refine q_iald cx (by decide) rfl c5 dX5_begin_25 ?_
      refine q_putI (k := 32) (n := 3205) cx z_cl5 (j := 5) (by decide) tb_128 rfl rfl rfl (by decide) rfl rfl rfl (by decide) (by decide) dX5_begin_26 ?_
      obtain ⟨S6, e7, h⟩ := g_let_ex h
      rw [← e7]
      refine z_aload_n cx rfl rfl dX5_begin_29 ?_
      refine z_aload_n cx rfl rfl dX5_begin_30 ?_
      refine q_getI (k := 32) (n := 3205) cx z_cl5 (j := 5) (by decide) tb_128 rfl (by decide) rfl rfl rfl dX5_begin_31 ?_
      refine z_iload_n cx rfl rfl dX5_begin_34 ?_
      refine z_iload_n cx rfl rfl dX5_begin_35 ?_
      refine z_iconst (v := 0) cx (by decide +kernel) dX5_begin_36 ?_
      obtain ⟨v8, S9, e10, h⟩ := g_bd_ex h
      refine q_cvi (As := [.int (S6.1 3205), .int a1, .int a2, .int 0]) cx mo_X5_does mv_X5_does z_cl5 rfl tb_1077 (by decide) rfl (by decide) rfl rfl (Nat.le_of_ble_eq_true rfl) dX5_begin_37 (cg_X5_does (S6.1 3205) a1 a2 0 _ e10) ?_
      obtain ⟨rfl, rfl⟩ := g_some h
      exact z_ireturn cx ce rfl ⟨rfl, rfl⟩ dX5_begin_40
    · have h := g_f c2 h
      refine z_iconst (v := 0) cx (by decide +kernel) dX5_begin_12 ?_
      obtain ⟨rfl, rfl⟩ := g_some h
      exact z_ireturn cx ce rfl ⟨rfl, rfl⟩ dX5_begin_13
theorem c_X5_begin {g : z_G} {n : Nat} (a0 : Int32) (a1 : Int32) (a2 : Int32) (S : z_Stt) {v : Int32} {S' : z_Stt} (h : f_X5_begin n a0 a1 a2 S = some (v, S')) : z_Ct g M_X5_begin 65 [.ref (z_ad g 32), .int a0, .int a1, .int a2] (hp g S) (z_P g (some (.int v)) S') :=
  z_Ct.of (by decide +kernel) rfl (Nat.le_of_ble_eq_true rfl) (fun K cx ce => q_weak (L' := [some (.ref (z_ad g 32)), some (.int a0), some (.int a1), some (.int a2)]) (z_wk_s (z_wk_s (z_wk_s (z_wk_s (z_wk_0))))) (t_X5_begin n cx ce a0 a1 a2 S h))
abbrev M_X7_begin : z_M := (RX7, yX7_begin, cX7_begin, 5, none)
theorem mo_X7_begin : z_mo M_X7_begin 3 := ⟨tb_739, tb_41, rfl, ⟨by decide +kernel, by decide +kernel⟩, by decide +kernel, by decide⟩
theorem mv_X7_begin : z_mv M_X7_begin := ⟨tb_737, tb_738⟩
def f_X7_begin_80 (n : Nat) (x2 : Int32) (S : z_Stt) : Option (Unit × z_Stt) :=
  if ¬ (S.1 2802 < 0 ∨ 7 ≤ (S.1 2802).toNatClampNeg) then
    g_let (sA S 29 (upd (S.2.2.1 29) (S.1 2802).toNatClampNeg x2)) fun S2 =>
    g_let (sI S2 2802 ((S2.1 2802) + 1)) fun S4 =>
    some ((), S4)
  else none
set_option maxHeartbeats 4000000 in
set_option maxRecDepth 100000 in
theorem t_X7_begin_80 {g : z_G} {K : z_K} (n : Nat) {v : Unit} {S' : z_Stt} (cx : z_C g M_X7_begin 0 K) (ce : z_E' g M_X7_begin (z_P g (none) S') K) (x2 : Int32) (S : z_Stt) (h : f_X7_begin_80 n x2 S = some (v, S')) : z_At g M_X7_begin K 80 [some (.ref (z_ad g 28)), none, some (.int x2), none, none] [] (hp g S) := by
  unfold f_X7_begin_80 at h
  refine z_aload_n cx rfl rfl dX7_begin_80 ?_
  refine q_getF (k := 28) (n := 29) (r := 1) cx z_cl7 (j := 0) (by decide) tb_110 rfl (by decide) rfl rfl rfl dX7_begin_81 ?_
  refine z_aload_n cx rfl rfl dX7_begin_84 ?_
  refine q_getI (k := 28) (n := 2802) cx z_cl7 (j := 2) (by decide) tb_112 rfl (by decide) rfl rfl rfl dX7_begin_85 ?_
  refine z_iload_n cx rfl rfl dX7_begin_88 ?_
  obtain ⟨c1, h⟩ := g_if h
  refine q_iast cx (by decide) rfl c1 dX7_begin_89 ?_
  obtain ⟨S2, e3, h⟩ := g_let_ex h
  rw [← e3]
  refine z_aload_n cx rfl rfl dX7_begin_90 ?_
  refine z_dup cx rfl dX7_begin_91 ?_
  refine q_getI (k := 28) (n := 2802) cx z_cl7 (j := 2) (by decide) tb_112 rfl (by decide) rfl rfl rfl dX7_begin_92 ?_
  refine z_iconst (v := 1) cx (by decide +kernel) dX7_begin_95 ?_
  refine z_iadd cx dX7_begin_96 ?_
  refine q_putI (k := 28) (n := 2802) cx z_cl7 (j := 2) (by decide) tb_112 rfl rfl rfl (by decide) rfl rfl rfl (by decide) (by decide) dX7_begin_97 ?_
  obtain ⟨S4, e5, h⟩ := g_let_ex h
  rw [← e5]
  obtain ⟨rfl, rfl⟩ := g_some h
  exact z_return cx ce rfl ⟨rfl, rfl⟩ dX7_begin_100
def f_X7_begin_74 (n : Nat) (k15 : Int32 → Int32 → Int32 → Int32 → z_Stt → Option (Unit × z_Stt)) (x1 : Int32) (x2 : Int32) (x3 : Int32) (x4 : Int32) (S : z_Stt) : Option (Unit × z_Stt) :=
  k15 x1 x2 x3 (x4 + 1) S
set_option maxHeartbeats 4000000 in
set_option maxRecDepth 100000 in
theorem t_X7_begin_74 {g : z_G} {K : z_K} (n : Nat) {v : Unit} {S' : z_Stt} (cx : z_C g M_X7_begin 0 K) (ce : z_E' g M_X7_begin (z_P g (none) S') K) (k15 : Int32 → Int32 → Int32 → Int32 → z_Stt → Option (Unit × z_Stt)) (hk15 : ∀ (x1 : Int32) (x2 : Int32) (x3 : Int32) (x4 : Int32) (S : z_Stt), k15 x1 x2 x3 x4 S = some (v, S') → z_At g M_X7_begin K 15 [some (.ref (z_ad g 28)), some (.int x1), some (.int x2), some (.int x3), some (.int x4)] [] (hp g S)) (x1 : Int32) (x2 : Int32) (x3 : Int32) (x4 : Int32) (S : z_Stt) (h : f_X7_begin_74 n k15 x1 x2 x3 x4 S = some (v, S')) : z_At g M_X7_begin K 74 [some (.ref (z_ad g 28)), some (.int x1), some (.int x2), some (.int x3), some (.int x4)] [] (hp g S) := by
  unfold f_X7_begin_74 at h
  refine z_iinc (c := 1) (L' := [some (.ref (z_ad g 28)), some (.int x1), some (.int x2), some (.int x3), some (.int (x4 + 1))]) cx rfl (by decide +kernel) (by decide) rfl dX7_begin_74 ?_
  refine z_goto (tgt := 15) cx (by decide) dX7_begin_77 ?_
  exact q_weak (z_wk_s (z_wk_s (z_wk_s (z_wk_s (z_wk_s (z_wk_0)))))) (hk15 x1 x2 x3 (x4 + 1) S h)
def f_X7_begin_15 (n : Nat) : Nat → Int32 → Int32 → Int32 → Int32 → z_Stt → Option (Unit × z_Stt)
  | 0, _, _, _, _, _ => none
  | m + 1, x1, x2, x3, x4, S =>
    if 6 ≤ x4 then
      f_X7_begin_80 n x2 S
    else
      if 6 ≤ S.1 2802 then
        f_X7_begin_80 n x2 S
      else
        if (x3 >>> (x4 &&& 31)) &&& 1 = 1 then
          if x4 = x1 then
            f_X7_begin_74 n (f_X7_begin_15 n m) x1 x2 x3 x4 S
          else
            if x4 = x2 then
              f_X7_begin_74 n (f_X7_begin_15 n m) x1 x2 x3 x4 S
            else
              if ¬ (S.1 2802 < 0 ∨ 7 ≤ (S.1 2802).toNatClampNeg) then
                g_let (sA S 29 (upd (S.2.2.1 29) (S.1 2802).toNatClampNeg x4)) fun S7 =>
                g_let (sI S7 2802 ((S7.1 2802) + 1)) fun S9 =>
                f_X7_begin_74 n (f_X7_begin_15 n m) x1 x2 x3 x4 S9
              else none
        else
          f_X7_begin_74 n (f_X7_begin_15 n m) x1 x2 x3 x4 S
set_option maxHeartbeats 4000000 in
set_option maxRecDepth 100000 in
theorem t_X7_begin_15 {g : z_G} {K : z_K} (n : Nat) {v : Unit} {S' : z_Stt} (cx : z_C g M_X7_begin 0 K) (ce : z_E' g M_X7_begin (z_P g (none) S') K) : ∀ (m : Nat) (x1 : Int32) (x2 : Int32) (x3 : Int32) (x4 : Int32) (S : z_Stt) (h : f_X7_begin_15 n m x1 x2 x3 x4 S = some (v, S')), z_At g M_X7_begin K 15 [some (.ref (z_ad g 28)), some (.int x1), some (.int x2), some (.int x3), some (.int x4)] [] (hp g S) := by
  intro m
  induction m with
  | zero => intro x1 x2 x3 x4 S h; simp [f_X7_begin_15] at h
  | succ m ih =>
    intro x1 x2 x3 x4 S h
    rw [f_X7_begin_15] at h
    refine z_iload cx rfl dX7_begin_15 ?_
    refine z_bipush (v := 6) cx (by decide +kernel) dX7_begin_17 ?_
    refine z_icmp_ge (tgt := 80) cx (by decide) dX7_begin_19 (fun c1 => ?_) (fun c1 => ?_)
    · have h := g_t c1 h
      exact q_weak (z_wk_s (z_wk_n (z_wk_s (z_wk_n (z_wk_n (z_wk_0)))))) (t_X7_begin_80 n cx ce x2 S h)
    · have h := g_f c1 h
      refine z_aload_n cx rfl rfl dX7_begin_22 ?_
      refine q_getI (k := 28) (n := 2802) cx z_cl7 (j := 2) (by decide) tb_112 rfl (by decide) rfl rfl rfl dX7_begin_23 ?_
      refine z_bipush (v := 6) cx (by decide +kernel) dX7_begin_26 ?_
      refine z_icmp_ge (tgt := 80) cx (by decide) dX7_begin_28 (fun c2 => ?_) (fun c2 => ?_)
      · have h := g_t c2 h
        exact q_weak (z_wk_s (z_wk_n (z_wk_s (z_wk_n (z_wk_n (z_wk_0)))))) (t_X7_begin_80 n cx ce x2 S h)
      · have h := g_f c2 h
        refine z_iload_n cx rfl rfl dX7_begin_31 ?_
        refine z_iload cx rfl dX7_begin_32 ?_
        refine z_ishr cx dX7_begin_34 ?_
        refine z_iconst (v := 1) cx (by decide +kernel) dX7_begin_35 ?_
        refine z_iand cx dX7_begin_36 ?_
        refine z_iconst (v := 1) cx (by decide +kernel) dX7_begin_37 ?_
        refine z_icmp_ne (tgt := 74) cx (by decide) dX7_begin_38 (fun c3 => ?_) (fun c3 => ?_)
        · have h := g_f c3 h
          exact q_weak (z_wk_s (z_wk_s (z_wk_s (z_wk_s (z_wk_s (z_wk_0)))))) (t_X7_begin_74 n cx ce (f_X7_begin_15 n m) ih x1 x2 x3 x4 S h)
        · have h := g_t c3 h
          refine z_iload cx rfl dX7_begin_41 ?_
          refine z_iload_n cx rfl rfl dX7_begin_43 ?_
          refine z_icmp_eq (tgt := 74) cx (by decide) dX7_begin_44 (fun c4 => ?_) (fun c4 => ?_)
          · have h := g_t c4 h
            exact q_weak (z_wk_s (z_wk_s (z_wk_s (z_wk_s (z_wk_s (z_wk_0)))))) (t_X7_begin_74 n cx ce (f_X7_begin_15 n m) ih x1 x2 x3 x4 S h)
          · have h := g_f c4 h
            refine z_iload cx rfl dX7_begin_47 ?_
            refine z_iload_n cx rfl rfl dX7_begin_49 ?_
            refine z_icmp_eq (tgt := 74) cx (by decide) dX7_begin_50 (fun c5 => ?_) (fun c5 => ?_)
            · have h := g_t c5 h
              exact q_weak (z_wk_s (z_wk_s (z_wk_s (z_wk_s (z_wk_s (z_wk_0)))))) (t_X7_begin_74 n cx ce (f_X7_begin_15 n m) ih x1 x2 x3 x4 S h)
            · have h := g_f c5 h
              refine z_aload_n cx rfl rfl dX7_begin_53 ?_
              refine q_getF (k := 28) (n := 29) (r := 1) cx z_cl7 (j := 0) (by decide) tb_110 rfl (by decide) rfl rfl rfl dX7_begin_54 ?_
              refine z_aload_n cx rfl rfl dX7_begin_57 ?_
              refine q_getI (k := 28) (n := 2802) cx z_cl7 (j := 2) (by decide) tb_112 rfl (by decide) rfl rfl rfl dX7_begin_58 ?_
              refine z_iload cx rfl dX7_begin_61 ?_
              obtain ⟨c6, h⟩ := g_if h
              refine q_iast cx (by decide) rfl c6 dX7_begin_63 ?_
              obtain ⟨S7, e8, h⟩ := g_let_ex h
              rw [← e8]
              refine z_aload_n cx rfl rfl dX7_begin_64 ?_
              refine z_dup cx rfl dX7_begin_65 ?_
              refine q_getI (k := 28) (n := 2802) cx z_cl7 (j := 2) (by decide) tb_112 rfl (by decide) rfl rfl rfl dX7_begin_66 ?_
              refine z_iconst (v := 1) cx (by decide +kernel) dX7_begin_69 ?_
              refine z_iadd cx dX7_begin_70 ?_
              refine q_putI (k := 28) (n := 2802) cx z_cl7 (j := 2) (by decide) tb_112 rfl rfl rfl (by decide) rfl rfl rfl (by decide) (by decide) dX7_begin_71 ?_
              obtain ⟨S9, e10, h⟩ := g_let_ex h
              rw [← e10]
              exact q_weak (z_wk_s (z_wk_s (z_wk_s (z_wk_s (z_wk_s (z_wk_0)))))) (t_X7_begin_74 n cx ce (f_X7_begin_15 n m) ih x1 x2 x3 x4 S9 h)
def f_X7_begin (n : Nat) (a0 : Int32) (a1 : Int32) (a2 : Int32) (S : z_Stt) : Option (Unit × z_Stt) :=
  if ¬ ((0 : Int32) < 0 ∨ 7 ≤ (0 : Int32).toNatClampNeg) then
    g_let (sA S 29 (upd (S.2.2.1 29) (0 : Int32).toNatClampNeg a0)) fun S2 =>
    g_let (sI S2 2802 1) fun S4 =>
    f_X7_begin_15 n n a0 a1 a2 0 S4
  else none
set_option maxHeartbeats 4000000 in
set_option maxRecDepth 100000 in
theorem t_X7_begin {g : z_G} {K : z_K} (n : Nat) {v : Unit} {S' : z_Stt} (cx : z_C g M_X7_begin 0 K) (ce : z_E' g M_X7_begin (z_P g (none) S') K) (a0 : Int32) (a1 : Int32) (a2 : Int32) (S : z_Stt) (h : f_X7_begin n a0 a1 a2 S = some (v, S')) : z_At g M_X7_begin K 0 [some (.ref (z_ad g 28)), some (.int a0), some (.int a1), some (.int a2), none] [] (hp g S) := by
  unfold f_X7_begin at h
  refine z_aload_n cx rfl rfl dX7_begin_0 ?_
  refine q_getF (k := 28) (n := 29) (r := 1) cx z_cl7 (j := 0) (by decide) tb_110 rfl (by decide) rfl rfl rfl dX7_begin_1 ?_
  refine z_iconst (v := 0) cx (by decide +kernel) dX7_begin_4 ?_
  refine z_iload_n cx rfl rfl dX7_begin_5 ?_
  obtain ⟨c1, h⟩ := g_if h
  refine q_iast cx (by decide) rfl c1 dX7_begin_6 ?_
  obtain ⟨S2, e3, h⟩ := g_let_ex h
  rw [← e3]
  refine z_aload_n cx rfl rfl dX7_begin_7 ?_
  refine z_iconst (v := 1) cx (by decide +kernel) dX7_begin_8 ?_
  refine q_putI (k := 28) (n := 2802) cx z_cl7 (j := 2) (by decide) tb_112 rfl rfl rfl (by decide) rfl rfl rfl (by decide) (by decide) dX7_begin_9 ?_
  obtain ⟨S4, e5, h⟩ := g_let_ex h
  rw [← e5]
  refine z_iconst (v := 0) cx (by decide +kernel) dX7_begin_12 ?_
  refine z_istore (L' := [some (.ref (z_ad g 28)), some (.int a0), some (.int a1), some (.int a2), some (.int 0)]) cx (by decide) rfl dX7_begin_13 ?_
  exact q_weak (z_wk_s (z_wk_s (z_wk_s (z_wk_s (z_wk_s (z_wk_0)))))) (t_X7_begin_15 n cx ce n a0 a1 a2 0 S4 h)
theorem c_X7_begin {g : z_G} {n : Nat} (a0 : Int32) (a1 : Int32) (a2 : Int32) (S : z_Stt) {v : Unit} {S' : z_Stt} (h : f_X7_begin n a0 a1 a2 S = some (v, S')) : z_Ct g M_X7_begin 0 [.ref (z_ad g 28), .int a0, .int a1, .int a2] (hp g S) (z_P g (none) S') :=
  z_Ct.of (by decide +kernel) rfl (Nat.le_of_ble_eq_true rfl) (fun K cx ce => q_weak (L' := [some (.ref (z_ad g 28)), some (.int a0), some (.int a1), some (.int a2), none]) (z_wk_s (z_wk_s (z_wk_s (z_wk_s (z_wk_e (z_wk_0)))))) (t_X7_begin n cx ce a0 a1 a2 S h))
abbrev M_X7_yardsOf : z_M := (RX7, yX7_yardsOf, cX7_yardsOf, 4, some .int)
theorem mo_X7_yardsOf : z_mo M_X7_yardsOf 1 := ⟨tb_743, tb_41, rfl, ⟨by decide +kernel, by decide +kernel⟩, by decide +kernel, by decide⟩
theorem mv_X7_yardsOf : z_mv M_X7_yardsOf := ⟨tb_741, tb_742⟩
def f_X7_yardsOf_4 (n : Nat) : Nat → Int32 → Int32 → z_Stt → Option (Int32 × z_Stt)
  | 0, _, _, _ => none
  | m + 1, x2, x3, S =>
    if S.1 2802 ≤ x3 then
      some (x2, S)
    else
      if 7 ≤ x3 then
        some (x2, S)
      else
        if ¬ (x3 - 1 < 0 ∨ 7 ≤ (x3 - 1).toNatClampNeg) then
          if ¬ (x3 < 0 ∨ 7 ≤ x3.toNatClampNeg) then
            g_bd (f_X9_yards (S.2.2.1 29 (x3 - 1).toNatClampNeg) (S.2.2.1 29 x3.toNatClampNeg) S) fun v5 S6 =>
            f_X7_yardsOf_4 n m (x2 + v5) (x3 + 1) S6
          else none
        else none
set_option maxHeartbeats 4000000 in
set_option maxRecDepth 100000 in
theorem t_X7_yardsOf_4 {g : z_G} {K : z_K} (n : Nat) {v : Int32} {S' : z_Stt} (cx : z_C g M_X7_yardsOf 3 K) (ce : z_E' g M_X7_yardsOf (z_P g (some (.int v)) S') K) : ∀ (m : Nat) (x2 : Int32) (x3 : Int32) (S : z_Stt) (h : f_X7_yardsOf_4 n m x2 x3 S = some (v, S')), z_At g M_X7_yardsOf K 4 [some (.ref (z_ad g 28)), some (.ref (z_ad g 1)), some (.int x2), some (.int x3)] [] (hp g S) := by
  intro m
  induction m with
  | zero => intro x2 x3 S h; simp [f_X7_yardsOf_4] at h
  | succ m ih =>
    intro x2 x3 S h
    rw [f_X7_yardsOf_4] at h
    refine z_iload_n cx rfl rfl dX7_yardsOf_4 ?_
    refine z_aload_n cx rfl rfl dX7_yardsOf_5 ?_
    refine q_getI (k := 28) (n := 2802) cx z_cl7 (j := 2) (by decide) tb_112 rfl (by decide) rfl rfl rfl dX7_yardsOf_6 ?_
    refine z_icmp_ge (tgt := 45) cx (by decide) dX7_yardsOf_9 (fun c1 => ?_) (fun c1 => ?_)
    · have h := g_t c1 h
      refine z_iload_n cx rfl rfl dX7_yardsOf_45 ?_
      obtain ⟨rfl, rfl⟩ := g_some h
      exact z_ireturn cx ce rfl ⟨rfl, rfl⟩ dX7_yardsOf_46
    · have h := g_f c1 h
      refine z_iload_n cx rfl rfl dX7_yardsOf_12 ?_
      refine z_bipush (v := 7) cx (by decide +kernel) dX7_yardsOf_13 ?_
      refine z_icmp_ge (tgt := 45) cx (by decide) dX7_yardsOf_15 (fun c2 => ?_) (fun c2 => ?_)
      · have h := g_t c2 h
        refine z_iload_n cx rfl rfl dX7_yardsOf_45 ?_
        obtain ⟨rfl, rfl⟩ := g_some h
        exact z_ireturn cx ce rfl ⟨rfl, rfl⟩ dX7_yardsOf_46
      · have h := g_f c2 h
        refine z_iload_n cx rfl rfl dX7_yardsOf_18 ?_
        refine z_aload_n cx rfl rfl dX7_yardsOf_19 ?_
        refine z_aload_n cx rfl rfl dX7_yardsOf_20 ?_
        refine q_getF (k := 28) (n := 29) (r := 1) cx z_cl7 (j := 0) (by decide) tb_110 rfl (by decide) rfl rfl rfl dX7_yardsOf_21 ?_
        refine z_iload_n cx rfl rfl dX7_yardsOf_24 ?_
        refine z_iconst (v := 1) cx (by decide +kernel) dX7_yardsOf_25 ?_
        refine z_isub cx dX7_yardsOf_26 ?_
        obtain ⟨c3, h⟩ := g_if h
        refine q_iald cx (by decide) rfl c3 dX7_yardsOf_27 ?_
        refine z_aload_n cx rfl rfl dX7_yardsOf_28 ?_
        refine q_getF (k := 28) (n := 29) (r := 1) cx z_cl7 (j := 0) (by decide) tb_110 rfl (by decide) rfl rfl rfl dX7_yardsOf_29 ?_
        refine z_iload_n cx rfl rfl dX7_yardsOf_32 ?_
        obtain ⟨c4, h⟩ := g_if h
        refine q_iald cx (by decide) rfl c4 dX7_yardsOf_33 ?_
        obtain ⟨v5, S6, e7, h⟩ := g_bd_ex h
        refine q_cvi (As := [.int (S.2.2.1 29 (x3 - 1).toNatClampNeg), .int (S.2.2.1 29 x3.toNatClampNeg)]) cx mo_X9_yards mv_X9_yards z_cl9 rfl tb_744 (by decide) rfl (by decide) rfl rfl (Nat.le_of_ble_eq_true rfl) dX7_yardsOf_34 (c_X9_yards (S.2.2.1 29 (x3 - 1).toNatClampNeg) (S.2.2.1 29 x3.toNatClampNeg) _ e7) ?_
        refine z_iadd cx dX7_yardsOf_37 ?_
        refine z_istore_n (L' := [some (.ref (z_ad g 28)), some (.ref (z_ad g 1)), some (.int (x2 + v5)), some (.int x3)]) cx rfl (by decide) rfl dX7_yardsOf_38 ?_
        refine z_iinc (c := 1) (L' := [some (.ref (z_ad g 28)), some (.ref (z_ad g 1)), some (.int (x2 + v5)), some (.int (x3 + 1))]) cx rfl (by decide +kernel) (by decide) rfl dX7_yardsOf_39 ?_
        refine z_goto (tgt := 4) cx (by decide) dX7_yardsOf_42 ?_
        exact q_weak (z_wk_s (z_wk_s (z_wk_s (z_wk_s (z_wk_0))))) (ih (x2 + v5) (x3 + 1) S6 h)
def f_X7_yardsOf (n : Nat) (S : z_Stt) : Option (Int32 × z_Stt) :=
  f_X7_yardsOf_4 n n 0 1 S
set_option maxHeartbeats 4000000 in
set_option maxRecDepth 100000 in
theorem t_X7_yardsOf {g : z_G} {K : z_K} (n : Nat) {v : Int32} {S' : z_Stt} (cx : z_C g M_X7_yardsOf 3 K) (ce : z_E' g M_X7_yardsOf (z_P g (some (.int v)) S') K) (S : z_Stt) (h : f_X7_yardsOf n S = some (v, S')) : z_At g M_X7_yardsOf K 0 [some (.ref (z_ad g 28)), some (.ref (z_ad g 1)), none, none] [] (hp g S) := by
  unfold f_X7_yardsOf at h
  refine z_iconst (v := 0) cx (by decide +kernel) dX7_yardsOf_0 ?_
  refine z_istore_n (L' := [some (.ref (z_ad g 28)), some (.ref (z_ad g 1)), some (.int 0), none]) cx rfl (by decide) rfl dX7_yardsOf_1 ?_
  refine z_iconst (v := 1) cx (by decide +kernel) dX7_yardsOf_2 ?_
  refine z_istore_n (L' := [some (.ref (z_ad g 28)), some (.ref (z_ad g 1)), some (.int 0), some (.int 1)]) cx rfl (by decide) rfl dX7_yardsOf_3 ?_
  exact q_weak (z_wk_s (z_wk_s (z_wk_s (z_wk_s (z_wk_0))))) (t_X7_yardsOf_4 n cx ce n 0 1 S h)
theorem c_X7_yardsOf {g : z_G} {n : Nat} (S : z_Stt) {v : Int32} {S' : z_Stt} (h : f_X7_yardsOf n S = some (v, S')) : z_Ct g M_X7_yardsOf 3 [.ref (z_ad g 28), .ref (z_ad g 1)] (hp g S) (z_P g (some (.int v)) S') :=
  z_Ct.of (by decide +kernel) rfl (Nat.le_of_ble_eq_true rfl) (fun K cx ce => q_weak (L' := [some (.ref (z_ad g 28)), some (.ref (z_ad g 1)), none, none]) (z_wk_s (z_wk_s (z_wk_e (z_wk_e (z_wk_0))))) (t_X7_yardsOf n cx ce S h))
abbrev M_X7_keepOrder : z_M := (RX7, yX7_keepOrder, cX7_keepOrder, 2, none)
theorem mo_X7_keepOrder : z_mo M_X7_keepOrder 0 := ⟨tb_751, tb_41, rfl, ⟨by decide +kernel, by decide +kernel⟩, by decide +kernel, by decide⟩
theorem mv_X7_keepOrder : z_mv M_X7_keepOrder := ⟨tb_749, tb_750⟩
def f_X7_keepOrder_2 (n : Nat) : Nat → Int32 → z_Stt → Option (Unit × z_Stt)
  | 0, _, _ => none
  | m + 1, x1, S =>
    if 7 ≤ x1 then
      some ((), S)
    else
      if ¬ (x1 < 0 ∨ 7 ≤ x1.toNatClampNeg) then
        if ¬ (x1 < 0 ∨ 7 ≤ x1.toNatClampNeg) then
          g_let (sA S 30 (upd (S.2.2.1 30) x1.toNatClampNeg (S.2.2.1 29 x1.toNatClampNeg))) fun S4 =>
          f_X7_keepOrder_2 n m (x1 + 1) S4
        else none
      else none
set_option maxHeartbeats 4000000 in
set_option maxRecDepth 100000 in
theorem t_X7_keepOrder_2 {g : z_G} {K : z_K} (n : Nat) {v : Unit} {S' : z_Stt} (cx : z_C g M_X7_keepOrder 0 K) (ce : z_E' g M_X7_keepOrder (z_P g (none) S') K) : ∀ (m : Nat) (x1 : Int32) (S : z_Stt) (h : f_X7_keepOrder_2 n m x1 S = some (v, S')), z_At g M_X7_keepOrder K 2 [some (.ref (z_ad g 28)), some (.int x1)] [] (hp g S) := by
  intro m
  induction m with
  | zero => intro x1 S h; simp [f_X7_keepOrder_2] at h
  | succ m ih =>
    intro x1 S h
    rw [f_X7_keepOrder_2] at h
    refine z_iload_n cx rfl rfl dX7_keepOrder_2 ?_
    refine z_bipush (v := 7) cx (by decide +kernel) dX7_keepOrder_3 ?_
    refine z_icmp_ge (tgt := 26) cx (by decide) dX7_keepOrder_5 (fun c1 => ?_) (fun c1 => ?_)
    · have h := g_t c1 h
      obtain ⟨rfl, rfl⟩ := g_some h
      exact z_return cx ce rfl ⟨rfl, rfl⟩ dX7_keepOrder_26
    · have h := g_f c1 h
      refine z_aload_n cx rfl rfl dX7_keepOrder_8 ?_
      refine q_getF (k := 28) (n := 30) (r := 2) cx z_cl7 (j := 1) (by decide) tb_111 rfl (by decide) rfl rfl rfl dX7_keepOrder_9 ?_
      refine z_iload_n cx rfl rfl dX7_keepOrder_12 ?_
      refine z_aload_n cx rfl rfl dX7_keepOrder_13 ?_
      refine q_getF (k := 28) (n := 29) (r := 1) cx z_cl7 (j := 0) (by decide) tb_110 rfl (by decide) rfl rfl rfl dX7_keepOrder_14 ?_
      refine z_iload_n cx rfl rfl dX7_keepOrder_17 ?_
      obtain ⟨c2, h⟩ := g_if h
      refine q_iald cx (by decide) rfl c2 dX7_keepOrder_18 ?_
      obtain ⟨c3, h⟩ := g_if h
      refine q_iast cx (by decide) rfl c3 dX7_keepOrder_19 ?_
      obtain ⟨S4, e5, h⟩ := g_let_ex h
      rw [← e5]
      refine z_iinc (c := 1) (L' := [some (.ref (z_ad g 28)), some (.int (x1 + 1))]) cx rfl (by decide +kernel) (by decide) rfl dX7_keepOrder_20 ?_
      refine z_goto (tgt := 2) cx (by decide) dX7_keepOrder_23 ?_
      exact q_weak (z_wk_s (z_wk_s (z_wk_0))) (ih (x1 + 1) S4 h)
def f_X7_keepOrder (n : Nat) (S : z_Stt) : Option (Unit × z_Stt) :=
  f_X7_keepOrder_2 n n 0 S
set_option maxHeartbeats 4000000 in
set_option maxRecDepth 100000 in
theorem t_X7_keepOrder {g : z_G} {K : z_K} (n : Nat) {v : Unit} {S' : z_Stt} (cx : z_C g M_X7_keepOrder 0 K) (ce : z_E' g M_X7_keepOrder (z_P g (none) S') K) (S : z_Stt) (h : f_X7_keepOrder n S = some (v, S')) : z_At g M_X7_keepOrder K 0 [some (.ref (z_ad g 28)), none] [] (hp g S) := by
  unfold f_X7_keepOrder at h
  refine z_iconst (v := 0) cx (by decide +kernel) dX7_keepOrder_0 ?_
  refine z_istore_n (L' := [some (.ref (z_ad g 28)), some (.int 0)]) cx rfl (by decide) rfl dX7_keepOrder_1 ?_
  exact q_weak (z_wk_s (z_wk_s (z_wk_0))) (t_X7_keepOrder_2 n cx ce n 0 S h)
theorem c_X7_keepOrder {g : z_G} {n : Nat} (S : z_Stt) {v : Unit} {S' : z_Stt} (h : f_X7_keepOrder n S = some (v, S')) : z_Ct g M_X7_keepOrder 0 [.ref (z_ad g 28)] (hp g S) (z_P g (none) S') :=
  z_Ct.of (by decide +kernel) rfl (Nat.le_of_ble_eq_true rfl) (fun K cx ce => q_weak (L' := [some (.ref (z_ad g 28)), none]) (z_wk_s (z_wk_e (z_wk_0))) (t_X7_keepOrder n cx ce S h))
abbrev M_X7_swap : z_M := (RX7, yX7_swap, cX7_swap, 4, none)
theorem mo_X7_swap : z_mo M_X7_swap 2 := ⟨tb_759, tb_41, rfl, ⟨by decide +kernel, by decide +kernel⟩, by decide +kernel, by decide⟩
theorem mv_X7_swap : z_mv M_X7_swap := ⟨tb_757, tb_758⟩
def f_X7_swap (a0 : Int32) (a1 : Int32) (S : z_Stt) : Option (Unit × z_Stt) :=
  if ¬ (a0 < 0 ∨ 7 ≤ a0.toNatClampNeg) then
    if ¬ (a1 < 0 ∨ 7 ≤ a1.toNatClampNeg) then
      if ¬ (a0 < 0 ∨ 7 ≤ a0.toNatClampNeg) then
        g_let (sA S 29 (upd (S.2.2.1 29) a0.toNatClampNeg (S.2.2.1 29 a1.toNatClampNeg))) fun S4 =>
        if ¬ (a1 < 0 ∨ 7 ≤ a1.toNatClampNeg) then
          g_let (sA S4 29 (upd (S4.2.2.1 29) a1.toNatClampNeg (S.2.2.1 29 a0.toNatClampNeg))) fun S7 =>
          some ((), S7)
        else none
      else none
    else none
  else none
set_option maxHeartbeats 4000000 in
set_option maxRecDepth 100000 in
theorem t_X7_swap {g : z_G} {K : z_K} {v : Unit} {S' : z_Stt} (cx : z_C g M_X7_swap 0 K) (ce : z_E' g M_X7_swap (z_P g (none) S') K) (a0 : Int32) (a1 : Int32) (S : z_Stt) (h : f_X7_swap a0 a1 S = some (v, S')) : z_At g M_X7_swap K 0 [some (.ref (z_ad g 28)), some (.int a0), some (.int a1), none] [] (hp g S) := by
  unfold f_X7_swap at h
  refine z_aload_n cx rfl rfl dX7_swap_0 ?_
  refine q_getF (k := 28) (n := 29) (r := 1) cx z_cl7 (j := 0) (by decide) tb_110 rfl (by decide) rfl rfl rfl dX7_swap_1 ?_
  refine z_iload_n cx rfl rfl dX7_swap_4 ?_
  obtain ⟨c1, h⟩ := g_if h
  refine q_iald cx (by decide) rfl c1 dX7_swap_5 ?_
  refine z_istore_n (L' := [some (.ref (z_ad g 28)), some (.int a0), some (.int a1), some (.int (S.2.2.1 29 a0.toNatClampNeg))]) cx rfl (by decide) rfl dX7_swap_6 ?_
  refine z_aload_n cx rfl rfl dX7_swap_7 ?_
  refine q_getF (k := 28) (n := 29) (r := 1) cx z_cl7 (j := 0) (by decide) tb_110 rfl (by decide) rfl rfl rfl dX7_swap_8 ?_
  refine z_iload_n cx rfl rfl dX7_swap_11 ?_
  refine z_aload_n cx rfl rfl dX7_swap_12 ?_
  refine q_getF (k := 28) (n := 29) (r := 1) cx z_cl7 (j := 0) (by decide) tb_110 rfl (by decide) rfl rfl rfl dX7_swap_13 ?_
  refine z_iload_n cx rfl rfl dX7_swap_16 ?_
  obtain ⟨c2, h⟩ := g_if h
  refine q_iald cx (by decide) rfl c2 dX7_swap_17 ?_
  obtain ⟨c3, h⟩ := g_if h
  refine q_iast cx (by decide) rfl c3 dX7_swap_18 ?_
  obtain ⟨S4, e5, h⟩ := g_let_ex h
  rw [← e5]
  refine z_aload_n cx rfl rfl dX7_swap_19 ?_
  refine q_getF (k := 28) (n := 29) (r := 1) cx z_cl7 (j := 0) (by decide) tb_110 rfl (by decide) rfl rfl rfl dX7_swap_20 ?_
  refine z_iload_n cx rfl rfl dX7_swap_23 ?_
  refine z_iload_n cx rfl rfl dX7_swap_24 ?_
  obtain ⟨c6, h⟩ := g_if h
  refine q_iast cx (by decide) rfl c6 dX7_swap_25 ?_
  obtain ⟨S7, e8, h⟩ := g_let_ex h
  rw [← e8]
  obtain ⟨rfl, rfl⟩ := g_some h
  exact z_return cx ce rfl ⟨rfl, rfl⟩ dX7_swap_26
theorem c_X7_swap {g : z_G} (a0 : Int32) (a1 : Int32) (S : z_Stt) {v : Unit} {S' : z_Stt} (h : f_X7_swap a0 a1 S = some (v, S')) : z_Ct g M_X7_swap 0 [.ref (z_ad g 28), .int a0, .int a1] (hp g S) (z_P g (none) S') :=
  z_Ct.of (by decide +kernel) rfl (Nat.le_of_ble_eq_true rfl) (fun K cx ce => q_weak (L' := [some (.ref (z_ad g 28)), some (.int a0), some (.int a1), none]) (z_wk_s (z_wk_s (z_wk_s (z_wk_e (z_wk_0))))) (t_X7_swap cx ce a0 a1 S h))
abbrev M_X7_nextOrder : z_M := (RX7, yX7_nextOrder, cX7_nextOrder, 5, some .boolean)
theorem mo_X7_nextOrder : z_mo M_X7_nextOrder 0 := ⟨tb_755, tb_41, rfl, ⟨by decide +kernel, by decide +kernel⟩, by decide +kernel, by decide⟩
theorem mv_X7_nextOrder : z_mv M_X7_nextOrder := ⟨tb_753, tb_754⟩
def f_X7_nextOrder_85 (n : Nat) : Nat → Int32 → Int32 → Int32 → z_Stt → Option (Bool × z_Stt)
  | 0, _, _, _, _ => none
  | m + 1, x1, x2, x4, S =>
    if x1 - x4 ≤ x2 + x4 then
      some (true, S)
    else
      g_bd (f_X7_swap (x2 + x4) (x1 - x4) S) fun v2 S3 =>
      f_X7_nextOrder_85 n m x1 x2 (x4 + 1) S3
set_option maxHeartbeats 4000000 in
set_option maxRecDepth 100000 in
theorem t_X7_nextOrder_85 {g : z_G} {K : z_K} (n : Nat) {v : Bool} {S' : z_Stt} (cx : z_C g M_X7_nextOrder 1 K) (ce : z_E' g M_X7_nextOrder (z_P g (some (.int (bI v))) S') K) : ∀ (m : Nat) (x1 : Int32) (x2 : Int32) (x4 : Int32) (S : z_Stt) (h : f_X7_nextOrder_85 n m x1 x2 x4 S = some (v, S')), z_At g M_X7_nextOrder K 85 [some (.ref (z_ad g 28)), some (.int x1), some (.int x2), none, some (.int x4)] [] (hp g S) := by
  intro m
  induction m with
  | zero => intro x1 x2 x4 S h; simp [f_X7_nextOrder_85] at h
  | succ m ih =>
    intro x1 x2 x4 S h
    rw [f_X7_nextOrder_85] at h
    refine z_iload_n cx rfl rfl dX7_nextOrder_85 ?_
    refine z_iload cx rfl dX7_nextOrder_86 ?_
    refine z_iadd cx dX7_nextOrder_88 ?_
    refine z_iload_n cx rfl rfl dX7_nextOrder_89 ?_
    refine z_iload cx rfl dX7_nextOrder_90 ?_
    refine z_isub cx dX7_nextOrder_92 ?_
    refine z_icmp_ge (tgt := 114) cx (by decide) dX7_nextOrder_93 (fun c1 => ?_) (fun c1 => ?_)
    · have h := g_t c1 h
      refine z_iconst (v := 1) cx (by decide +kernel) dX7_nextOrder_114 ?_
      obtain ⟨rfl, rfl⟩ := g_some h
      exact z_zreturn cx ce rfl (by decide +kernel) ⟨rfl, rfl⟩ dX7_nextOrder_115
    · have h := g_f c1 h
      refine z_aload_n cx rfl rfl dX7_nextOrder_96 ?_
      refine z_iload_n cx rfl rfl dX7_nextOrder_97 ?_
      refine z_iload cx rfl dX7_nextOrder_98 ?_
      refine z_iadd cx dX7_nextOrder_100 ?_
      refine z_iload_n cx rfl rfl dX7_nextOrder_101 ?_
      refine z_iload cx rfl dX7_nextOrder_102 ?_
      refine z_isub cx dX7_nextOrder_104 ?_
      obtain ⟨v2, S3, e4, h⟩ := g_bd_ex h
      refine q_cvv (As := [.int (x2 + x4), .int (x1 - x4)]) cx mo_X7_swap mv_X7_swap z_cl7 rfl tb_756 (by decide) rfl (by decide) rfl rfl (Nat.le_of_ble_eq_true rfl) dX7_nextOrder_105 (c_X7_swap (x2 + x4) (x1 - x4) _ e4) ?_
      refine z_iinc (c := 1) (L' := [some (.ref (z_ad g 28)), some (.int x1), some (.int x2), none, some (.int (x4 + 1))]) cx rfl (by decide +kernel) (by decide) rfl dX7_nextOrder_108 ?_
      refine z_goto (tgt := 85) cx (by decide) dX7_nextOrder_111 ?_
      exact q_weak (z_wk_s (z_wk_s (z_wk_s (z_wk_n (z_wk_s (z_wk_0)))))) (ih x1 x2 (x4 + 1) S3 h)
def f_X7_nextOrder_74 (n : Nat) (x1 : Int32) (x2 : Int32) (x3 : Int32) (S : z_Stt) : Option (Bool × z_Stt) :=
  g_bd (f_X7_swap (x2 - 1) x3 S) fun v1 S2 =>
  f_X7_nextOrder_85 n n x1 x2 0 S2
set_option maxHeartbeats 4000000 in
set_option maxRecDepth 100000 in
theorem t_X7_nextOrder_74 {g : z_G} {K : z_K} (n : Nat) {v : Bool} {S' : z_Stt} (cx : z_C g M_X7_nextOrder 1 K) (ce : z_E' g M_X7_nextOrder (z_P g (some (.int (bI v))) S') K) (x1 : Int32) (x2 : Int32) (x3 : Int32) (S : z_Stt) (h : f_X7_nextOrder_74 n x1 x2 x3 S = some (v, S')) : z_At g M_X7_nextOrder K 74 [some (.ref (z_ad g 28)), some (.int x1), some (.int x2), some (.int x3), none] [] (hp g S) := by
  unfold f_X7_nextOrder_74 at h
  refine z_aload_n cx rfl rfl dX7_nextOrder_74 ?_
  refine z_iload_n cx rfl rfl dX7_nextOrder_75 ?_
  refine z_iconst (v := 1) cx (by decide +kernel) dX7_nextOrder_76 ?_
  refine z_isub cx dX7_nextOrder_77 ?_
  refine z_iload_n cx rfl rfl dX7_nextOrder_78 ?_
  obtain ⟨v1, S2, e3, h⟩ := g_bd_ex h
  refine q_cvv (As := [.int (x2 - 1), .int x3]) cx mo_X7_swap mv_X7_swap z_cl7 rfl tb_756 (by decide) rfl (by decide) rfl rfl (Nat.le_of_ble_eq_true rfl) dX7_nextOrder_79 (c_X7_swap (x2 - 1) x3 _ e3) ?_
  refine z_iconst (v := 0) cx (by decide +kernel) dX7_nextOrder_82 ?_
  refine z_istore (L' := [some (.ref (z_ad g 28)), some (.int x1), some (.int x2), some (.int x3), some (.int 0)]) cx (by decide) rfl dX7_nextOrder_83 ?_
  exact q_weak (z_wk_s (z_wk_s (z_wk_s (z_wk_n (z_wk_s (z_wk_0)))))) (t_X7_nextOrder_85 n cx ce n x1 x2 0 S2 h)
def f_X7_nextOrder_46 (n : Nat) : Nat → Int32 → Int32 → Int32 → z_Stt → Option (Bool × z_Stt)
  | 0, _, _, _, _ => none
  | m + 1, x1, x2, x3, S =>
    if x3 ≤ x2 then
      f_X7_nextOrder_74 n x1 x2 x3 S
    else
      if ¬ (x3 < 0 ∨ 7 ≤ x3.toNatClampNeg) then
        if ¬ (x2 - 1 < 0 ∨ 7 ≤ (x2 - 1).toNatClampNeg) then
          if S.2.2.1 29 (x2 - 1).toNatClampNeg ≤ S.2.2.1 29 x3.toNatClampNeg then
            f_X7_nextOrder_74 n x1 x2 x3 S
          else
            f_X7_nextOrder_46 n m x1 x2 (x3 + (-1)) S
        else none
      else none
set_option maxHeartbeats 4000000 in
set_option maxRecDepth 100000 in
theorem t_X7_nextOrder_46 {g : z_G} {K : z_K} (n : Nat) {v : Bool} {S' : z_Stt} (cx : z_C g M_X7_nextOrder 1 K) (ce : z_E' g M_X7_nextOrder (z_P g (some (.int (bI v))) S') K) : ∀ (m : Nat) (x1 : Int32) (x2 : Int32) (x3 : Int32) (S : z_Stt) (h : f_X7_nextOrder_46 n m x1 x2 x3 S = some (v, S')), z_At g M_X7_nextOrder K 46 [some (.ref (z_ad g 28)), some (.int x1), some (.int x2), some (.int x3), none] [] (hp g S) := by
  intro m
  induction m with
  | zero => intro x1 x2 x3 S h; simp [f_X7_nextOrder_46] at h
  | succ m ih =>
    intro x1 x2 x3 S h
    rw [f_X7_nextOrder_46] at h
    refine z_iload_n cx rfl rfl dX7_nextOrder_46 ?_
    refine z_iload_n cx rfl rfl dX7_nextOrder_47 ?_
    refine z_icmp_le (tgt := 74) cx (by decide) dX7_nextOrder_48 (fun c1 => ?_) (fun c1 => ?_)
    · have h := g_t c1 h
      exact q_weak (z_wk_s (z_wk_s (z_wk_s (z_wk_s (z_wk_n (z_wk_0)))))) (t_X7_nextOrder_74 n cx ce x1 x2 x3 S h)
    · have h := g_f c1 h
      refine z_aload_n cx rfl rfl dX7_nextOrder_51 ?_
      refine q_getF (k := 28) (n := 29) (r := 1) cx z_cl7 (j := 0) (by decide) tb_110 rfl (by decide) rfl rfl rfl dX7_nextOrder_52 ?_
      refine z_iload_n cx rfl rfl dX7_nextOrder_55 ?_
      obtain ⟨c2, h⟩ := g_if h
      refine q_iald cx (by decide) rfl c2 dX7_nextOrder_56 ?_
      refine z_aload_n cx rfl rfl dX7_nextOrder_57 ?_
      refine q_getF (k := 28) (n := 29) (r := 1) cx z_cl7 (j := 0) (by decide) tb_110 rfl (by decide) rfl rfl rfl dX7_nextOrder_58 ?_
      refine z_iload_n cx rfl rfl dX7_nextOrder_61 ?_
      refine z_iconst (v := 1) cx (by decide +kernel) dX7_nextOrder_62 ?_
      refine z_isub cx dX7_nextOrder_63 ?_
      obtain ⟨c3, h⟩ := g_if h
      refine q_iald cx (by decide) rfl c3 dX7_nextOrder_64 ?_
      refine z_icmp_ge (tgt := 74) cx (by decide) dX7_nextOrder_65 (fun c4 => ?_) (fun c4 => ?_)
      · have h := g_t c4 h
        exact q_weak (z_wk_s (z_wk_s (z_wk_s (z_wk_s (z_wk_n (z_wk_0)))))) (t_X7_nextOrder_74 n cx ce x1 x2 x3 S h)
      · have h := g_f c4 h
        refine z_iinc (c := (-1)) (L' := [some (.ref (z_ad g 28)), some (.int x1), some (.int x2), some (.int (x3 + (-1))), none]) cx rfl (by decide +kernel) (by decide) rfl dX7_nextOrder_68 ?_
        refine z_goto (tgt := 46) cx (by decide) dX7_nextOrder_71 ?_
        exact q_weak (z_wk_s (z_wk_s (z_wk_s (z_wk_s (z_wk_n (z_wk_0)))))) (ih x1 x2 (x3 + (-1)) S h)
def f_X7_nextOrder_37 (n : Nat) (x1 : Int32) (x2 : Int32) (S : z_Stt) : Option (Bool × z_Stt) :=
  if 1 < x2 then
    f_X7_nextOrder_46 n n x1 x2 x1 S
  else
    some (false, S)
set_option maxHeartbeats 4000000 in
set_option maxRecDepth 100000 in
theorem t_X7_nextOrder_37 {g : z_G} {K : z_K} (n : Nat) {v : Bool} {S' : z_Stt} (cx : z_C g M_X7_nextOrder 1 K) (ce : z_E' g M_X7_nextOrder (z_P g (some (.int (bI v))) S') K) (x1 : Int32) (x2 : Int32) (S : z_Stt) (h : f_X7_nextOrder_37 n x1 x2 S = some (v, S')) : z_At g M_X7_nextOrder K 37 [some (.ref (z_ad g 28)), some (.int x1), some (.int x2), none, none] [] (hp g S) := by
  unfold f_X7_nextOrder_37 at h
  refine z_iload_n cx rfl rfl dX7_nextOrder_37 ?_
  refine z_iconst (v := 1) cx (by decide +kernel) dX7_nextOrder_38 ?_
  refine z_icmp_gt (tgt := 44) cx (by decide) dX7_nextOrder_39 (fun c1 => ?_) (fun c1 => ?_)
  · have h := g_t c1 h
    refine z_iload_n cx rfl rfl dX7_nextOrder_44 ?_
    refine z_istore_n (L' := [some (.ref (z_ad g 28)), some (.int x1), some (.int x2), some (.int x1), none]) cx rfl (by decide) rfl dX7_nextOrder_45 ?_
    exact q_weak (z_wk_s (z_wk_s (z_wk_s (z_wk_s (z_wk_n (z_wk_0)))))) (t_X7_nextOrder_46 n cx ce n x1 x2 x1 S h)
  · have h := g_f c1 h
    refine z_iconst (v := 0) cx (by decide +kernel) dX7_nextOrder_42 ?_
    obtain ⟨rfl, rfl⟩ := g_some h
    exact z_zreturn cx ce rfl (by decide +kernel) ⟨rfl, rfl⟩ dX7_nextOrder_43
def f_X7_nextOrder_9 (n : Nat) : Nat → Int32 → Int32 → z_Stt → Option (Bool × z_Stt)
  | 0, _, _, _ => none
  | m + 1, x1, x2, S =>
    if x2 ≤ 1 then
      f_X7_nextOrder_37 n x1 x2 S
    else
      if ¬ (x2 - 1 < 0 ∨ 7 ≤ (x2 - 1).toNatClampNeg) then
        if ¬ (x2 < 0 ∨ 7 ≤ x2.toNatClampNeg) then
          if S.2.2.1 29 (x2 - 1).toNatClampNeg ≤ S.2.2.1 29 x2.toNatClampNeg then
            f_X7_nextOrder_37 n x1 x2 S
          else
            f_X7_nextOrder_9 n m x1 (x2 + (-1)) S
        else none
      else none
set_option maxHeartbeats 4000000 in
set_option maxRecDepth 100000 in
theorem t_X7_nextOrder_9 {g : z_G} {K : z_K} (n : Nat) {v : Bool} {S' : z_Stt} (cx : z_C g M_X7_nextOrder 1 K) (ce : z_E' g M_X7_nextOrder (z_P g (some (.int (bI v))) S') K) : ∀ (m : Nat) (x1 : Int32) (x2 : Int32) (S : z_Stt) (h : f_X7_nextOrder_9 n m x1 x2 S = some (v, S')), z_At g M_X7_nextOrder K 9 [some (.ref (z_ad g 28)), some (.int x1), some (.int x2), none, none] [] (hp g S) := by
  intro m
  induction m with
  | zero => intro x1 x2 S h; simp [f_X7_nextOrder_9] at h
  | succ m ih =>
    intro x1 x2 S h
    rw [f_X7_nextOrder_9] at h
    refine z_iload_n cx rfl rfl dX7_nextOrder_9 ?_
    refine z_iconst (v := 1) cx (by decide +kernel) dX7_nextOrder_10 ?_
    refine z_icmp_le (tgt := 37) cx (by decide) dX7_nextOrder_11 (fun c1 => ?_) (fun c1 => ?_)
    · have h := g_t c1 h
      exact q_weak (z_wk_s (z_wk_s (z_wk_s (z_wk_n (z_wk_n (z_wk_0)))))) (t_X7_nextOrder_37 n cx ce x1 x2 S h)
    · have h := g_f c1 h
      refine z_aload_n cx rfl rfl dX7_nextOrder_14 ?_
      refine q_getF (k := 28) (n := 29) (r := 1) cx z_cl7 (j := 0) (by decide) tb_110 rfl (by decide) rfl rfl rfl dX7_nextOrder_15 ?_
      refine z_iload_n cx rfl rfl dX7_nextOrder_18 ?_
      refine z_iconst (v := 1) cx (by decide +kernel) dX7_nextOrder_19 ?_
      refine z_isub cx dX7_nextOrder_20 ?_
      obtain ⟨c2, h⟩ := g_if h
      refine q_iald cx (by decide) rfl c2 dX7_nextOrder_21 ?_
      refine z_aload_n cx rfl rfl dX7_nextOrder_22 ?_
      refine q_getF (k := 28) (n := 29) (r := 1) cx z_cl7 (j := 0) (by decide) tb_110 rfl (by decide) rfl rfl rfl dX7_nextOrder_23 ?_
      refine z_iload_n cx rfl rfl dX7_nextOrder_26 ?_
      obtain ⟨c3, h⟩ := g_if h
      refine q_iald cx (by decide) rfl c3 dX7_nextOrder_27 ?_
      refine z_icmp_le (tgt := 37) cx (by decide) dX7_nextOrder_28 (fun c4 => ?_) (fun c4 => ?_)
      · have h := g_t c4 h
        exact q_weak (z_wk_s (z_wk_s (z_wk_s (z_wk_n (z_wk_n (z_wk_0)))))) (t_X7_nextOrder_37 n cx ce x1 x2 S h)
      · have h := g_f c4 h
        refine z_iinc (c := (-1)) (L' := [some (.ref (z_ad g 28)), some (.int x1), some (.int (x2 + (-1))), none, none]) cx rfl (by decide +kernel) (by decide) rfl dX7_nextOrder_31 ?_
        refine z_goto (tgt := 9) cx (by decide) dX7_nextOrder_34 ?_
        exact q_weak (z_wk_s (z_wk_s (z_wk_s (z_wk_n (z_wk_n (z_wk_0)))))) (ih x1 (x2 + (-1)) S h)
def f_X7_nextOrder (n : Nat) (S : z_Stt) : Option (Bool × z_Stt) :=
  f_X7_nextOrder_9 n n ((S.1 2802) - 2) ((S.1 2802) - 2) S
set_option maxHeartbeats 4000000 in
set_option maxRecDepth 100000 in
theorem t_X7_nextOrder {g : z_G} {K : z_K} (n : Nat) {v : Bool} {S' : z_Stt} (cx : z_C g M_X7_nextOrder 1 K) (ce : z_E' g M_X7_nextOrder (z_P g (some (.int (bI v))) S') K) (S : z_Stt) (h : f_X7_nextOrder n S = some (v, S')) : z_At g M_X7_nextOrder K 0 [some (.ref (z_ad g 28)), none, none, none, none] [] (hp g S) := by
  unfold f_X7_nextOrder at h
  refine z_aload_n cx rfl rfl dX7_nextOrder_0 ?_
  refine q_getI (k := 28) (n := 2802) cx z_cl7 (j := 2) (by decide) tb_112 rfl (by decide) rfl rfl rfl dX7_nextOrder_1 ?_
  refine z_iconst (v := 2) cx (by decide +kernel) dX7_nextOrder_4 ?_
  refine z_isub cx dX7_nextOrder_5 ?_
  refine z_istore_n (L' := [some (.ref (z_ad g 28)), some (.int ((S.1 2802) - 2)), none, none, none]) cx rfl (by decide) rfl dX7_nextOrder_6 ?_
  refine z_iload_n cx rfl rfl dX7_nextOrder_7 ?_
  refine z_istore_n (L' := [some (.ref (z_ad g 28)), some (.int ((S.1 2802) - 2)), some (.int ((S.1 2802) - 2)), none, none]) cx rfl (by decide) rfl dX7_nextOrder_8 ?_
  exact q_weak (z_wk_s (z_wk_s (z_wk_s (z_wk_n (z_wk_n (z_wk_0)))))) (t_X7_nextOrder_9 n cx ce n ((S.1 2802) - 2) ((S.1 2802) - 2) S h)
theorem c_X7_nextOrder {g : z_G} {n : Nat} (S : z_Stt) {v : Bool} {S' : z_Stt} (h : f_X7_nextOrder n S = some (v, S')) : z_Ct g M_X7_nextOrder 1 [.ref (z_ad g 28)] (hp g S) (z_P g (some (.int (bI v))) S') :=
  z_Ct.of (by decide +kernel) rfl (Nat.le_of_ble_eq_true rfl) (fun K cx ce => q_weak (L' := [some (.ref (z_ad g 28)), none, none, none, none]) (z_wk_s (z_wk_e (z_wk_e (z_wk_e (z_wk_e (z_wk_0)))))) (t_X7_nextOrder n cx ce S h))
abbrev M_X7_find : z_M := (RX7, yX7_find, cX7_find, 7, none)
theorem mo_X7_find : z_mo M_X7_find 4 := ⟨tb_735, tb_41, rfl, ⟨by decide +kernel, by decide +kernel⟩, by decide +kernel, by decide⟩
theorem mv_X7_find : z_mv M_X7_find := ⟨tb_733, tb_734⟩
def f_X7_find_64 (n : Nat) (k24 : Int32 → z_Stt → Option (Unit × z_Stt)) (x5 : Int32) (S : z_Stt) : Option (Unit × z_Stt) :=
  k24 (x5 + 1) S
set_option maxHeartbeats 4000000 in
set_option maxRecDepth 100000 in
theorem t_X7_find_64 {g : z_G} {K : z_K} (n : Nat) {v : Unit} {S' : z_Stt} (cx : z_C g M_X7_find 4 K) (ce : z_E' g M_X7_find (z_P g (none) S') K) (k24 : Int32 → z_Stt → Option (Unit × z_Stt)) (hk24 : ∀ (x5 : Int32) (S : z_Stt), k24 x5 S = some (v, S') → z_At g M_X7_find K 24 [some (.ref (z_ad g 28)), some (.ref (z_ad g 1)), none, none, none, some (.int x5), none] [] (hp g S)) (x5 : Int32) (S : z_Stt) (h : f_X7_find_64 n k24 x5 S = some (v, S')) : z_At g M_X7_find K 64 [some (.ref (z_ad g 28)), some (.ref (z_ad g 1)), none, none, none, some (.int x5), none] [] (hp g S) := by
  unfold f_X7_find_64 at h
  refine z_iinc (c := 1) (L' := [some (.ref (z_ad g 28)), some (.ref (z_ad g 1)), none, none, none, some (.int (x5 + 1)), none]) cx rfl (by decide +kernel) (by decide) rfl dX7_find_64 ?_
  refine z_goto (tgt := 24) cx (by decide) dX7_find_67 ?_
  exact q_weak (z_wk_s (z_wk_s (z_wk_n (z_wk_n (z_wk_n (z_wk_s (z_wk_n (z_wk_0)))))))) (hk24 (x5 + 1) S h)
def f_X7_find_24 (n : Nat) : Nat → Int32 → z_Stt → Option (Unit × z_Stt)
  | 0, _, _ => none
  | m + 1, x5, S =>
    if 120 ≤ x5 then
      some ((), S)
    else
      g_bd (f_X7_nextOrder n S) fun v2 S3 =>
      if v2 = true then
        g_bd (f_X7_yardsOf n S3) fun v6 S7 =>
        if S7.1 2803 ≤ v6 then
          f_X7_find_64 n (f_X7_find_24 n m) x5 S7
        else
          g_let (sI S7 2803 v6) fun S10 =>
          g_bd (f_X7_keepOrder n S10) fun v12 S13 =>
          f_X7_find_64 n (f_X7_find_24 n m) x5 S13
      else
        some ((), S3)
set_option maxHeartbeats 4000000 in
set_option maxRecDepth 100000 in
theorem t_X7_find_24 {g : z_G} {K : z_K} (n : Nat) {v : Unit} {S' : z_Stt} (cx : z_C g M_X7_find 4 K) (ce : z_E' g M_X7_find (z_P g (none) S') K) : ∀ (m : Nat) (x5 : Int32) (S : z_Stt) (h : f_X7_find_24 n m x5 S = some (v, S')), z_At g M_X7_find K 24 [some (.ref (z_ad g 28)), some (.ref (z_ad g 1)), none, none, none, some (.int x5), none] [] (hp g S) := by
  intro m
  induction m with
  | zero => intro x5 S h; simp [f_X7_find_24] at h
  | succ m ih =>
    intro x5 S h
    rw [f_X7_find_24] at h
    refine z_iload cx rfl dX7_find_24 ?_
    refine z_bipush (v := 120) cx (by decide +kernel) dX7_find_26 ?_
    refine z_icmp_ge (tgt := 70) cx (by decide) dX7_find_28 (fun c1 => ?_) (fun c1 => ?_)
    · have h := g_t c1 h
      obtain ⟨rfl, rfl⟩ := g_some h
      exact z_return cx ce rfl ⟨rfl, rfl⟩ dX7_find_70
    · have h := g_f c1 h
      refine z_aload_n cx rfl rfl dX7_find_31 ?_
      obtain ⟨v2, S3, e4, h⟩ := g_bd_ex h
      refine q_cvi (As := []) cx mo_X7_nextOrder mv_X7_nextOrder z_cl7 rfl tb_752 (by decide) rfl (by decide) rfl rfl (Nat.le_of_ble_eq_true rfl) dX7_find_32 (c_X7_nextOrder  _ e4) ?_
      refine q_ifb_eq (tgt := 70) cx (by decide) dX7_find_35 (fun c5 => ?_) (fun c5 => ?_)
      · have h := g_f (Bool.eq_false_iff.mp c5) h
        obtain ⟨rfl, rfl⟩ := g_some h
        exact z_return cx ce rfl ⟨rfl, rfl⟩ dX7_find_70
      · have h := g_t c5 h
        refine z_aload_n cx rfl rfl dX7_find_38 ?_
        refine z_aload_n cx rfl rfl dX7_find_39 ?_
        obtain ⟨v6, S7, e8, h⟩ := g_bd_ex h
        refine q_cvi (As := [.ref (z_ad g 1)]) cx mo_X7_yardsOf mv_X7_yardsOf z_cl7 rfl tb_740 (by decide) rfl (by decide) rfl rfl (Nat.le_of_ble_eq_true rfl) dX7_find_40 (c_X7_yardsOf  _ e8) ?_
        refine z_istore (L' := [some (.ref (z_ad g 28)), some (.ref (z_ad g 1)), none, none, none, some (.int x5), some (.int v6)]) cx (by decide) rfl dX7_find_43 ?_
        refine z_iload cx rfl dX7_find_45 ?_
        refine z_aload_n cx rfl rfl dX7_find_47 ?_
        refine q_getI (k := 28) (n := 2803) cx z_cl7 (j := 3) (by decide) tb_113 rfl (by decide) rfl rfl rfl dX7_find_48 ?_
        refine z_icmp_ge (tgt := 64) cx (by decide) dX7_find_51 (fun c9 => ?_) (fun c9 => ?_)
        · have h := g_t c9 h
          exact q_weak (z_wk_s (z_wk_s (z_wk_n (z_wk_n (z_wk_n (z_wk_s (z_wk_n (z_wk_0)))))))) (t_X7_find_64 n cx ce (f_X7_find_24 n m) ih x5 S7 h)
        · have h := g_f c9 h
          refine z_aload_n cx rfl rfl dX7_find_54 ?_
          refine z_iload cx rfl dX7_find_55 ?_
          refine q_putI (k := 28) (n := 2803) cx z_cl7 (j := 3) (by decide) tb_113 rfl rfl rfl (by decide) rfl rfl rfl (by decide) (by decide) dX7_find_57 ?_
          obtain ⟨S10, e11, h⟩ := g_let_ex h
          rw [← e11]
          refine z_aload_n cx rfl rfl dX7_find_60 ?_
          obtain ⟨v12, S13, e14, h⟩ := g_bd_ex h
          refine q_cvv (As := []) cx mo_X7_keepOrder mv_X7_keepOrder z_cl7 rfl tb_748 (by decide) rfl (by decide) rfl rfl (Nat.le_of_ble_eq_true rfl) dX7_find_61 (c_X7_keepOrder  _ e14) ?_
          exact q_weak (z_wk_s (z_wk_s (z_wk_n (z_wk_n (z_wk_n (z_wk_s (z_wk_n (z_wk_0)))))))) (t_X7_find_64 n cx ce (f_X7_find_24 n m) ih x5 S13 h)
def f_X7_find (n : Nat) (a1 : Int32) (a2 : Int32) (a3 : Int32) (S : z_Stt) : Option (Unit × z_Stt) :=
  g_bd (f_X7_begin n a1 a2 a3 S) fun v1 S2 =>
  g_bd (f_X7_yardsOf n S2) fun v4 S5 =>
  g_let (sI S5 2803 v4) fun S7 =>
  g_bd (f_X7_keepOrder n S7) fun v9 S10 =>
  f_X7_find_24 n n 1 S10
set_option maxHeartbeats 4000000 in
set_option maxRecDepth 100000 in
theorem t_X7_find {g : z_G} {K : z_K} (n : Nat) {v : Unit} {S' : z_Stt} (cx : z_C g M_X7_find 4 K) (ce : z_E' g M_X7_find (z_P g (none) S') K) (a1 : Int32) (a2 : Int32) (a3 : Int32) (S : z_Stt) (h : f_X7_find n a1 a2 a3 S = some (v, S')) : z_At g M_X7_find K 0 [some (.ref (z_ad g 28)), some (.ref (z_ad g 1)), some (.int a1), some (.int a2), some (.int a3), none, none] [] (hp g S) := by
  unfold f_X7_find at h
  refine z_aload_n cx rfl rfl dX7_find_0 ?_
  refine z_iload_n cx rfl rfl dX7_find_1 ?_
  refine z_iload_n cx rfl rfl dX7_find_2 ?_
  refine z_iload cx rfl dX7_find_3 ?_
  obtain ⟨v1, S2, e3, h⟩ := g_bd_ex h
  refine q_cvv (As := [.int a1, .int a2, .int a3]) cx mo_X7_begin mv_X7_begin z_cl7 rfl tb_736 (by decide) rfl (by decide) rfl rfl (Nat.le_of_ble_eq_true rfl) dX7_find_5 (c_X7_begin a1 a2 a3 _ e3) ?_
  refine z_aload_n cx rfl rfl dX7_find_8 ?_
  refine z_aload_n cx rfl rfl dX7_find_9 ?_
  refine z_aload_n cx rfl rfl dX7_find_10 ?_
  obtain ⟨v4, S5, e6, h⟩ := g_bd_ex h
  refine q_cvi (As := [.ref (z_ad g 1)]) cx mo_X7_yardsOf mv_X7_yardsOf z_cl7 rfl tb_740 (by decide) rfl (by decide) rfl rfl (Nat.le_of_ble_eq_true rfl) dX7_find_11 (c_X7_yardsOf  _ e6) ?_
  refine q_putI (k := 28) (n := 2803) cx z_cl7 (j := 3) (by decide) tb_113 rfl rfl rfl (by decide) rfl rfl rfl (by decide) (by decide) dX7_find_14 ?_
  obtain ⟨S7, e8, h⟩ := g_let_ex h
  rw [← e8]
  refine z_aload_n cx rfl rfl dX7_find_17 ?_
  obtain ⟨v9, S10, e11, h⟩ := g_bd_ex h
  refine q_cvv (As := []) cx mo_X7_keepOrder mv_X7_keepOrder z_cl7 rfl tb_748 (by decide) rfl (by decide) rfl rfl (Nat.le_of_ble_eq_true rfl) dX7_find_18 (c_X7_keepOrder  _ e11) ?_
  refine z_iconst (v := 1) cx (by decide +kernel) dX7_find_21 ?_
  refine z_istore (L' := [some (.ref (z_ad g 28)), some (.ref (z_ad g 1)), some (.int a1), some (.int a2), some (.int a3), some (.int 1), none]) cx (by decide) rfl dX7_find_22 ?_
  exact q_weak (z_wk_s (z_wk_s (z_wk_n (z_wk_n (z_wk_n (z_wk_s (z_wk_n (z_wk_0)))))))) (t_X7_find_24 n cx ce n 1 S10 h)
theorem c_X7_find {g : z_G} {n : Nat} (a1 : Int32) (a2 : Int32) (a3 : Int32) (S : z_Stt) {v : Unit} {S' : z_Stt} (h : f_X7_find n a1 a2 a3 S = some (v, S')) : z_Ct g M_X7_find 4 [.ref (z_ad g 28), .ref (z_ad g 1), .int a1, .int a2, .int a3] (hp g S) (z_P g (none) S') :=
  z_Ct.of (by decide +kernel) rfl (Nat.le_of_ble_eq_true rfl) (fun K cx ce => q_weak (L' := [some (.ref (z_ad g 28)), some (.ref (z_ad g 1)), some (.int a1), some (.int a2), some (.int a3), none, none]) (z_wk_s (z_wk_s (z_wk_s (z_wk_s (z_wk_s (z_wk_e (z_wk_e (z_wk_0)))))))) (t_X7_find n cx ce a1 a2 a3 S h))
